section
-- ===== PART A: goes FIRST, ahead of the names: the tables' words, and 'selects' of the private methods out of them =====
/-- a private method of a class that the tables say can be made, by its rows of tables_1 -/
def lw_okq (q : MethodName × Nat) : Prop := (q.1.cls ≠ "java/lang/invoke/MethodHandle" ∧ q.1.cls ≠ "java/lang/invoke/VarHandle") ∧ Cond.instantiable q.1.cls q.2 ∈ tables_1 ∧ Cond.privateMethod q.1 ∈ tables_1 ∧ Cond.instanceMethod q.1 ∈ tables_1
theorem lw_p0 : lw_okq (⟨"TypebarLayout", "textIsLayout", "()Z"⟩, 12) := ⟨⟨by decide +kernel, by decide +kernel⟩, List.mem_of_getElem? (i := 6) (by decide +kernel), List.mem_of_getElem? (i := 124) (by decide +kernel), List.mem_of_getElem? (i := 125) (by decide +kernel)⟩
theorem lw_p1 : lw_okq (⟨"TypebarLayout", "place", "(II)V"⟩, 12) := ⟨⟨by decide +kernel, by decide +kernel⟩, List.mem_of_getElem? (i := 6) (by decide +kernel), List.mem_of_getElem? (i := 129) (by decide +kernel), List.mem_of_getElem? (i := 130) (by decide +kernel)⟩
theorem lw_p2 : lw_okq (⟨"TypebarLayout", "makeSwap", "(II)V"⟩, 12) := ⟨⟨by decide +kernel, by decide +kernel⟩, List.mem_of_getElem? (i := 6) (by decide +kernel), List.mem_of_getElem? (i := 149) (by decide +kernel), List.mem_of_getElem? (i := 150) (by decide +kernel)⟩
theorem lw_p3 : lw_okq (⟨"TypebarLayout", "exchange", "(II)V"⟩, 12) := ⟨⟨by decide +kernel, by decide +kernel⟩, List.mem_of_getElem? (i := 6) (by decide +kernel), List.mem_of_getElem? (i := 153) (by decide +kernel), List.mem_of_getElem? (i := 154) (by decide +kernel)⟩
theorem lw_p4 : lw_okq (⟨"TypebarLayout", "forgetOldestSwap", "()V"⟩, 12) := ⟨⟨by decide +kernel, by decide +kernel⟩, List.mem_of_getElem? (i := 6) (by decide +kernel), List.mem_of_getElem? (i := 157) (by decide +kernel), List.mem_of_getElem? (i := 158) (by decide +kernel)⟩
theorem lw_p5 : lw_okq (⟨"TypebarLayout", "closeness", "(II)I"⟩, 12) := ⟨⟨by decide +kernel, by decide +kernel⟩, List.mem_of_getElem? (i := 6) (by decide +kernel), List.mem_of_getElem? (i := 165) (by decide +kernel), List.mem_of_getElem? (i := 166) (by decide +kernel)⟩
theorem lw_p6 : lw_okq (⟨"TypebarLayout", "costAfterSwap", "(II)I"⟩, 12) := ⟨⟨by decide +kernel, by decide +kernel⟩, List.mem_of_getElem? (i := 6) (by decide +kernel), List.mem_of_getElem? (i := 193) (by decide +kernel), List.mem_of_getElem? (i := 194) (by decide +kernel)⟩
theorem lw_p7 : lw_okq (⟨"TypebarLayout", "closenessOf", "(I)I"⟩, 12) := ⟨⟨by decide +kernel, by decide +kernel⟩, List.mem_of_getElem? (i := 6) (by decide +kernel), List.mem_of_getElem? (i := 210) (by decide +kernel), List.mem_of_getElem? (i := 211) (by decide +kernel)⟩
theorem lw_p8 : lw_okq (⟨"TypebarLayout", "typeText", "(LTypebarLayout$Typing;I)V"⟩, 12) := ⟨⟨by decide +kernel, by decide +kernel⟩, List.mem_of_getElem? (i := 6) (by decide +kernel), List.mem_of_getElem? (i := 218) (by decide +kernel), List.mem_of_getElem? (i := 219) (by decide +kernel)⟩
theorem lw_p9 : lw_okq (⟨"TypebarLayout$Typing", "begin", "()V"⟩, 7) := ⟨⟨by decide +kernel, by decide +kernel⟩, List.mem_of_getElem? (i := 14) (by decide +kernel), List.mem_of_getElem? (i := 222) (by decide +kernel), List.mem_of_getElem? (i := 223) (by decide +kernel)⟩
theorem lw_p10 : lw_okq (⟨"TypebarLayout", "strike", "(LTypebarLayout$Typing;II)Z"⟩, 12) := ⟨⟨by decide +kernel, by decide +kernel⟩, List.mem_of_getElem? (i := 6) (by decide +kernel), List.mem_of_getElem? (i := 226) (by decide +kernel), List.mem_of_getElem? (i := 227) (by decide +kernel)⟩
theorem lw_p11 : lw_okq (⟨"TypebarLayout$Typing", "inMotion", "(II)Z"⟩, 7) := ⟨⟨by decide +kernel, by decide +kernel⟩, List.mem_of_getElem? (i := 14) (by decide +kernel), List.mem_of_getElem? (i := 230) (by decide +kernel), List.mem_of_getElem? (i := 231) (by decide +kernel)⟩
theorem lw_p12 : lw_okq (⟨"TypebarLayout$Typing", "stopAround", "(III)Z"⟩, 7) := ⟨⟨by decide +kernel, by decide +kernel⟩, List.mem_of_getElem? (i := 14) (by decide +kernel), List.mem_of_getElem? (i := 234) (by decide +kernel), List.mem_of_getElem? (i := 235) (by decide +kernel)⟩
theorem lw_p13 : lw_okq (⟨"TypebarLayout$Typing", "addJammed", "(I)V"⟩, 7) := ⟨⟨by decide +kernel, by decide +kernel⟩, List.mem_of_getElem? (i := 14) (by decide +kernel), List.mem_of_getElem? (i := 243) (by decide +kernel), List.mem_of_getElem? (i := 244) (by decide +kernel)⟩
theorem lw_p14 : lw_okq (⟨"TypebarLayout$Typing", "addPrinted", "(I)V"⟩, 7) := ⟨⟨by decide +kernel, by decide +kernel⟩, List.mem_of_getElem? (i := 14) (by decide +kernel), List.mem_of_getElem? (i := 247) (by decide +kernel), List.mem_of_getElem? (i := 248) (by decide +kernel)⟩
theorem lw_p15 : lw_okq (⟨"TypebarLayoutModel", "isLayout", "()Z"⟩, 20) := ⟨⟨by decide +kernel, by decide +kernel⟩, List.mem_of_getElem? (i := 289) (by decide +kernel), List.mem_of_getElem? (i := 393) (by decide +kernel), List.mem_of_getElem? (i := 394) (by decide +kernel)⟩
def lw_privs_1 : List (MethodName × Nat) := [(⟨"TypebarLayout", "textIsLayout", "()Z"⟩, 12), (⟨"TypebarLayout", "place", "(II)V"⟩, 12), (⟨"TypebarLayout", "makeSwap", "(II)V"⟩, 12), (⟨"TypebarLayout", "exchange", "(II)V"⟩, 12), (⟨"TypebarLayout", "forgetOldestSwap", "()V"⟩, 12), (⟨"TypebarLayout", "closeness", "(II)I"⟩, 12), (⟨"TypebarLayout", "costAfterSwap", "(II)I"⟩, 12), (⟨"TypebarLayout", "closenessOf", "(I)I"⟩, 12), (⟨"TypebarLayout", "typeText", "(LTypebarLayout$Typing;I)V"⟩, 12), (⟨"TypebarLayout$Typing", "begin", "()V"⟩, 7), (⟨"TypebarLayout", "strike", "(LTypebarLayout$Typing;II)Z"⟩, 12), (⟨"TypebarLayout$Typing", "inMotion", "(II)Z"⟩, 7), (⟨"TypebarLayout$Typing", "stopAround", "(III)Z"⟩, 7), (⟨"TypebarLayout$Typing", "addJammed", "(I)V"⟩, 7), (⟨"TypebarLayout$Typing", "addPrinted", "(I)V"⟩, 7), (⟨"TypebarLayoutModel", "isLayout", "()Z"⟩, 20)]
theorem lw_r1 : ∀ q ∈ lw_privs_1, lw_okq q := List.forall_mem_cons.mpr ⟨lw_p0, List.forall_mem_cons.mpr ⟨lw_p1, List.forall_mem_cons.mpr ⟨lw_p2, List.forall_mem_cons.mpr ⟨lw_p3, List.forall_mem_cons.mpr ⟨lw_p4, List.forall_mem_cons.mpr ⟨lw_p5, List.forall_mem_cons.mpr ⟨lw_p6, List.forall_mem_cons.mpr ⟨lw_p7, List.forall_mem_cons.mpr ⟨lw_p8, List.forall_mem_cons.mpr ⟨lw_p9, List.forall_mem_cons.mpr ⟨lw_p10, List.forall_mem_cons.mpr ⟨lw_p11, List.forall_mem_cons.mpr ⟨lw_p12, List.forall_mem_cons.mpr ⟨lw_p13, List.forall_mem_cons.mpr ⟨lw_p14, List.forall_mem_cons.mpr ⟨lw_p15, fun _ h => absurd h List.not_mem_nil⟩⟩⟩⟩⟩⟩⟩⟩⟩⟩⟩⟩⟩⟩⟩⟩
theorem lw_p16 : lw_okq (⟨"TypebarLayoutModel", "swapNow", "(II)V"⟩, 20) := ⟨⟨by decide +kernel, by decide +kernel⟩, List.mem_of_getElem? (i := 289) (by decide +kernel), List.mem_of_getElem? (i := 414) (by decide +kernel), List.mem_of_getElem? (i := 415) (by decide +kernel)⟩
theorem lw_p17 : lw_okq (⟨"TypebarLayoutModel", "exchange", "(II)V"⟩, 20) := ⟨⟨by decide +kernel, by decide +kernel⟩, List.mem_of_getElem? (i := 289) (by decide +kernel), List.mem_of_getElem? (i := 418) (by decide +kernel), List.mem_of_getElem? (i := 419) (by decide +kernel)⟩
theorem lw_p18 : lw_okq (⟨"TypebarLayoutModel", "costNow", "()I"⟩, 20) := ⟨⟨by decide +kernel, by decide +kernel⟩, List.mem_of_getElem? (i := 289) (by decide +kernel), List.mem_of_getElem? (i := 422) (by decide +kernel), List.mem_of_getElem? (i := 423) (by decide +kernel)⟩
theorem lw_p19 : lw_okq (⟨"TypebarLayoutModel", "closeness", "(II)I"⟩, 20) := ⟨⟨by decide +kernel, by decide +kernel⟩, List.mem_of_getElem? (i := 289) (by decide +kernel), List.mem_of_getElem? (i := 426) (by decide +kernel), List.mem_of_getElem? (i := 427) (by decide +kernel)⟩
theorem lw_p20 : lw_okq (⟨"TypebarLayoutModel", "gainNow", "(II)I"⟩, 20) := ⟨⟨by decide +kernel, by decide +kernel⟩, List.mem_of_getElem? (i := 289) (by decide +kernel), List.mem_of_getElem? (i := 454) (by decide +kernel), List.mem_of_getElem? (i := 455) (by decide +kernel)⟩
theorem lw_p21 : lw_okq (⟨"TypebarLayoutModel", "bestNow", "()I"⟩, 20) := ⟨⟨by decide +kernel, by decide +kernel⟩, List.mem_of_getElem? (i := 289) (by decide +kernel), List.mem_of_getElem? (i := 462) (by decide +kernel), List.mem_of_getElem? (i := 463) (by decide +kernel)⟩
theorem lw_p22 : lw_okq (⟨"TypebarLayoutModel", "worstNow", "()I"⟩, 20) := ⟨⟨by decide +kernel, by decide +kernel⟩, List.mem_of_getElem? (i := 289) (by decide +kernel), List.mem_of_getElem? (i := 474) (by decide +kernel), List.mem_of_getElem? (i := 475) (by decide +kernel)⟩
theorem lw_p23 : lw_okq (⟨"TypebarLayoutModel", "partOf", "(I)I"⟩, 20) := ⟨⟨by decide +kernel, by decide +kernel⟩, List.mem_of_getElem? (i := 289) (by decide +kernel), List.mem_of_getElem? (i := 478) (by decide +kernel), List.mem_of_getElem? (i := 479) (by decide +kernel)⟩
theorem lw_p24 : lw_okq (⟨"TypebarLayoutModel", "type", "(I)V"⟩, 20) := ⟨⟨by decide +kernel, by decide +kernel⟩, List.mem_of_getElem? (i := 289) (by decide +kernel), List.mem_of_getElem? (i := 486) (by decide +kernel), List.mem_of_getElem? (i := 487) (by decide +kernel)⟩
theorem lw_p25 : lw_okq (⟨"TypebarLayoutModel", "stroke", "(II)I"⟩, 20) := ⟨⟨by decide +kernel, by decide +kernel⟩, List.mem_of_getElem? (i := 289) (by decide +kernel), List.mem_of_getElem? (i := 490) (by decide +kernel), List.mem_of_getElem? (i := 491) (by decide +kernel)⟩
theorem lw_p26 : lw_okq (⟨"TypebarLayoutModel", "safeNow", "()I"⟩, 20) := ⟨⟨by decide +kernel, by decide +kernel⟩, List.mem_of_getElem? (i := 289) (by decide +kernel), List.mem_of_getElem? (i := 518) (by decide +kernel), List.mem_of_getElem? (i := 519) (by decide +kernel)⟩
theorem lw_p27 : lw_okq (⟨"TypebarLayoutModel", "isSafe", "(I)Z"⟩, 20) := ⟨⟨by decide +kernel, by decide +kernel⟩, List.mem_of_getElem? (i := 289) (by decide +kernel), List.mem_of_getElem? (i := 522) (by decide +kernel), List.mem_of_getElem? (i := 523) (by decide +kernel)⟩
theorem lw_p28 : lw_okq (⟨"TypebarLayoutModel", "mix", "(J)V"⟩, 20) := ⟨⟨by decide +kernel, by decide +kernel⟩, List.mem_of_getElem? (i := 289) (by decide +kernel), List.mem_of_getElem? (i := 531) (by decide +kernel), List.mem_of_getElem? (i := 532) (by decide +kernel)⟩
def lw_privs_2 : List (MethodName × Nat) := [(⟨"TypebarLayoutModel", "swapNow", "(II)V"⟩, 20), (⟨"TypebarLayoutModel", "exchange", "(II)V"⟩, 20), (⟨"TypebarLayoutModel", "costNow", "()I"⟩, 20), (⟨"TypebarLayoutModel", "closeness", "(II)I"⟩, 20), (⟨"TypebarLayoutModel", "gainNow", "(II)I"⟩, 20), (⟨"TypebarLayoutModel", "bestNow", "()I"⟩, 20), (⟨"TypebarLayoutModel", "worstNow", "()I"⟩, 20), (⟨"TypebarLayoutModel", "partOf", "(I)I"⟩, 20), (⟨"TypebarLayoutModel", "type", "(I)V"⟩, 20), (⟨"TypebarLayoutModel", "stroke", "(II)I"⟩, 20), (⟨"TypebarLayoutModel", "safeNow", "()I"⟩, 20), (⟨"TypebarLayoutModel", "isSafe", "(I)Z"⟩, 20), (⟨"TypebarLayoutModel", "mix", "(J)V"⟩, 20)]
theorem lw_r2 : ∀ q ∈ lw_privs_2, lw_okq q := List.forall_mem_cons.mpr ⟨lw_p16, List.forall_mem_cons.mpr ⟨lw_p17, List.forall_mem_cons.mpr ⟨lw_p18, List.forall_mem_cons.mpr ⟨lw_p19, List.forall_mem_cons.mpr ⟨lw_p20, List.forall_mem_cons.mpr ⟨lw_p21, List.forall_mem_cons.mpr ⟨lw_p22, List.forall_mem_cons.mpr ⟨lw_p23, List.forall_mem_cons.mpr ⟨lw_p24, List.forall_mem_cons.mpr ⟨lw_p25, List.forall_mem_cons.mpr ⟨lw_p26, List.forall_mem_cons.mpr ⟨lw_p27, List.forall_mem_cons.mpr ⟨lw_p28, fun _ h => absurd h List.not_mem_nil⟩⟩⟩⟩⟩⟩⟩⟩⟩⟩⟩⟩⟩
def lw_privs : List (MethodName × Nat) := lw_privs_1 ++ (lw_privs_2)
def lw_tbl : List Cond := k2_sels lw_privs ++ tables_1
theorem lw_privs_ok : ∀ q ∈ lw_privs, lw_okq q := by
  show ∀ q ∈ lw_privs_1 ++ (lw_privs_2), lw_okq q
  exact List.forall_mem_append.mpr ⟨lw_r1, lw_r2⟩
end
section
/-! ===== BEGIN words of one list among another's, by their places ===== -/
theorem goodIn_r {big : List Cond} (ws : List Cond) (ps : List Nat) (hp : ws = ps.filterMap (fun i => big[i]?)) (h : ws.all goodWord = true) : GoodIn big ws := by
  intro w hw
  have h1 := List.all_eq_true.mp h w hw
  rw [hp] at hw
  obtain ⟨i, -, hi⟩ := List.mem_filterMap.mp hw
  have hm : w ∈ big := by first | exact List.mem_of_getElem? hi | exact List.getElem?_mem hi
  exact ⟨hm, good_of_word h1⟩
theorem goodIn_app {big a b : List Cond} (ha : GoodIn big a) (hb : GoodIn big b) : GoodIn big (a ++ b) := fun w h => (List.mem_append.mp h).elim (ha w) (hb w)
theorem goodIn_ca {big a b : List Cond} {c : Cond} (ha : GoodIn big (c :: a)) (hb : GoodIn big b) : GoodIn big (c :: (a ++ b)) := fun w h => (List.mem_cons.mp h).elim (fun e => ha w (List.mem_cons.mpr (Or.inl e))) (fun h => (List.mem_append.mp h).elim (fun h => ha w (List.mem_cons.mpr (Or.inr h))) (hb w))
theorem goodIn_sub {big ws : List Cond} (hm : ∀ w ∈ ws, w ∈ big) (h : ws.all goodWord = true) : GoodIn big ws := fun w hw => ⟨hm w hw, good_of_word (List.all_eq_true.mp h w hw)⟩
/-! ===== END ===== -/

/-! ===== BEGIN printed: names, fields, word lists, decode rows ===== -/
def RX0 : String := "TypebarLayout$Typing"
def TX0 : u_T := fun k => match k with
  | 0 => ("TypebarLayout$Typing", "printed", "[I", true)
  | 1 => ("TypebarLayout$Typing", "printedCount", "I", false)
  | 2 => ("TypebarLayout$Typing", "jammed", "[I", true)
  | 3 => ("TypebarLayout$Typing", "jammedCount", "I", false)
  | 4 => ("TypebarLayout$Typing", "lostCount", "I", false)
  | 5 => ("TypebarLayout$Typing", "endTick", "I", false)
  | _ => ("TypebarLayout$Typing", "restTicks", "[I", true)
def tyX0 : Nat → FieldType := fun k => match k with
  | 0 => .array .int
  | 1 => .int
  | 2 => .array .int
  | 3 => .int
  | 4 => .int
  | 5 => .int
  | _ => .array .int
abbrev wsX00 : List Cond := u_ws RX0 TX0 7
theorem nmX0 : ∀ a, a < 7 → ∀ b, b < 7 → a ≠ b → (TX0 a).2.1 ≠ (TX0 b).2.1 := by decide +kernel
theorem tyX0_ok : ∀ k, k < 7 → parseFieldDescriptor (TX0 k).2.2.1 = some (tyX0 k) := by decide +kernel
abbrev cX0_init : ByteArray := prog_2_method_1_code
def yX0_init : MethodName := ⟨RX0, "<init>", "()V"⟩
abbrev cX0_begin : ByteArray := prog_2_method_2_code
def yX0_begin : MethodName := ⟨RX0, "begin", "()V"⟩
abbrev cX0_inMotion : ByteArray := prog_2_method_3_code
def yX0_inMotion : MethodName := ⟨RX0, "inMotion", "(II)Z"⟩
abbrev cX0_stopAround : ByteArray := prog_2_method_4_code
def yX0_stopAround : MethodName := ⟨RX0, "stopAround", "(III)Z"⟩
abbrev cX0_addPrinted : ByteArray := prog_2_method_5_code
def yX0_addPrinted : MethodName := ⟨RX0, "addPrinted", "(I)V"⟩
abbrev cX0_addJammed : ByteArray := prog_2_method_6_code
def yX0_addJammed : MethodName := ⟨RX0, "addJammed", "(I)V"⟩
def RX1 : String := "TypebarLayout"
def TX1 : u_T := fun k => match k with
  | 0 => ("TypebarLayout", "text", "[I", true)
  | 1 => ("TypebarLayout", "textLength", "I", false)
  | 2 => ("TypebarLayout", "travelTime", "I", false)
  | 3 => ("TypebarLayout", "clashDistance", "I", false)
  | 4 => ("TypebarLayout", "clearingTime", "I", false)
  | 5 => ("TypebarLayout", "letters", "[I", true)
  | 6 => ("TypebarLayout", "positions", "[I", true)
  | 7 => ("TypebarLayout", "undoFirst", "[I", true)
  | 8 => ("TypebarLayout", "undoSecond", "[I", true)
  | 9 => ("TypebarLayout", "undoable", "I", false)
  | 10 => ("TypebarLayout", "latest", "LTypebarLayout$Typing;", true)
  | _ => ("TypebarLayout", "trial", "LTypebarLayout$Typing;", true)
def tyX1 : Nat → FieldType := fun k => match k with
  | 0 => .array .int
  | 1 => .int
  | 2 => .int
  | 3 => .int
  | 4 => .int
  | 5 => .array .int
  | 6 => .array .int
  | 7 => .array .int
  | 8 => .array .int
  | 9 => .int
  | 10 => .object "TypebarLayout$Typing"
  | _ => .object "TypebarLayout$Typing"
abbrev wsX10 : List Cond := u_ws RX1 TX1 12
theorem nmX1 : ∀ a, a < 12 → ∀ b, b < 12 → a ≠ b → (TX1 a).2.1 ≠ (TX1 b).2.1 := by decide +kernel
theorem tyX1_ok : ∀ k, k < 12 → parseFieldDescriptor (TX1 k).2.2.1 = some (tyX1 k) := by decide +kernel
abbrev cX1_init : ByteArray := prog_1_method_1_code
def yX1_init : MethodName := ⟨RX1, "<init>", "()V"⟩
abbrev cX1_append : ByteArray := prog_1_method_2_code
def yX1_append : MethodName := ⟨RX1, "append", "(I)I"⟩
abbrev cX1_clearText : ByteArray := prog_1_method_3_code
def yX1_clearText : MethodName := ⟨RX1, "clearText", "()I"⟩
abbrev cX1_pairCount : ByteArray := prog_1_method_4_code
def yX1_pairCount : MethodName := ⟨RX1, "pairCount", "(II)I"⟩
abbrev cX1_setTravelTime : ByteArray := prog_1_method_5_code
def yX1_setTravelTime : MethodName := ⟨RX1, "setTravelTime", "(I)I"⟩
abbrev cX1_setClashDistance : ByteArray := prog_1_method_6_code
def yX1_setClashDistance : MethodName := ⟨RX1, "setClashDistance", "(I)I"⟩
abbrev cX1_setClearingTime : ByteArray := prog_1_method_7_code
def yX1_setClearingTime : MethodName := ⟨RX1, "setClearingTime", "(I)I"⟩
abbrev cX1_loadLayout : ByteArray := prog_1_method_8_code
def yX1_loadLayout : MethodName := ⟨RX1, "loadLayout", "()I"⟩
abbrev cX1_letterAt : ByteArray := prog_1_method_9_code
def yX1_letterAt : MethodName := ⟨RX1, "letterAt", "(I)I"⟩
abbrev cX1_positionOf : ByteArray := prog_1_method_10_code
def yX1_positionOf : MethodName := ⟨RX1, "positionOf", "(I)I"⟩
abbrev cX1_swap : ByteArray := prog_1_method_11_code
def yX1_swap : MethodName := ⟨RX1, "swap", "(II)I"⟩
abbrev cX1_undo : ByteArray := prog_1_method_12_code
def yX1_undo : MethodName := ⟨RX1, "undo", "()I"⟩
abbrev cX1_undoCount : ByteArray := prog_1_method_13_code
def yX1_undoCount : MethodName := ⟨RX1, "undoCount", "()I"⟩
abbrev cX1_mirror : ByteArray := prog_1_method_14_code
def yX1_mirror : MethodName := ⟨RX1, "mirror", "()I"⟩
abbrev cX1_cost : ByteArray := prog_1_method_15_code
def yX1_cost : MethodName := ⟨RX1, "cost", "()I"⟩
abbrev cX1_gain : ByteArray := prog_1_method_16_code
def yX1_gain : MethodName := ⟨RX1, "gain", "(II)I"⟩
abbrev cX1_bestSwap : ByteArray := prog_1_method_17_code
def yX1_bestSwap : MethodName := ⟨RX1, "bestSwap", "()I"⟩
abbrev cX1_improve : ByteArray := prog_1_method_18_code
def yX1_improve : MethodName := ⟨RX1, "improve", "(I)I"⟩
abbrev cX1_worstLetter : ByteArray := prog_1_method_19_code
def yX1_worstLetter : MethodName := ⟨RX1, "worstLetter", "()I"⟩
abbrev cX1_run : ByteArray := prog_1_method_20_code
def yX1_run : MethodName := ⟨RX1, "run", "(I)I"⟩
abbrev cX1_jams : ByteArray := prog_1_method_21_code
def yX1_jams : MethodName := ⟨RX1, "jams", "()I"⟩
abbrev cX1_lost : ByteArray := prog_1_method_22_code
def yX1_lost : MethodName := ⟨RX1, "lost", "()I"⟩
abbrev cX1_duration : ByteArray := prog_1_method_23_code
def yX1_duration : MethodName := ⟨RX1, "duration", "()I"⟩
abbrev cX1_printedLetter : ByteArray := prog_1_method_24_code
def yX1_printedLetter : MethodName := ⟨RX1, "printedLetter", "(I)I"⟩
abbrev cX1_jammedKeystroke : ByteArray := prog_1_method_25_code
def yX1_jammedKeystroke : MethodName := ⟨RX1, "jammedKeystroke", "(I)I"⟩
abbrev cX1_safeInterval : ByteArray := prog_1_method_26_code
def yX1_safeInterval : MethodName := ⟨RX1, "safeInterval", "()I"⟩
abbrev cX1_digest : ByteArray := prog_1_method_27_code
def yX1_digest : MethodName := ⟨RX1, "digest", "()J"⟩
abbrev cX1_isNumber : ByteArray := prog_1_method_28_code
def yX1_isNumber : MethodName := ⟨RX1, "isNumber", "(I)Z"⟩
abbrev cX1_isPairOf : ByteArray := prog_1_method_29_code
def yX1_isPairOf : MethodName := ⟨RX1, "isPairOf", "(IIII)Z"⟩
abbrev cX1_textIsLayout : ByteArray := prog_1_method_30_code
def yX1_textIsLayout : MethodName := ⟨RX1, "textIsLayout", "()Z"⟩
abbrev cX1_place : ByteArray := prog_1_method_31_code
def yX1_place : MethodName := ⟨RX1, "place", "(II)V"⟩
abbrev cX1_exchange : ByteArray := prog_1_method_32_code
def yX1_exchange : MethodName := ⟨RX1, "exchange", "(II)V"⟩
abbrev cX1_swapError : ByteArray := prog_1_method_33_code
def yX1_swapError : MethodName := ⟨RX1, "swapError", "(II)I"⟩
abbrev cX1_makeSwap : ByteArray := prog_1_method_34_code
def yX1_makeSwap : MethodName := ⟨RX1, "makeSwap", "(II)V"⟩
abbrev cX1_forgetOldestSwap : ByteArray := prog_1_method_35_code
def yX1_forgetOldestSwap : MethodName := ⟨RX1, "forgetOldestSwap", "()V"⟩
abbrev cX1_closeness : ByteArray := prog_1_method_36_code
def yX1_closeness : MethodName := ⟨RX1, "closeness", "(II)I"⟩
abbrev cX1_closenessOf : ByteArray := prog_1_method_37_code
def yX1_closenessOf : MethodName := ⟨RX1, "closenessOf", "(I)I"⟩
abbrev cX1_costAfterSwap : ByteArray := prog_1_method_38_code
def yX1_costAfterSwap : MethodName := ⟨RX1, "costAfterSwap", "(II)I"⟩
abbrev cX1_typeText : ByteArray := prog_1_method_39_code
def yX1_typeText : MethodName := ⟨RX1, "typeText", "(LTypebarLayout$Typing;I)V"⟩
abbrev cX1_strike : ByteArray := prog_1_method_40_code
def yX1_strike : MethodName := ⟨RX1, "strike", "(LTypebarLayout$Typing;II)Z"⟩
abbrev cX1_mix : ByteArray := prog_1_method_41_code
def yX1_mix : MethodName := ⟨RX1, "mix", "(JJ)J"⟩
abbrev cX1_mixAll : ByteArray := prog_1_method_42_code
def yX1_mixAll : MethodName := ⟨RX1, "mixAll", "(J[II)J"⟩
def RX2 : String := "TypebarLayoutModel"
def TX2 : u_T := fun k => match k with
  | 0 => ("TypebarLayoutModel", "size", "I", false)
  | 1 => ("TypebarLayoutModel", "text", "[I", true)
  | 2 => ("TypebarLayoutModel", "travel", "I", false)
  | 3 => ("TypebarLayoutModel", "clash", "I", false)
  | 4 => ("TypebarLayoutModel", "clearing", "I", false)
  | 5 => ("TypebarLayoutModel", "place", "[I", true)
  | 6 => ("TypebarLayoutModel", "letter", "[I", true)
  | 7 => ("TypebarLayoutModel", "undos", "I", false)
  | 8 => ("TypebarLayoutModel", "undoA", "[I", true)
  | 9 => ("TypebarLayoutModel", "undoB", "[I", true)
  | 10 => ("TypebarLayoutModel", "printedMany", "I", false)
  | 11 => ("TypebarLayoutModel", "jammedMany", "I", false)
  | 12 => ("TypebarLayoutModel", "lostMany", "I", false)
  | 13 => ("TypebarLayoutModel", "lasted", "I", false)
  | 14 => ("TypebarLayoutModel", "printed", "[I", true)
  | 15 => ("TypebarLayoutModel", "jammed", "[I", true)
  | 16 => ("TypebarLayoutModel", "rests", "[I", true)
  | 17 => ("TypebarLayoutModel", "outcome", "[I", true)
  | 18 => ("TypebarLayoutModel", "lastTick", "I", false)
  | _ => ("TypebarLayoutModel", "h", "J", false)
def tyX2 : Nat → FieldType := fun k => match k with
  | 0 => .int
  | 1 => .array .int
  | 2 => .int
  | 3 => .int
  | 4 => .int
  | 5 => .array .int
  | 6 => .array .int
  | 7 => .int
  | 8 => .array .int
  | 9 => .array .int
  | 10 => .int
  | 11 => .int
  | 12 => .int
  | 13 => .int
  | 14 => .array .int
  | 15 => .array .int
  | 16 => .array .int
  | 17 => .array .int
  | 18 => .int
  | _ => .long
abbrev wsX20 : List Cond := u_ws RX2 TX2 20
theorem nmX2 : ∀ a, a < 20 → ∀ b, b < 20 → a ≠ b → (TX2 a).2.1 ≠ (TX2 b).2.1 := by decide +kernel
theorem tyX2_ok : ∀ k, k < 20 → parseFieldDescriptor (TX2 k).2.2.1 = some (tyX2 k) := by decide +kernel
abbrev cX2_init : ByteArray := prog_4_method_1_code
def yX2_init : MethodName := ⟨RX2, "<init>", "()V"⟩
abbrev cX2_within : ByteArray := prog_4_method_3_code
def yX2_within : MethodName := ⟨RX2, "within", "(III)Z"⟩
abbrev cX2_apart : ByteArray := prog_4_method_4_code
def yX2_apart : MethodName := ⟨RX2, "apart", "(II)I"⟩
abbrev cX2_append : ByteArray := prog_4_method_5_code
def yX2_append : MethodName := ⟨RX2, "append", "(I)I"⟩
abbrev cX2_clearText : ByteArray := prog_4_method_6_code
def yX2_clearText : MethodName := ⟨RX2, "clearText", "()I"⟩
abbrev cX2_isLetter : ByteArray := prog_4_method_7_code
def yX2_isLetter : MethodName := ⟨RX2, "isLetter", "(I)Z"⟩
abbrev cX2_pairCount : ByteArray := prog_4_method_8_code
def yX2_pairCount : MethodName := ⟨RX2, "pairCount", "(II)I"⟩
abbrev cX2_setTravelTime : ByteArray := prog_4_method_9_code
def yX2_setTravelTime : MethodName := ⟨RX2, "setTravelTime", "(I)I"⟩
abbrev cX2_setClashDistance : ByteArray := prog_4_method_10_code
def yX2_setClashDistance : MethodName := ⟨RX2, "setClashDistance", "(I)I"⟩
abbrev cX2_setClearingTime : ByteArray := prog_4_method_11_code
def yX2_setClearingTime : MethodName := ⟨RX2, "setClearingTime", "(I)I"⟩
abbrev cX2_isLayout : ByteArray := prog_4_method_12_code
def yX2_isLayout : MethodName := ⟨RX2, "isLayout", "()Z"⟩
abbrev cX2_loadLayout : ByteArray := prog_4_method_13_code
def yX2_loadLayout : MethodName := ⟨RX2, "loadLayout", "()I"⟩
abbrev cX2_letterAt : ByteArray := prog_4_method_14_code
def yX2_letterAt : MethodName := ⟨RX2, "letterAt", "(I)I"⟩
abbrev cX2_positionOf : ByteArray := prog_4_method_15_code
def yX2_positionOf : MethodName := ⟨RX2, "positionOf", "(I)I"⟩
abbrev cX2_exchange : ByteArray := prog_4_method_16_code
def yX2_exchange : MethodName := ⟨RX2, "exchange", "(II)V"⟩
abbrev cX2_swapNow : ByteArray := prog_4_method_17_code
def yX2_swapNow : MethodName := ⟨RX2, "swapNow", "(II)V"⟩
abbrev cX2_refusal : ByteArray := prog_4_method_18_code
def yX2_refusal : MethodName := ⟨RX2, "refusal", "(II)I"⟩
abbrev cX2_swap : ByteArray := prog_4_method_19_code
def yX2_swap : MethodName := ⟨RX2, "swap", "(II)I"⟩
abbrev cX2_undo : ByteArray := prog_4_method_20_code
def yX2_undo : MethodName := ⟨RX2, "undo", "()I"⟩
abbrev cX2_undoCount : ByteArray := prog_4_method_21_code
def yX2_undoCount : MethodName := ⟨RX2, "undoCount", "()I"⟩
abbrev cX2_mirror : ByteArray := prog_4_method_22_code
def yX2_mirror : MethodName := ⟨RX2, "mirror", "()I"⟩
abbrev cX2_closeness : ByteArray := prog_4_method_23_code
def yX2_closeness : MethodName := ⟨RX2, "closeness", "(II)I"⟩
abbrev cX2_costNow : ByteArray := prog_4_method_24_code
def yX2_costNow : MethodName := ⟨RX2, "costNow", "()I"⟩
abbrev cX2_cost : ByteArray := prog_4_method_25_code
def yX2_cost : MethodName := ⟨RX2, "cost", "()I"⟩
abbrev cX2_gainNow : ByteArray := prog_4_method_26_code
def yX2_gainNow : MethodName := ⟨RX2, "gainNow", "(II)I"⟩
abbrev cX2_gain : ByteArray := prog_4_method_27_code
def yX2_gain : MethodName := ⟨RX2, "gain", "(II)I"⟩
abbrev cX2_bestNow : ByteArray := prog_4_method_28_code
def yX2_bestNow : MethodName := ⟨RX2, "bestNow", "()I"⟩
abbrev cX2_bestSwap : ByteArray := prog_4_method_29_code
def yX2_bestSwap : MethodName := ⟨RX2, "bestSwap", "()I"⟩
abbrev cX2_improve : ByteArray := prog_4_method_30_code
def yX2_improve : MethodName := ⟨RX2, "improve", "(I)I"⟩
abbrev cX2_partOf : ByteArray := prog_4_method_31_code
def yX2_partOf : MethodName := ⟨RX2, "partOf", "(I)I"⟩
abbrev cX2_worstNow : ByteArray := prog_4_method_32_code
def yX2_worstNow : MethodName := ⟨RX2, "worstNow", "()I"⟩
abbrev cX2_worstLetter : ByteArray := prog_4_method_33_code
def yX2_worstLetter : MethodName := ⟨RX2, "worstLetter", "()I"⟩
abbrev cX2_stroke : ByteArray := prog_4_method_34_code
def yX2_stroke : MethodName := ⟨RX2, "stroke", "(II)I"⟩
abbrev cX2_type : ByteArray := prog_4_method_35_code
def yX2_type : MethodName := ⟨RX2, "type", "(I)V"⟩
abbrev cX2_run : ByteArray := prog_4_method_36_code
def yX2_run : MethodName := ⟨RX2, "run", "(I)I"⟩
abbrev cX2_jams : ByteArray := prog_4_method_37_code
def yX2_jams : MethodName := ⟨RX2, "jams", "()I"⟩
abbrev cX2_lost : ByteArray := prog_4_method_38_code
def yX2_lost : MethodName := ⟨RX2, "lost", "()I"⟩
abbrev cX2_duration : ByteArray := prog_4_method_39_code
def yX2_duration : MethodName := ⟨RX2, "duration", "()I"⟩
abbrev cX2_printedLetter : ByteArray := prog_4_method_40_code
def yX2_printedLetter : MethodName := ⟨RX2, "printedLetter", "(I)I"⟩
abbrev cX2_jammedKeystroke : ByteArray := prog_4_method_41_code
def yX2_jammedKeystroke : MethodName := ⟨RX2, "jammedKeystroke", "(I)I"⟩
abbrev cX2_isSafe : ByteArray := prog_4_method_42_code
def yX2_isSafe : MethodName := ⟨RX2, "isSafe", "(I)Z"⟩
abbrev cX2_safeNow : ByteArray := prog_4_method_43_code
def yX2_safeNow : MethodName := ⟨RX2, "safeNow", "()I"⟩
abbrev cX2_safeInterval : ByteArray := prog_4_method_44_code
def yX2_safeInterval : MethodName := ⟨RX2, "safeInterval", "()I"⟩
abbrev cX2_mix : ByteArray := prog_4_method_45_code
def yX2_mix : MethodName := ⟨RX2, "mix", "(J)V"⟩
abbrev cX2_digest : ByteArray := prog_4_method_46_code
def yX2_digest : MethodName := ⟨RX2, "digest", "()J"⟩
def RJ9 : String := "java/lang/Math"
def TJ9 : u_T := fun k => match k with
  | _ => ("", "", "", false)
def tyJ9 : Nat → FieldType := fun k => match k with
  | _ => .int
abbrev wsJ90 : List Cond := u_ws RJ9 TJ9 0
theorem nmJ9 : ∀ a, a < 0 → ∀ b, b < 0 → a ≠ b → (TJ9 a).2.1 ≠ (TJ9 b).2.1 := by decide +kernel
theorem tyJ9_ok : ∀ k, k < 0 → parseFieldDescriptor (TJ9 k).2.2.1 = some (tyJ9 k) := by decide +kernel
abbrev cJ9_abs_0f7a4 : ByteArray := prog_5_method_59_code
def yJ9_abs_0f7a4 : MethodName := ⟨RJ9, "abs", "(I)I"⟩
abbrev cJ9_max_7cf53 : ByteArray := prog_5_method_65_code
def yJ9_max_7cf53 : MethodName := ⟨RJ9, "max", "(II)I"⟩
abbrev cJ9_min_7cf53 : ByteArray := prog_5_method_69_code
def yJ9_min_7cf53 : MethodName := ⟨RJ9, "min", "(II)I"⟩
def RL : String := "TypebarLayoutLaw"
abbrev cL_law : ByteArray := code
def yL_law : MethodName := ⟨RL, "law", "([I)Z"⟩
def wsX0_init : List Cond := .code yX0_init cX0_init 1 none :: ([.methodLink RX0 3 objectInit, .instanceMethod objectInit, .code objectInit ⟨#[0xb1]⟩ 1 none, .arrayClass .int, .fieldLink RX0 9 "TypebarLayout$Typing" "printed" "[I", .fieldLink RX0 15 "TypebarLayout$Typing" "printedCount" "I", .fieldLink RX0 19 "TypebarLayout$Typing" "jammed" "[I", .fieldLink RX0 22 "TypebarLayout$Typing" "jammedCount" "I", .fieldLink RX0 25 "TypebarLayout$Typing" "lostCount" "I", .fieldLink RX0 28 "TypebarLayout$Typing" "endTick" "I", .fieldLink RX0 31 "TypebarLayout$Typing" "restTicks" "[I"] ++ wsX00)
def wsX0_begin : List Cond := .code yX0_begin cX0_begin 2 none :: ([.fieldLink RX0 15 "TypebarLayout$Typing" "printedCount" "I", .fieldLink RX0 22 "TypebarLayout$Typing" "jammedCount" "I", .fieldLink RX0 25 "TypebarLayout$Typing" "lostCount" "I", .fieldLink RX0 28 "TypebarLayout$Typing" "endTick" "I", .fieldLink RX0 31 "TypebarLayout$Typing" "restTicks" "[I"] ++ wsX00)
def wsX0_inMotion : List Cond := .code yX0_inMotion cX0_inMotion 3 (some .boolean) :: ([.fieldLink RX0 31 "TypebarLayout$Typing" "restTicks" "[I"] ++ wsX00)
def wsX0_stopAround : List Cond := .code yX0_stopAround cX0_stopAround 8 (some .boolean) :: ([.methodLink RX0 34 Lib.Math.max.name, .static Lib.Math.max.name, .initialized "java/lang/Math", .code Lib.Math.max.name Lib.Math.max.code 2 (some .int), .methodLink RX0 40 Lib.Math.min.name, .static Lib.Math.min.name, .code Lib.Math.min.name Lib.Math.min.code 2 (some .int), .fieldLink RX0 31 "TypebarLayout$Typing" "restTicks" "[I", .methodLink RX0 43 yX0_inMotion, .instanceMethod yX0_inMotion, .selects RX0 yX0_inMotion yX0_inMotion, .initialized RX0, .code yX0_inMotion cX0_inMotion 3 (some .boolean)] ++ wsX00)
def wsX0_addPrinted : List Cond := .code yX0_addPrinted cX0_addPrinted 2 none :: ([.fieldLink RX0 15 "TypebarLayout$Typing" "printedCount" "I", .fieldLink RX0 9 "TypebarLayout$Typing" "printed" "[I"] ++ wsX00)
def wsX0_addJammed : List Cond := .code yX0_addJammed cX0_addJammed 2 none :: ([.fieldLink RX0 22 "TypebarLayout$Typing" "jammedCount" "I", .fieldLink RX0 19 "TypebarLayout$Typing" "jammed" "[I"] ++ wsX00)
def wsX1_init_r1 : List Cond := [Cond.methodLink RX1 1 objectInit, Cond.instanceMethod objectInit, Cond.code objectInit ⟨#[0xb1]⟩ 1 none, Cond.arrayClass .int, Cond.fieldLink RX1 9 "TypebarLayout" "text" "[I", Cond.fieldLink RX1 13 "TypebarLayout" "textLength" "I", Cond.fieldLink RX1 17 "TypebarLayout" "travelTime" "I", Cond.fieldLink RX1 20 "TypebarLayout" "clashDistance" "I", Cond.fieldLink RX1 23 "TypebarLayout" "clearingTime" "I", Cond.fieldLink RX1 26 "TypebarLayout" "letters" "[I", Cond.fieldLink RX1 29 "TypebarLayout" "positions" "[I", Cond.fieldLink RX1 32 "TypebarLayout" "undoFirst" "[I", Cond.fieldLink RX1 35 "TypebarLayout" "undoSecond" "[I", Cond.fieldLink RX1 38 "TypebarLayout" "undoable" "I", Cond.classLink RX1 41 RX0, Cond.instantiable RX0 7, Cond.initialized RX0, Cond.fieldLink RX1 44 "TypebarLayout" "latest" "LTypebarLayout$Typing;", Cond.fieldLink RX1 48 "TypebarLayout" "trial" "LTypebarLayout$Typing;", Cond.instanceMethod yX0_init, Cond.code yX0_init cX0_init 1 none, Cond.methodLink RX0 3 objectInit, Cond.fieldLink RX0 9 "TypebarLayout$Typing" "printed" "[I", Cond.fieldLink RX0 15 "TypebarLayout$Typing" "printedCount" "I"]
def wsX1_init_r2 : List Cond := [Cond.fieldLink RX0 19 "TypebarLayout$Typing" "jammed" "[I", Cond.fieldLink RX0 22 "TypebarLayout$Typing" "jammedCount" "I", Cond.fieldLink RX0 25 "TypebarLayout$Typing" "lostCount" "I", Cond.fieldLink RX0 28 "TypebarLayout$Typing" "endTick" "I", Cond.fieldLink RX0 31 "TypebarLayout$Typing" "restTicks" "[I"]
def wsX1_init : List Cond := .code yX1_init cX1_init 2 none :: ((wsX1_init_r1 ++ wsX1_init_r2) ++ wsX10 ++ wsX00)
def wsX1_append : List Cond := .code yX1_append cX1_append 2 (some .int) :: ([.constant RX1 51 (-1000001), .fieldLink RX1 13 "TypebarLayout" "textLength" "I", .constant RX1 52 (-1000002), .fieldLink RX1 9 "TypebarLayout" "text" "[I"] ++ wsX10)
def wsX1_clearText : List Cond := .code yX1_clearText cX1_clearText 2 (some .int) :: ([.fieldLink RX1 13 "TypebarLayout" "textLength" "I"] ++ wsX10)
def wsX1_isNumber : List Cond := .code yX1_isNumber cX1_isNumber 1 (some .boolean) :: ([])
def wsX1_isPairOf : List Cond := .code yX1_isPairOf cX1_isPairOf 4 (some .boolean) :: ([])
def wsX1_pairCount : List Cond := .code yX1_pairCount cX1_pairCount 5 (some .int) :: ([.constant RX1 57 (-1000003), .fieldLink RX1 13 "TypebarLayout" "textLength" "I", .fieldLink RX1 9 "TypebarLayout" "text" "[I", .methodLink RX1 53 yX1_isNumber, .static yX1_isNumber, .initialized RX1, .code yX1_isNumber cX1_isNumber 1 (some .boolean), .methodLink RX1 58 yX1_isPairOf, .static yX1_isPairOf, .code yX1_isPairOf cX1_isPairOf 4 (some .boolean)] ++ wsX10)
def wsX1_setTravelTime : List Cond := .code yX1_setTravelTime cX1_setTravelTime 3 (some .int) :: ([.constant RX1 57 (-1000003), .fieldLink RX1 17 "TypebarLayout" "travelTime" "I"] ++ wsX10)
def wsX1_setClashDistance : List Cond := .code yX1_setClashDistance cX1_setClashDistance 3 (some .int) :: ([.constant RX1 57 (-1000003), .fieldLink RX1 20 "TypebarLayout" "clashDistance" "I"] ++ wsX10)
def wsX1_setClearingTime : List Cond := .code yX1_setClearingTime cX1_setClearingTime 3 (some .int) :: ([.constant RX1 57 (-1000003), .fieldLink RX1 23 "TypebarLayout" "clearingTime" "I"] ++ wsX10)
def wsX1_textIsLayout : List Cond := .code yX1_textIsLayout cX1_textIsLayout 3 (some .boolean) :: ([.fieldLink RX1 13 "TypebarLayout" "textLength" "I", .fieldLink RX1 9 "TypebarLayout" "text" "[I"] ++ wsX10)
def wsX1_place : List Cond := .code yX1_place cX1_place 3 none :: ([.fieldLink RX1 26 "TypebarLayout" "letters" "[I", .fieldLink RX1 29 "TypebarLayout" "positions" "[I"] ++ wsX10)
def wsX1_loadLayout : List Cond := .code yX1_loadLayout cX1_loadLayout 2 (some .int) :: ([.constant RX1 66 (-1000004), .fieldLink RX1 9 "TypebarLayout" "text" "[I", .fieldLink RX1 13 "TypebarLayout" "textLength" "I", .fieldLink RX1 38 "TypebarLayout" "undoable" "I", .methodLink RX1 62 yX1_textIsLayout, .instanceMethod yX1_textIsLayout, .selects RX1 yX1_textIsLayout yX1_textIsLayout, .initialized RX1, .code yX1_textIsLayout cX1_textIsLayout 3 (some .boolean), .methodLink RX1 67 yX1_place, .instanceMethod yX1_place, .selects RX1 yX1_place yX1_place, .code yX1_place cX1_place 3 none, .fieldLink RX1 26 "TypebarLayout" "letters" "[I", .fieldLink RX1 29 "TypebarLayout" "positions" "[I"] ++ wsX10)
def wsX1_letterAt : List Cond := .code yX1_letterAt cX1_letterAt 2 (some .int) :: ([.fieldLink RX1 26 "TypebarLayout" "letters" "[I", .constant RX1 57 (-1000003), .methodLink RX1 53 yX1_isNumber, .static yX1_isNumber, .initialized RX1, .code yX1_isNumber cX1_isNumber 1 (some .boolean)] ++ wsX10)
def wsX1_positionOf : List Cond := .code yX1_positionOf cX1_positionOf 2 (some .int) :: ([.fieldLink RX1 29 "TypebarLayout" "positions" "[I", .constant RX1 57 (-1000003), .methodLink RX1 53 yX1_isNumber, .static yX1_isNumber, .initialized RX1, .code yX1_isNumber cX1_isNumber 1 (some .boolean)] ++ wsX10)
def wsX1_swapError : List Cond := .code yX1_swapError cX1_swapError 2 (some .int) :: ([.constant RX1 57 (-1000003), .constant RX1 137 (-1000005), .methodLink RX1 53 yX1_isNumber, .static yX1_isNumber, .initialized RX1, .code yX1_isNumber cX1_isNumber 1 (some .boolean)])
def wsX1_exchange : List Cond := .code yX1_exchange cX1_exchange 4 none :: ([.fieldLink RX1 26 "TypebarLayout" "letters" "[I", .methodLink RX1 67 yX1_place, .instanceMethod yX1_place, .selects RX1 yX1_place yX1_place, .initialized RX1, .code yX1_place cX1_place 3 none, .fieldLink RX1 29 "TypebarLayout" "positions" "[I"] ++ wsX10)
def wsX1_forgetOldestSwap : List Cond := .code yX1_forgetOldestSwap cX1_forgetOldestSwap 2 none :: ([.fieldLink RX1 32 "TypebarLayout" "undoFirst" "[I", .fieldLink RX1 35 "TypebarLayout" "undoSecond" "[I", .fieldLink RX1 38 "TypebarLayout" "undoable" "I"] ++ wsX10)
def wsX1_makeSwap : List Cond := .code yX1_makeSwap cX1_makeSwap 3 none :: ([.fieldLink RX1 38 "TypebarLayout" "undoable" "I", .fieldLink RX1 32 "TypebarLayout" "undoFirst" "[I", .fieldLink RX1 35 "TypebarLayout" "undoSecond" "[I", .methodLink RX1 83 yX1_exchange, .instanceMethod yX1_exchange, .selects RX1 yX1_exchange yX1_exchange, .initialized RX1, .code yX1_exchange cX1_exchange 4 none, .fieldLink RX1 26 "TypebarLayout" "letters" "[I", .methodLink RX1 67 yX1_place, .instanceMethod yX1_place, .selects RX1 yX1_place yX1_place, .code yX1_place cX1_place 3 none, .fieldLink RX1 29 "TypebarLayout" "positions" "[I", .methodLink RX1 138 yX1_forgetOldestSwap, .instanceMethod yX1_forgetOldestSwap, .selects RX1 yX1_forgetOldestSwap yX1_forgetOldestSwap, .code yX1_forgetOldestSwap cX1_forgetOldestSwap 2 none] ++ wsX10)
def wsX1_closeness : List Cond := .code yX1_closeness cX1_closeness 4 (some .int) :: ([.fieldLink RX1 29 "TypebarLayout" "positions" "[I", .methodLink RX1 141 Lib.Math.abs.name, .static Lib.Math.abs.name, .initialized "java/lang/Math", .code Lib.Math.abs.name Lib.Math.abs.code 1 (some .int), .fieldLink RX1 20 "TypebarLayout" "clashDistance" "I", .methodLink RX1 146 Lib.Math.max.name, .static Lib.Math.max.name, .code Lib.Math.max.name Lib.Math.max.code 2 (some .int)] ++ wsX10)
def wsX1_cost : List Cond := .code yX1_cost cX1_cost 3 (some .int) :: ([.fieldLink RX1 13 "TypebarLayout" "textLength" "I", .fieldLink RX1 9 "TypebarLayout" "text" "[I", .methodLink RX1 86 yX1_closeness, .instanceMethod yX1_closeness, .selects RX1 yX1_closeness yX1_closeness, .initialized RX1, .code yX1_closeness cX1_closeness 4 (some .int), .fieldLink RX1 29 "TypebarLayout" "positions" "[I", .methodLink RX1 141 Lib.Math.abs.name, .static Lib.Math.abs.name, .initialized "java/lang/Math", .code Lib.Math.abs.name Lib.Math.abs.code 1 (some .int), .fieldLink RX1 20 "TypebarLayout" "clashDistance" "I", .methodLink RX1 146 Lib.Math.max.name, .static Lib.Math.max.name, .code Lib.Math.max.name Lib.Math.max.code 2 (some .int)] ++ wsX10)
def wsX1_swap_r1 : List Cond := [Cond.methodLink RX1 71 yX1_swapError, Cond.static yX1_swapError, Cond.initialized RX1, Cond.code yX1_swapError cX1_swapError 2 (some .int), Cond.constant RX1 57 (-1000003), Cond.constant RX1 137 (-1000005), Cond.methodLink RX1 53 yX1_isNumber, Cond.static yX1_isNumber, Cond.code yX1_isNumber cX1_isNumber 1 (some .boolean), Cond.methodLink RX1 75 yX1_makeSwap, Cond.instanceMethod yX1_makeSwap, Cond.selects RX1 yX1_makeSwap yX1_makeSwap, Cond.code yX1_makeSwap cX1_makeSwap 3 none, Cond.fieldLink RX1 38 "TypebarLayout" "undoable" "I", Cond.fieldLink RX1 32 "TypebarLayout" "undoFirst" "[I", Cond.fieldLink RX1 35 "TypebarLayout" "undoSecond" "[I", Cond.methodLink RX1 83 yX1_exchange, Cond.instanceMethod yX1_exchange, Cond.selects RX1 yX1_exchange yX1_exchange, Cond.code yX1_exchange cX1_exchange 4 none, Cond.fieldLink RX1 26 "TypebarLayout" "letters" "[I", Cond.methodLink RX1 67 yX1_place, Cond.instanceMethod yX1_place, Cond.selects RX1 yX1_place yX1_place]
def wsX1_swap_r2 : List Cond := [Cond.code yX1_place cX1_place 3 none, Cond.fieldLink RX1 29 "TypebarLayout" "positions" "[I", Cond.methodLink RX1 138 yX1_forgetOldestSwap, Cond.instanceMethod yX1_forgetOldestSwap, Cond.selects RX1 yX1_forgetOldestSwap yX1_forgetOldestSwap, Cond.code yX1_forgetOldestSwap cX1_forgetOldestSwap 2 none, Cond.methodLink RX1 78 yX1_cost, Cond.instanceMethod yX1_cost, Cond.selects RX1 yX1_cost yX1_cost, Cond.code yX1_cost cX1_cost 3 (some .int), Cond.fieldLink RX1 13 "TypebarLayout" "textLength" "I", Cond.fieldLink RX1 9 "TypebarLayout" "text" "[I", Cond.methodLink RX1 86 yX1_closeness, Cond.instanceMethod yX1_closeness, Cond.selects RX1 yX1_closeness yX1_closeness, Cond.code yX1_closeness cX1_closeness 4 (some .int), Cond.methodLink RX1 141 Lib.Math.abs.name, Cond.static Lib.Math.abs.name, Cond.initialized "java/lang/Math", Cond.code Lib.Math.abs.name Lib.Math.abs.code 1 (some .int), Cond.fieldLink RX1 20 "TypebarLayout" "clashDistance" "I", Cond.methodLink RX1 146 Lib.Math.max.name, Cond.static Lib.Math.max.name, Cond.code Lib.Math.max.name Lib.Math.max.code 2 (some .int)]
def wsX1_swap : List Cond := .code yX1_swap cX1_swap 4 (some .int) :: ((wsX1_swap_r1 ++ wsX1_swap_r2) ++ wsX10)
def wsX1_undo_r1 : List Cond := [Cond.fieldLink RX1 38 "TypebarLayout" "undoable" "I", Cond.constant RX1 82 (-1000006), Cond.fieldLink RX1 32 "TypebarLayout" "undoFirst" "[I", Cond.fieldLink RX1 35 "TypebarLayout" "undoSecond" "[I", Cond.methodLink RX1 83 yX1_exchange, Cond.instanceMethod yX1_exchange, Cond.selects RX1 yX1_exchange yX1_exchange, Cond.initialized RX1, Cond.code yX1_exchange cX1_exchange 4 none, Cond.fieldLink RX1 26 "TypebarLayout" "letters" "[I", Cond.methodLink RX1 67 yX1_place, Cond.instanceMethod yX1_place, Cond.selects RX1 yX1_place yX1_place, Cond.code yX1_place cX1_place 3 none, Cond.fieldLink RX1 29 "TypebarLayout" "positions" "[I", Cond.methodLink RX1 78 yX1_cost, Cond.instanceMethod yX1_cost, Cond.selects RX1 yX1_cost yX1_cost, Cond.code yX1_cost cX1_cost 3 (some .int), Cond.fieldLink RX1 13 "TypebarLayout" "textLength" "I", Cond.fieldLink RX1 9 "TypebarLayout" "text" "[I", Cond.methodLink RX1 86 yX1_closeness, Cond.instanceMethod yX1_closeness, Cond.selects RX1 yX1_closeness yX1_closeness]
def wsX1_undo_r2 : List Cond := [Cond.code yX1_closeness cX1_closeness 4 (some .int), Cond.methodLink RX1 141 Lib.Math.abs.name, Cond.static Lib.Math.abs.name, Cond.initialized "java/lang/Math", Cond.code Lib.Math.abs.name Lib.Math.abs.code 1 (some .int), Cond.fieldLink RX1 20 "TypebarLayout" "clashDistance" "I", Cond.methodLink RX1 146 Lib.Math.max.name, Cond.static Lib.Math.max.name, Cond.code Lib.Math.max.name Lib.Math.max.code 2 (some .int)]
def wsX1_undo : List Cond := .code yX1_undo cX1_undo 1 (some .int) :: ((wsX1_undo_r1 ++ wsX1_undo_r2) ++ wsX10)
def wsX1_undoCount : List Cond := .code yX1_undoCount cX1_undoCount 1 (some .int) :: ([.fieldLink RX1 38 "TypebarLayout" "undoable" "I"] ++ wsX10)
def wsX1_mirror_r1 : List Cond := [Cond.fieldLink RX1 38 "TypebarLayout" "undoable" "I", Cond.methodLink RX1 83 yX1_exchange, Cond.instanceMethod yX1_exchange, Cond.selects RX1 yX1_exchange yX1_exchange, Cond.initialized RX1, Cond.code yX1_exchange cX1_exchange 4 none, Cond.fieldLink RX1 26 "TypebarLayout" "letters" "[I", Cond.methodLink RX1 67 yX1_place, Cond.instanceMethod yX1_place, Cond.selects RX1 yX1_place yX1_place, Cond.code yX1_place cX1_place 3 none, Cond.fieldLink RX1 29 "TypebarLayout" "positions" "[I", Cond.methodLink RX1 78 yX1_cost, Cond.instanceMethod yX1_cost, Cond.selects RX1 yX1_cost yX1_cost, Cond.code yX1_cost cX1_cost 3 (some .int), Cond.fieldLink RX1 13 "TypebarLayout" "textLength" "I", Cond.fieldLink RX1 9 "TypebarLayout" "text" "[I", Cond.methodLink RX1 86 yX1_closeness, Cond.instanceMethod yX1_closeness, Cond.selects RX1 yX1_closeness yX1_closeness, Cond.code yX1_closeness cX1_closeness 4 (some .int), Cond.methodLink RX1 141 Lib.Math.abs.name, Cond.static Lib.Math.abs.name]
def wsX1_mirror_r2 : List Cond := [Cond.initialized "java/lang/Math", Cond.code Lib.Math.abs.name Lib.Math.abs.code 1 (some .int), Cond.fieldLink RX1 20 "TypebarLayout" "clashDistance" "I", Cond.methodLink RX1 146 Lib.Math.max.name, Cond.static Lib.Math.max.name, Cond.code Lib.Math.max.name Lib.Math.max.code 2 (some .int)]
def wsX1_mirror : List Cond := .code yX1_mirror cX1_mirror 2 (some .int) :: ((wsX1_mirror_r1 ++ wsX1_mirror_r2) ++ wsX10)
def wsX1_costAfterSwap_r1 : List Cond := [Cond.methodLink RX1 83 yX1_exchange, Cond.instanceMethod yX1_exchange, Cond.selects RX1 yX1_exchange yX1_exchange, Cond.initialized RX1, Cond.code yX1_exchange cX1_exchange 4 none, Cond.fieldLink RX1 26 "TypebarLayout" "letters" "[I", Cond.methodLink RX1 67 yX1_place, Cond.instanceMethod yX1_place, Cond.selects RX1 yX1_place yX1_place, Cond.code yX1_place cX1_place 3 none, Cond.fieldLink RX1 29 "TypebarLayout" "positions" "[I", Cond.methodLink RX1 78 yX1_cost, Cond.instanceMethod yX1_cost, Cond.selects RX1 yX1_cost yX1_cost, Cond.code yX1_cost cX1_cost 3 (some .int), Cond.fieldLink RX1 13 "TypebarLayout" "textLength" "I", Cond.fieldLink RX1 9 "TypebarLayout" "text" "[I", Cond.methodLink RX1 86 yX1_closeness, Cond.instanceMethod yX1_closeness, Cond.selects RX1 yX1_closeness yX1_closeness, Cond.code yX1_closeness cX1_closeness 4 (some .int), Cond.methodLink RX1 141 Lib.Math.abs.name, Cond.static Lib.Math.abs.name, Cond.initialized "java/lang/Math"]
def wsX1_costAfterSwap_r2 : List Cond := [Cond.code Lib.Math.abs.name Lib.Math.abs.code 1 (some .int), Cond.fieldLink RX1 20 "TypebarLayout" "clashDistance" "I", Cond.methodLink RX1 146 Lib.Math.max.name, Cond.static Lib.Math.max.name, Cond.code Lib.Math.max.name Lib.Math.max.code 2 (some .int)]
def wsX1_costAfterSwap : List Cond := .code yX1_costAfterSwap cX1_costAfterSwap 4 (some .int) :: ((wsX1_costAfterSwap_r1 ++ wsX1_costAfterSwap_r2) ++ wsX10)
def wsX1_gain_r1 : List Cond := [Cond.methodLink RX1 71 yX1_swapError, Cond.static yX1_swapError, Cond.initialized RX1, Cond.code yX1_swapError cX1_swapError 2 (some .int), Cond.constant RX1 57 (-1000003), Cond.constant RX1 137 (-1000005), Cond.methodLink RX1 53 yX1_isNumber, Cond.static yX1_isNumber, Cond.code yX1_isNumber cX1_isNumber 1 (some .boolean), Cond.methodLink RX1 78 yX1_cost, Cond.instanceMethod yX1_cost, Cond.selects RX1 yX1_cost yX1_cost, Cond.code yX1_cost cX1_cost 3 (some .int), Cond.fieldLink RX1 13 "TypebarLayout" "textLength" "I", Cond.fieldLink RX1 9 "TypebarLayout" "text" "[I", Cond.methodLink RX1 86 yX1_closeness, Cond.instanceMethod yX1_closeness, Cond.selects RX1 yX1_closeness yX1_closeness, Cond.code yX1_closeness cX1_closeness 4 (some .int), Cond.fieldLink RX1 29 "TypebarLayout" "positions" "[I", Cond.methodLink RX1 141 Lib.Math.abs.name, Cond.static Lib.Math.abs.name, Cond.initialized "java/lang/Math", Cond.code Lib.Math.abs.name Lib.Math.abs.code 1 (some .int)]
def wsX1_gain_r2 : List Cond := [Cond.fieldLink RX1 20 "TypebarLayout" "clashDistance" "I", Cond.methodLink RX1 146 Lib.Math.max.name, Cond.static Lib.Math.max.name, Cond.code Lib.Math.max.name Lib.Math.max.code 2 (some .int), Cond.methodLink RX1 89 yX1_costAfterSwap, Cond.instanceMethod yX1_costAfterSwap, Cond.selects RX1 yX1_costAfterSwap yX1_costAfterSwap, Cond.code yX1_costAfterSwap cX1_costAfterSwap 4 (some .int), Cond.methodLink RX1 83 yX1_exchange, Cond.instanceMethod yX1_exchange, Cond.selects RX1 yX1_exchange yX1_exchange, Cond.code yX1_exchange cX1_exchange 4 none, Cond.fieldLink RX1 26 "TypebarLayout" "letters" "[I", Cond.methodLink RX1 67 yX1_place, Cond.instanceMethod yX1_place, Cond.selects RX1 yX1_place yX1_place, Cond.code yX1_place cX1_place 3 none]
def wsX1_gain : List Cond := .code yX1_gain cX1_gain 4 (some .int) :: ((wsX1_gain_r1 ++ wsX1_gain_r2) ++ wsX10)
def wsX1_bestSwap_r1 : List Cond := [Cond.constant RX1 82 (-1000006), Cond.methodLink RX1 78 yX1_cost, Cond.instanceMethod yX1_cost, Cond.selects RX1 yX1_cost yX1_cost, Cond.initialized RX1, Cond.code yX1_cost cX1_cost 3 (some .int), Cond.fieldLink RX1 13 "TypebarLayout" "textLength" "I", Cond.fieldLink RX1 9 "TypebarLayout" "text" "[I", Cond.methodLink RX1 86 yX1_closeness, Cond.instanceMethod yX1_closeness, Cond.selects RX1 yX1_closeness yX1_closeness, Cond.code yX1_closeness cX1_closeness 4 (some .int), Cond.fieldLink RX1 29 "TypebarLayout" "positions" "[I", Cond.methodLink RX1 141 Lib.Math.abs.name, Cond.static Lib.Math.abs.name, Cond.initialized "java/lang/Math", Cond.code Lib.Math.abs.name Lib.Math.abs.code 1 (some .int), Cond.fieldLink RX1 20 "TypebarLayout" "clashDistance" "I", Cond.methodLink RX1 146 Lib.Math.max.name, Cond.static Lib.Math.max.name, Cond.code Lib.Math.max.name Lib.Math.max.code 2 (some .int), Cond.methodLink RX1 89 yX1_costAfterSwap, Cond.instanceMethod yX1_costAfterSwap, Cond.selects RX1 yX1_costAfterSwap yX1_costAfterSwap]
def wsX1_bestSwap_r2 : List Cond := [Cond.code yX1_costAfterSwap cX1_costAfterSwap 4 (some .int), Cond.methodLink RX1 83 yX1_exchange, Cond.instanceMethod yX1_exchange, Cond.selects RX1 yX1_exchange yX1_exchange, Cond.code yX1_exchange cX1_exchange 4 none, Cond.fieldLink RX1 26 "TypebarLayout" "letters" "[I", Cond.methodLink RX1 67 yX1_place, Cond.instanceMethod yX1_place, Cond.selects RX1 yX1_place yX1_place, Cond.code yX1_place cX1_place 3 none]
def wsX1_bestSwap : List Cond := .code yX1_bestSwap cX1_bestSwap 6 (some .int) :: ((wsX1_bestSwap_r1 ++ wsX1_bestSwap_r2) ++ wsX10)
def wsX1_improve_r1 : List Cond := [Cond.constant RX1 57 (-1000003), Cond.constant RX1 82 (-1000006), Cond.methodLink RX1 92 yX1_bestSwap, Cond.instanceMethod yX1_bestSwap, Cond.selects RX1 yX1_bestSwap yX1_bestSwap, Cond.initialized RX1, Cond.code yX1_bestSwap cX1_bestSwap 6 (some .int), Cond.methodLink RX1 78 yX1_cost, Cond.instanceMethod yX1_cost, Cond.selects RX1 yX1_cost yX1_cost, Cond.code yX1_cost cX1_cost 3 (some .int), Cond.fieldLink RX1 13 "TypebarLayout" "textLength" "I", Cond.fieldLink RX1 9 "TypebarLayout" "text" "[I", Cond.methodLink RX1 86 yX1_closeness, Cond.instanceMethod yX1_closeness, Cond.selects RX1 yX1_closeness yX1_closeness, Cond.code yX1_closeness cX1_closeness 4 (some .int), Cond.fieldLink RX1 29 "TypebarLayout" "positions" "[I", Cond.methodLink RX1 141 Lib.Math.abs.name, Cond.static Lib.Math.abs.name, Cond.initialized "java/lang/Math", Cond.code Lib.Math.abs.name Lib.Math.abs.code 1 (some .int), Cond.fieldLink RX1 20 "TypebarLayout" "clashDistance" "I", Cond.methodLink RX1 146 Lib.Math.max.name]
def wsX1_improve_r2 : List Cond := [Cond.static Lib.Math.max.name, Cond.code Lib.Math.max.name Lib.Math.max.code 2 (some .int), Cond.methodLink RX1 89 yX1_costAfterSwap, Cond.instanceMethod yX1_costAfterSwap, Cond.selects RX1 yX1_costAfterSwap yX1_costAfterSwap, Cond.code yX1_costAfterSwap cX1_costAfterSwap 4 (some .int), Cond.methodLink RX1 83 yX1_exchange, Cond.instanceMethod yX1_exchange, Cond.selects RX1 yX1_exchange yX1_exchange, Cond.code yX1_exchange cX1_exchange 4 none, Cond.fieldLink RX1 26 "TypebarLayout" "letters" "[I", Cond.methodLink RX1 67 yX1_place, Cond.instanceMethod yX1_place, Cond.selects RX1 yX1_place yX1_place, Cond.code yX1_place cX1_place 3 none, Cond.methodLink RX1 75 yX1_makeSwap, Cond.instanceMethod yX1_makeSwap, Cond.selects RX1 yX1_makeSwap yX1_makeSwap, Cond.code yX1_makeSwap cX1_makeSwap 3 none, Cond.fieldLink RX1 38 "TypebarLayout" "undoable" "I", Cond.fieldLink RX1 32 "TypebarLayout" "undoFirst" "[I", Cond.fieldLink RX1 35 "TypebarLayout" "undoSecond" "[I", Cond.methodLink RX1 138 yX1_forgetOldestSwap, Cond.instanceMethod yX1_forgetOldestSwap]
def wsX1_improve_r3 : List Cond := [Cond.selects RX1 yX1_forgetOldestSwap yX1_forgetOldestSwap, Cond.code yX1_forgetOldestSwap cX1_forgetOldestSwap 2 none]
def wsX1_improve : List Cond := .code yX1_improve cX1_improve 4 (some .int) :: ((wsX1_improve_r1 ++ (wsX1_improve_r2 ++ wsX1_improve_r3)) ++ wsX10)
def wsX1_closenessOf : List Cond := .code yX1_closenessOf cX1_closenessOf 4 (some .int) :: ([.fieldLink RX1 13 "TypebarLayout" "textLength" "I", .fieldLink RX1 9 "TypebarLayout" "text" "[I", .methodLink RX1 86 yX1_closeness, .instanceMethod yX1_closeness, .selects RX1 yX1_closeness yX1_closeness, .initialized RX1, .code yX1_closeness cX1_closeness 4 (some .int), .fieldLink RX1 29 "TypebarLayout" "positions" "[I", .methodLink RX1 141 Lib.Math.abs.name, .static Lib.Math.abs.name, .initialized "java/lang/Math", .code Lib.Math.abs.name Lib.Math.abs.code 1 (some .int), .fieldLink RX1 20 "TypebarLayout" "clashDistance" "I", .methodLink RX1 146 Lib.Math.max.name, .static Lib.Math.max.name, .code Lib.Math.max.name Lib.Math.max.code 2 (some .int)] ++ wsX10)
def wsX1_worstLetter : List Cond := .code yX1_worstLetter cX1_worstLetter 5 (some .int) :: ([.constant RX1 82 (-1000006), .methodLink RX1 95 yX1_closenessOf, .instanceMethod yX1_closenessOf, .selects RX1 yX1_closenessOf yX1_closenessOf, .initialized RX1, .code yX1_closenessOf cX1_closenessOf 4 (some .int), .fieldLink RX1 13 "TypebarLayout" "textLength" "I", .fieldLink RX1 9 "TypebarLayout" "text" "[I", .methodLink RX1 86 yX1_closeness, .instanceMethod yX1_closeness, .selects RX1 yX1_closeness yX1_closeness, .code yX1_closeness cX1_closeness 4 (some .int), .fieldLink RX1 29 "TypebarLayout" "positions" "[I", .methodLink RX1 141 Lib.Math.abs.name, .static Lib.Math.abs.name, .initialized "java/lang/Math", .code Lib.Math.abs.name Lib.Math.abs.code 1 (some .int), .fieldLink RX1 20 "TypebarLayout" "clashDistance" "I", .methodLink RX1 146 Lib.Math.max.name, .static Lib.Math.max.name, .code Lib.Math.max.name Lib.Math.max.code 2 (some .int)] ++ wsX10)
def wsX1_strike_r1 : List Cond := [Cond.fieldLink RX1 9 "TypebarLayout" "text" "[I", Cond.fieldLink RX1 29 "TypebarLayout" "positions" "[I", Cond.fieldLink RX1 20 "TypebarLayout" "clashDistance" "I", Cond.fieldLink RX1 17 "TypebarLayout" "travelTime" "I", Cond.instanceMethod yX0_inMotion, Cond.initialized RX0, Cond.selects RX0 yX0_inMotion yX0_inMotion, Cond.code yX0_inMotion cX0_inMotion 3 (some .boolean), Cond.fieldLink RX0 31 "TypebarLayout$Typing" "restTicks" "[I", Cond.instanceMethod yX0_stopAround, Cond.selects RX0 yX0_stopAround yX0_stopAround, Cond.code yX0_stopAround cX0_stopAround 8 (some .boolean), Cond.methodLink RX0 34 Lib.Math.max.name, Cond.static Lib.Math.max.name, Cond.initialized "java/lang/Math", Cond.code Lib.Math.max.name Lib.Math.max.code 2 (some .int), Cond.methodLink RX0 40 Lib.Math.min.name, Cond.static Lib.Math.min.name, Cond.code Lib.Math.min.name Lib.Math.min.code 2 (some .int), Cond.methodLink RX0 43 yX0_inMotion, Cond.instanceMethod yX0_addJammed, Cond.selects RX0 yX0_addJammed yX0_addJammed, Cond.code yX0_addJammed cX0_addJammed 2 none, Cond.fieldLink RX0 22 "TypebarLayout$Typing" "jammedCount" "I"]
def wsX1_strike_r2 : List Cond := [Cond.fieldLink RX0 19 "TypebarLayout$Typing" "jammed" "[I", Cond.instanceMethod yX0_addPrinted, Cond.selects RX0 yX0_addPrinted yX0_addPrinted, Cond.code yX0_addPrinted cX0_addPrinted 2 none, Cond.fieldLink RX0 15 "TypebarLayout$Typing" "printedCount" "I", Cond.fieldLink RX0 9 "TypebarLayout$Typing" "printed" "[I"]
def wsX1_strike : List Cond := .code yX1_strike cX1_strike 6 (some .boolean) :: ((wsX1_strike_r1 ++ wsX1_strike_r2) ++ wsX10 ++ wsX00)
def wsX1_typeText_r1 : List Cond := [Cond.fieldLink RX1 13 "TypebarLayout" "textLength" "I", Cond.fieldLink RX1 17 "TypebarLayout" "travelTime" "I", Cond.fieldLink RX1 23 "TypebarLayout" "clearingTime" "I", Cond.instanceMethod yX0_begin, Cond.initialized RX0, Cond.selects RX0 yX0_begin yX0_begin, Cond.code yX0_begin cX0_begin 2 none, Cond.fieldLink RX0 15 "TypebarLayout$Typing" "printedCount" "I", Cond.fieldLink RX0 22 "TypebarLayout$Typing" "jammedCount" "I", Cond.fieldLink RX0 25 "TypebarLayout$Typing" "lostCount" "I", Cond.fieldLink RX0 28 "TypebarLayout$Typing" "endTick" "I", Cond.fieldLink RX0 31 "TypebarLayout$Typing" "restTicks" "[I", Cond.methodLink RX1 152 yX1_strike, Cond.instanceMethod yX1_strike, Cond.selects RX1 yX1_strike yX1_strike, Cond.initialized RX1, Cond.code yX1_strike cX1_strike 6 (some .boolean), Cond.fieldLink RX1 9 "TypebarLayout" "text" "[I", Cond.fieldLink RX1 29 "TypebarLayout" "positions" "[I", Cond.fieldLink RX1 20 "TypebarLayout" "clashDistance" "I", Cond.instanceMethod yX0_inMotion, Cond.selects RX0 yX0_inMotion yX0_inMotion, Cond.code yX0_inMotion cX0_inMotion 3 (some .boolean), Cond.instanceMethod yX0_stopAround]
def wsX1_typeText_r2 : List Cond := [Cond.selects RX0 yX0_stopAround yX0_stopAround, Cond.code yX0_stopAround cX0_stopAround 8 (some .boolean), Cond.methodLink RX0 34 Lib.Math.max.name, Cond.static Lib.Math.max.name, Cond.initialized "java/lang/Math", Cond.code Lib.Math.max.name Lib.Math.max.code 2 (some .int), Cond.methodLink RX0 40 Lib.Math.min.name, Cond.static Lib.Math.min.name, Cond.code Lib.Math.min.name Lib.Math.min.code 2 (some .int), Cond.methodLink RX0 43 yX0_inMotion, Cond.instanceMethod yX0_addJammed, Cond.selects RX0 yX0_addJammed yX0_addJammed, Cond.code yX0_addJammed cX0_addJammed 2 none, Cond.fieldLink RX0 19 "TypebarLayout$Typing" "jammed" "[I", Cond.instanceMethod yX0_addPrinted, Cond.selects RX0 yX0_addPrinted yX0_addPrinted, Cond.code yX0_addPrinted cX0_addPrinted 2 none, Cond.fieldLink RX0 9 "TypebarLayout$Typing" "printed" "[I"]
def wsX1_typeText : List Cond := .code yX1_typeText cX1_typeText 6 none :: ((wsX1_typeText_r1 ++ wsX1_typeText_r2) ++ wsX10 ++ wsX00)
def wsX1_run_r1 : List Cond := [Cond.constant RX1 57 (-1000003), Cond.fieldLink RX1 44 "TypebarLayout" "latest" "LTypebarLayout$Typing;", Cond.methodLink RX1 99 yX1_typeText, Cond.instanceMethod yX1_typeText, Cond.selects RX1 yX1_typeText yX1_typeText, Cond.initialized RX1, Cond.code yX1_typeText cX1_typeText 6 none, Cond.fieldLink RX1 13 "TypebarLayout" "textLength" "I", Cond.fieldLink RX1 17 "TypebarLayout" "travelTime" "I", Cond.fieldLink RX1 23 "TypebarLayout" "clearingTime" "I", Cond.instanceMethod yX0_begin, Cond.initialized RX0, Cond.selects RX0 yX0_begin yX0_begin, Cond.code yX0_begin cX0_begin 2 none, Cond.fieldLink RX0 15 "TypebarLayout$Typing" "printedCount" "I", Cond.fieldLink RX0 22 "TypebarLayout$Typing" "jammedCount" "I", Cond.fieldLink RX0 25 "TypebarLayout$Typing" "lostCount" "I", Cond.fieldLink RX0 28 "TypebarLayout$Typing" "endTick" "I", Cond.fieldLink RX0 31 "TypebarLayout$Typing" "restTicks" "[I", Cond.methodLink RX1 152 yX1_strike, Cond.instanceMethod yX1_strike, Cond.selects RX1 yX1_strike yX1_strike, Cond.code yX1_strike cX1_strike 6 (some .boolean), Cond.fieldLink RX1 9 "TypebarLayout" "text" "[I"]
def wsX1_run_r2 : List Cond := [Cond.fieldLink RX1 29 "TypebarLayout" "positions" "[I", Cond.fieldLink RX1 20 "TypebarLayout" "clashDistance" "I", Cond.instanceMethod yX0_inMotion, Cond.selects RX0 yX0_inMotion yX0_inMotion, Cond.code yX0_inMotion cX0_inMotion 3 (some .boolean), Cond.instanceMethod yX0_stopAround, Cond.selects RX0 yX0_stopAround yX0_stopAround, Cond.code yX0_stopAround cX0_stopAround 8 (some .boolean), Cond.methodLink RX0 34 Lib.Math.max.name, Cond.static Lib.Math.max.name, Cond.initialized "java/lang/Math", Cond.code Lib.Math.max.name Lib.Math.max.code 2 (some .int), Cond.methodLink RX0 40 Lib.Math.min.name, Cond.static Lib.Math.min.name, Cond.code Lib.Math.min.name Lib.Math.min.code 2 (some .int), Cond.methodLink RX0 43 yX0_inMotion, Cond.instanceMethod yX0_addJammed, Cond.selects RX0 yX0_addJammed yX0_addJammed, Cond.code yX0_addJammed cX0_addJammed 2 none, Cond.fieldLink RX0 19 "TypebarLayout$Typing" "jammed" "[I", Cond.instanceMethod yX0_addPrinted, Cond.selects RX0 yX0_addPrinted yX0_addPrinted, Cond.code yX0_addPrinted cX0_addPrinted 2 none, Cond.fieldLink RX0 9 "TypebarLayout$Typing" "printed" "[I"]
def wsX1_run : List Cond := .code yX1_run cX1_run 2 (some .int) :: ((wsX1_run_r1 ++ wsX1_run_r2) ++ wsX10 ++ wsX00)
def wsX1_jams : List Cond := .code yX1_jams cX1_jams 1 (some .int) :: ([.fieldLink RX1 44 "TypebarLayout" "latest" "LTypebarLayout$Typing;"] ++ wsX10 ++ wsX00)
def wsX1_lost : List Cond := .code yX1_lost cX1_lost 1 (some .int) :: ([.fieldLink RX1 44 "TypebarLayout" "latest" "LTypebarLayout$Typing;"] ++ wsX10 ++ wsX00)
def wsX1_duration : List Cond := .code yX1_duration cX1_duration 1 (some .int) :: ([.fieldLink RX1 44 "TypebarLayout" "latest" "LTypebarLayout$Typing;"] ++ wsX10 ++ wsX00)
def wsX1_printedLetter : List Cond := .code yX1_printedLetter cX1_printedLetter 2 (some .int) :: ([.fieldLink RX1 44 "TypebarLayout" "latest" "LTypebarLayout$Typing;", .constant RX1 82 (-1000006)] ++ wsX10 ++ wsX00)
def wsX1_jammedKeystroke : List Cond := .code yX1_jammedKeystroke cX1_jammedKeystroke 2 (some .int) :: ([.fieldLink RX1 44 "TypebarLayout" "latest" "LTypebarLayout$Typing;", .constant RX1 82 (-1000006)] ++ wsX10 ++ wsX00)
def wsX1_safeInterval_r1 : List Cond := [Cond.fieldLink RX1 48 "TypebarLayout" "trial" "LTypebarLayout$Typing;", Cond.constant RX1 82 (-1000006), Cond.methodLink RX1 99 yX1_typeText, Cond.instanceMethod yX1_typeText, Cond.selects RX1 yX1_typeText yX1_typeText, Cond.initialized RX1, Cond.code yX1_typeText cX1_typeText 6 none, Cond.fieldLink RX1 13 "TypebarLayout" "textLength" "I", Cond.fieldLink RX1 17 "TypebarLayout" "travelTime" "I", Cond.fieldLink RX1 23 "TypebarLayout" "clearingTime" "I", Cond.instanceMethod yX0_begin, Cond.initialized RX0, Cond.selects RX0 yX0_begin yX0_begin, Cond.code yX0_begin cX0_begin 2 none, Cond.fieldLink RX0 15 "TypebarLayout$Typing" "printedCount" "I", Cond.fieldLink RX0 22 "TypebarLayout$Typing" "jammedCount" "I", Cond.fieldLink RX0 25 "TypebarLayout$Typing" "lostCount" "I", Cond.fieldLink RX0 28 "TypebarLayout$Typing" "endTick" "I", Cond.fieldLink RX0 31 "TypebarLayout$Typing" "restTicks" "[I", Cond.methodLink RX1 152 yX1_strike, Cond.instanceMethod yX1_strike, Cond.selects RX1 yX1_strike yX1_strike, Cond.code yX1_strike cX1_strike 6 (some .boolean), Cond.fieldLink RX1 9 "TypebarLayout" "text" "[I"]
def wsX1_safeInterval_r2 : List Cond := [Cond.fieldLink RX1 29 "TypebarLayout" "positions" "[I", Cond.fieldLink RX1 20 "TypebarLayout" "clashDistance" "I", Cond.instanceMethod yX0_inMotion, Cond.selects RX0 yX0_inMotion yX0_inMotion, Cond.code yX0_inMotion cX0_inMotion 3 (some .boolean), Cond.instanceMethod yX0_stopAround, Cond.selects RX0 yX0_stopAround yX0_stopAround, Cond.code yX0_stopAround cX0_stopAround 8 (some .boolean), Cond.methodLink RX0 34 Lib.Math.max.name, Cond.static Lib.Math.max.name, Cond.initialized "java/lang/Math", Cond.code Lib.Math.max.name Lib.Math.max.code 2 (some .int), Cond.methodLink RX0 40 Lib.Math.min.name, Cond.static Lib.Math.min.name, Cond.code Lib.Math.min.name Lib.Math.min.code 2 (some .int), Cond.methodLink RX0 43 yX0_inMotion, Cond.instanceMethod yX0_addJammed, Cond.selects RX0 yX0_addJammed yX0_addJammed, Cond.code yX0_addJammed cX0_addJammed 2 none, Cond.fieldLink RX0 19 "TypebarLayout$Typing" "jammed" "[I", Cond.instanceMethod yX0_addPrinted, Cond.selects RX0 yX0_addPrinted yX0_addPrinted, Cond.code yX0_addPrinted cX0_addPrinted 2 none, Cond.fieldLink RX0 9 "TypebarLayout$Typing" "printed" "[I"]
def wsX1_safeInterval : List Cond := .code yX1_safeInterval cX1_safeInterval 2 (some .int) :: ((wsX1_safeInterval_r1 ++ wsX1_safeInterval_r2) ++ wsX10 ++ wsX00)
def wsX1_mix : List Cond := .code yX1_mix cX1_mix 4 (some .long) :: ([.constantLong RX1 174 (31)])
def wsX1_mixAll : List Cond := .code yX1_mixAll cX1_mixAll 7 (some .long) :: ([.methodLink RX1 123 yX1_mix, .static yX1_mix, .initialized RX1, .code yX1_mix cX1_mix 4 (some .long), .constantLong RX1 174 (31)])
def wsX1_digest_r1 : List Cond := [Cond.constantLong RX1 121 (1783), Cond.fieldLink RX1 13 "TypebarLayout" "textLength" "I", Cond.fieldLink RX1 9 "TypebarLayout" "text" "[I", Cond.fieldLink RX1 17 "TypebarLayout" "travelTime" "I", Cond.fieldLink RX1 20 "TypebarLayout" "clashDistance" "I", Cond.fieldLink RX1 23 "TypebarLayout" "clearingTime" "I", Cond.fieldLink RX1 26 "TypebarLayout" "letters" "[I", Cond.fieldLink RX1 38 "TypebarLayout" "undoable" "I", Cond.fieldLink RX1 44 "TypebarLayout" "latest" "LTypebarLayout$Typing;", Cond.methodLink RX1 123 yX1_mix, Cond.static yX1_mix, Cond.initialized RX1, Cond.code yX1_mix cX1_mix 4 (some .long), Cond.constantLong RX1 174 (31), Cond.methodLink RX1 127 yX1_mixAll, Cond.static yX1_mixAll, Cond.code yX1_mixAll cX1_mixAll 7 (some .long), Cond.methodLink RX1 78 yX1_cost, Cond.instanceMethod yX1_cost, Cond.selects RX1 yX1_cost yX1_cost, Cond.code yX1_cost cX1_cost 3 (some .int), Cond.methodLink RX1 86 yX1_closeness, Cond.instanceMethod yX1_closeness, Cond.selects RX1 yX1_closeness yX1_closeness]
def wsX1_digest_r2 : List Cond := [Cond.code yX1_closeness cX1_closeness 4 (some .int), Cond.fieldLink RX1 29 "TypebarLayout" "positions" "[I", Cond.methodLink RX1 141 Lib.Math.abs.name, Cond.static Lib.Math.abs.name, Cond.initialized "java/lang/Math", Cond.code Lib.Math.abs.name Lib.Math.abs.code 1 (some .int), Cond.methodLink RX1 146 Lib.Math.max.name, Cond.static Lib.Math.max.name, Cond.code Lib.Math.max.name Lib.Math.max.code 2 (some .int), Cond.methodLink RX1 92 yX1_bestSwap, Cond.instanceMethod yX1_bestSwap, Cond.selects RX1 yX1_bestSwap yX1_bestSwap, Cond.code yX1_bestSwap cX1_bestSwap 6 (some .int), Cond.constant RX1 82 (-1000006), Cond.methodLink RX1 89 yX1_costAfterSwap, Cond.instanceMethod yX1_costAfterSwap, Cond.selects RX1 yX1_costAfterSwap yX1_costAfterSwap, Cond.code yX1_costAfterSwap cX1_costAfterSwap 4 (some .int), Cond.methodLink RX1 83 yX1_exchange, Cond.instanceMethod yX1_exchange, Cond.selects RX1 yX1_exchange yX1_exchange, Cond.code yX1_exchange cX1_exchange 4 none, Cond.methodLink RX1 67 yX1_place, Cond.instanceMethod yX1_place]
def wsX1_digest_r3 : List Cond := [Cond.selects RX1 yX1_place yX1_place, Cond.code yX1_place cX1_place 3 none, Cond.methodLink RX1 131 yX1_worstLetter, Cond.instanceMethod yX1_worstLetter, Cond.selects RX1 yX1_worstLetter yX1_worstLetter, Cond.code yX1_worstLetter cX1_worstLetter 5 (some .int), Cond.methodLink RX1 95 yX1_closenessOf, Cond.instanceMethod yX1_closenessOf, Cond.selects RX1 yX1_closenessOf yX1_closenessOf, Cond.code yX1_closenessOf cX1_closenessOf 4 (some .int), Cond.methodLink RX1 134 yX1_safeInterval, Cond.instanceMethod yX1_safeInterval, Cond.selects RX1 yX1_safeInterval yX1_safeInterval, Cond.code yX1_safeInterval cX1_safeInterval 2 (some .int), Cond.fieldLink RX1 48 "TypebarLayout" "trial" "LTypebarLayout$Typing;", Cond.methodLink RX1 99 yX1_typeText, Cond.instanceMethod yX1_typeText, Cond.selects RX1 yX1_typeText yX1_typeText, Cond.code yX1_typeText cX1_typeText 6 none, Cond.instanceMethod yX0_begin, Cond.initialized RX0, Cond.selects RX0 yX0_begin yX0_begin, Cond.code yX0_begin cX0_begin 2 none, Cond.fieldLink RX0 15 "TypebarLayout$Typing" "printedCount" "I"]
def wsX1_digest_r4 : List Cond := [Cond.fieldLink RX0 22 "TypebarLayout$Typing" "jammedCount" "I", Cond.fieldLink RX0 25 "TypebarLayout$Typing" "lostCount" "I", Cond.fieldLink RX0 28 "TypebarLayout$Typing" "endTick" "I", Cond.fieldLink RX0 31 "TypebarLayout$Typing" "restTicks" "[I", Cond.methodLink RX1 152 yX1_strike, Cond.instanceMethod yX1_strike, Cond.selects RX1 yX1_strike yX1_strike, Cond.code yX1_strike cX1_strike 6 (some .boolean), Cond.instanceMethod yX0_inMotion, Cond.selects RX0 yX0_inMotion yX0_inMotion, Cond.code yX0_inMotion cX0_inMotion 3 (some .boolean), Cond.instanceMethod yX0_stopAround, Cond.selects RX0 yX0_stopAround yX0_stopAround, Cond.code yX0_stopAround cX0_stopAround 8 (some .boolean), Cond.methodLink RX0 34 Lib.Math.max.name, Cond.methodLink RX0 40 Lib.Math.min.name, Cond.static Lib.Math.min.name, Cond.code Lib.Math.min.name Lib.Math.min.code 2 (some .int), Cond.methodLink RX0 43 yX0_inMotion, Cond.instanceMethod yX0_addJammed, Cond.selects RX0 yX0_addJammed yX0_addJammed, Cond.code yX0_addJammed cX0_addJammed 2 none, Cond.fieldLink RX0 19 "TypebarLayout$Typing" "jammed" "[I", Cond.instanceMethod yX0_addPrinted]
def wsX1_digest_r5 : List Cond := [Cond.selects RX0 yX0_addPrinted yX0_addPrinted, Cond.code yX0_addPrinted cX0_addPrinted 2 none, Cond.fieldLink RX0 9 "TypebarLayout$Typing" "printed" "[I"]
def wsX1_digest : List Cond := .code yX1_digest cX1_digest 3 (some .long) :: ((wsX1_digest_r1 ++ (wsX1_digest_r2 ++ (wsX1_digest_r3 ++ (wsX1_digest_r4 ++ wsX1_digest_r5)))) ++ wsX10 ++ wsX00)
def wsX2_init : List Cond := .code yX2_init cX2_init 2 none :: ([.methodLink RX2 1 objectInit, .instanceMethod objectInit, .code objectInit ⟨#[0xb1]⟩ 1 none, .arrayClass .int, .fieldLink RX2 7 "TypebarLayoutModel" "text" "[I", .fieldLink RX2 13 "TypebarLayoutModel" "travel" "I", .fieldLink RX2 17 "TypebarLayoutModel" "clash" "I", .fieldLink RX2 20 "TypebarLayoutModel" "clearing" "I", .fieldLink RX2 23 "TypebarLayoutModel" "place" "[I", .fieldLink RX2 26 "TypebarLayoutModel" "letter" "[I", .fieldLink RX2 29 "TypebarLayoutModel" "undoA" "[I", .fieldLink RX2 32 "TypebarLayoutModel" "undoB" "[I", .fieldLink RX2 35 "TypebarLayoutModel" "printed" "[I", .fieldLink RX2 38 "TypebarLayoutModel" "jammed" "[I", .fieldLink RX2 41 "TypebarLayoutModel" "rests" "[I", .fieldLink RX2 44 "TypebarLayoutModel" "outcome" "[I"] ++ wsX20)
def wsX2_within : List Cond := .code yX2_within cX2_within 3 (some .boolean) :: ([])
def wsX2_apart : List Cond := .code yX2_apart cX2_apart 2 (some .int) :: ([])
def wsX2_append : List Cond := .code yX2_append cX2_append 2 (some .int) :: ([.constant RX2 51 (-1000001), .fieldLink RX2 52 "TypebarLayoutModel" "size" "I", .constant RX2 55 (-1000002), .fieldLink RX2 7 "TypebarLayoutModel" "text" "[I", .methodLink RX2 47 yX2_within, .static yX2_within, .initialized RX2, .code yX2_within cX2_within 3 (some .boolean)] ++ wsX20)
def wsX2_clearText : List Cond := .code yX2_clearText cX2_clearText 2 (some .int) :: ([.fieldLink RX2 52 "TypebarLayoutModel" "size" "I"] ++ wsX20)
def wsX2_isLetter : List Cond := .code yX2_isLetter cX2_isLetter 1 (some .boolean) :: ([.methodLink RX2 47 yX2_within, .static yX2_within, .initialized RX2, .code yX2_within cX2_within 3 (some .boolean)])
def wsX2_pairCount : List Cond := .code yX2_pairCount cX2_pairCount 7 (some .int) :: ([.constant RX2 60 (-1000003), .fieldLink RX2 52 "TypebarLayoutModel" "size" "I", .fieldLink RX2 7 "TypebarLayoutModel" "text" "[I", .methodLink RX2 56 yX2_isLetter, .static yX2_isLetter, .initialized RX2, .code yX2_isLetter cX2_isLetter 1 (some .boolean), .methodLink RX2 47 yX2_within, .static yX2_within, .code yX2_within cX2_within 3 (some .boolean)] ++ wsX20)
def wsX2_setTravelTime : List Cond := .code yX2_setTravelTime cX2_setTravelTime 3 (some .int) :: ([.constant RX2 60 (-1000003), .fieldLink RX2 13 "TypebarLayoutModel" "travel" "I", .methodLink RX2 47 yX2_within, .static yX2_within, .initialized RX2, .code yX2_within cX2_within 3 (some .boolean)] ++ wsX20)
def wsX2_setClashDistance : List Cond := .code yX2_setClashDistance cX2_setClashDistance 3 (some .int) :: ([.constant RX2 60 (-1000003), .fieldLink RX2 17 "TypebarLayoutModel" "clash" "I", .methodLink RX2 47 yX2_within, .static yX2_within, .initialized RX2, .code yX2_within cX2_within 3 (some .boolean)] ++ wsX20)
def wsX2_setClearingTime : List Cond := .code yX2_setClearingTime cX2_setClearingTime 3 (some .int) :: ([.constant RX2 60 (-1000003), .fieldLink RX2 20 "TypebarLayoutModel" "clearing" "I", .methodLink RX2 47 yX2_within, .static yX2_within, .initialized RX2, .code yX2_within cX2_within 3 (some .boolean)] ++ wsX20)
def wsX2_isLayout : List Cond := .code yX2_isLayout cX2_isLayout 3 (some .boolean) :: ([.fieldLink RX2 52 "TypebarLayoutModel" "size" "I", .fieldLink RX2 7 "TypebarLayoutModel" "text" "[I"] ++ wsX20)
def wsX2_loadLayout : List Cond := .code yX2_loadLayout cX2_loadLayout 2 (some .int) :: ([.constant RX2 65 (-1000004), .fieldLink RX2 26 "TypebarLayoutModel" "letter" "[I", .fieldLink RX2 7 "TypebarLayoutModel" "text" "[I", .fieldLink RX2 23 "TypebarLayoutModel" "place" "[I", .fieldLink RX2 52 "TypebarLayoutModel" "size" "I", .fieldLink RX2 66 "TypebarLayoutModel" "undos" "I", .methodLink RX2 61 yX2_isLayout, .instanceMethod yX2_isLayout, .selects RX2 yX2_isLayout yX2_isLayout, .initialized RX2, .code yX2_isLayout cX2_isLayout 3 (some .boolean)] ++ wsX20)
def wsX2_letterAt : List Cond := .code yX2_letterAt cX2_letterAt 2 (some .int) :: ([.fieldLink RX2 26 "TypebarLayoutModel" "letter" "[I", .constant RX2 60 (-1000003), .methodLink RX2 47 yX2_within, .static yX2_within, .initialized RX2, .code yX2_within cX2_within 3 (some .boolean)] ++ wsX20)
def wsX2_positionOf : List Cond := .code yX2_positionOf cX2_positionOf 2 (some .int) :: ([.fieldLink RX2 23 "TypebarLayoutModel" "place" "[I", .constant RX2 60 (-1000003), .methodLink RX2 56 yX2_isLetter, .static yX2_isLetter, .initialized RX2, .code yX2_isLetter cX2_isLetter 1 (some .boolean), .methodLink RX2 47 yX2_within, .static yX2_within, .code yX2_within cX2_within 3 (some .boolean)] ++ wsX20)
def wsX2_exchange : List Cond := .code yX2_exchange cX2_exchange 4 none :: ([.fieldLink RX2 26 "TypebarLayoutModel" "letter" "[I", .fieldLink RX2 23 "TypebarLayoutModel" "place" "[I"] ++ wsX20)
def wsX2_swapNow : List Cond := .code yX2_swapNow cX2_swapNow 4 none :: ([.fieldLink RX2 29 "TypebarLayoutModel" "undoA" "[I", .fieldLink RX2 66 "TypebarLayoutModel" "undos" "I", .fieldLink RX2 32 "TypebarLayoutModel" "undoB" "[I", .methodLink RX2 69 yX2_exchange, .instanceMethod yX2_exchange, .selects RX2 yX2_exchange yX2_exchange, .initialized RX2, .code yX2_exchange cX2_exchange 4 none, .fieldLink RX2 26 "TypebarLayoutModel" "letter" "[I", .fieldLink RX2 23 "TypebarLayoutModel" "place" "[I"] ++ wsX20)
def wsX2_refusal : List Cond := .code yX2_refusal cX2_refusal 2 (some .int) :: ([.constant RX2 60 (-1000003), .constant RX2 73 (-1000005), .methodLink RX2 56 yX2_isLetter, .static yX2_isLetter, .initialized RX2, .code yX2_isLetter cX2_isLetter 1 (some .boolean), .methodLink RX2 47 yX2_within, .static yX2_within, .code yX2_within cX2_within 3 (some .boolean)])
def wsX2_closeness : List Cond := .code yX2_closeness cX2_closeness 4 (some .int) :: ([.fieldLink RX2 17 "TypebarLayoutModel" "clash" "I", .fieldLink RX2 23 "TypebarLayoutModel" "place" "[I", .methodLink RX2 86 yX2_apart, .static yX2_apart, .initialized RX2, .code yX2_apart cX2_apart 2 (some .int)] ++ wsX20)
def wsX2_costNow : List Cond := .code yX2_costNow cX2_costNow 3 (some .int) :: ([.fieldLink RX2 52 "TypebarLayoutModel" "size" "I", .fieldLink RX2 7 "TypebarLayoutModel" "text" "[I", .methodLink RX2 89 yX2_closeness, .instanceMethod yX2_closeness, .selects RX2 yX2_closeness yX2_closeness, .initialized RX2, .code yX2_closeness cX2_closeness 4 (some .int), .fieldLink RX2 17 "TypebarLayoutModel" "clash" "I", .fieldLink RX2 23 "TypebarLayoutModel" "place" "[I", .methodLink RX2 86 yX2_apart, .static yX2_apart, .code yX2_apart cX2_apart 2 (some .int)] ++ wsX20)
def wsX2_swap_r1 : List Cond := [Cond.methodLink RX2 74 yX2_refusal, Cond.static yX2_refusal, Cond.initialized RX2, Cond.code yX2_refusal cX2_refusal 2 (some .int), Cond.constant RX2 60 (-1000003), Cond.constant RX2 73 (-1000005), Cond.methodLink RX2 56 yX2_isLetter, Cond.static yX2_isLetter, Cond.code yX2_isLetter cX2_isLetter 1 (some .boolean), Cond.methodLink RX2 47 yX2_within, Cond.static yX2_within, Cond.code yX2_within cX2_within 3 (some .boolean), Cond.methodLink RX2 78 yX2_swapNow, Cond.instanceMethod yX2_swapNow, Cond.selects RX2 yX2_swapNow yX2_swapNow, Cond.code yX2_swapNow cX2_swapNow 4 none, Cond.fieldLink RX2 29 "TypebarLayoutModel" "undoA" "[I", Cond.fieldLink RX2 66 "TypebarLayoutModel" "undos" "I", Cond.fieldLink RX2 32 "TypebarLayoutModel" "undoB" "[I", Cond.methodLink RX2 69 yX2_exchange, Cond.instanceMethod yX2_exchange, Cond.selects RX2 yX2_exchange yX2_exchange, Cond.code yX2_exchange cX2_exchange 4 none, Cond.fieldLink RX2 26 "TypebarLayoutModel" "letter" "[I"]
def wsX2_swap_r2 : List Cond := [Cond.fieldLink RX2 23 "TypebarLayoutModel" "place" "[I", Cond.methodLink RX2 81 yX2_costNow, Cond.instanceMethod yX2_costNow, Cond.selects RX2 yX2_costNow yX2_costNow, Cond.code yX2_costNow cX2_costNow 3 (some .int), Cond.fieldLink RX2 52 "TypebarLayoutModel" "size" "I", Cond.fieldLink RX2 7 "TypebarLayoutModel" "text" "[I", Cond.methodLink RX2 89 yX2_closeness, Cond.instanceMethod yX2_closeness, Cond.selects RX2 yX2_closeness yX2_closeness, Cond.code yX2_closeness cX2_closeness 4 (some .int), Cond.fieldLink RX2 17 "TypebarLayoutModel" "clash" "I", Cond.methodLink RX2 86 yX2_apart, Cond.static yX2_apart, Cond.code yX2_apart cX2_apart 2 (some .int)]
def wsX2_swap : List Cond := .code yX2_swap cX2_swap 4 (some .int) :: ((wsX2_swap_r1 ++ wsX2_swap_r2) ++ wsX20)
def wsX2_undo_r1 : List Cond := [Cond.fieldLink RX2 66 "TypebarLayoutModel" "undos" "I", Cond.constant RX2 85 (-1000006), Cond.fieldLink RX2 29 "TypebarLayoutModel" "undoA" "[I", Cond.fieldLink RX2 32 "TypebarLayoutModel" "undoB" "[I", Cond.methodLink RX2 69 yX2_exchange, Cond.instanceMethod yX2_exchange, Cond.selects RX2 yX2_exchange yX2_exchange, Cond.initialized RX2, Cond.code yX2_exchange cX2_exchange 4 none, Cond.fieldLink RX2 26 "TypebarLayoutModel" "letter" "[I", Cond.fieldLink RX2 23 "TypebarLayoutModel" "place" "[I", Cond.methodLink RX2 81 yX2_costNow, Cond.instanceMethod yX2_costNow, Cond.selects RX2 yX2_costNow yX2_costNow, Cond.code yX2_costNow cX2_costNow 3 (some .int), Cond.fieldLink RX2 52 "TypebarLayoutModel" "size" "I", Cond.fieldLink RX2 7 "TypebarLayoutModel" "text" "[I", Cond.methodLink RX2 89 yX2_closeness, Cond.instanceMethod yX2_closeness, Cond.selects RX2 yX2_closeness yX2_closeness, Cond.code yX2_closeness cX2_closeness 4 (some .int), Cond.fieldLink RX2 17 "TypebarLayoutModel" "clash" "I", Cond.methodLink RX2 86 yX2_apart, Cond.static yX2_apart]
def wsX2_undo_r2 : List Cond := [Cond.code yX2_apart cX2_apart 2 (some .int)]
def wsX2_undo : List Cond := .code yX2_undo cX2_undo 1 (some .int) :: ((wsX2_undo_r1 ++ wsX2_undo_r2) ++ wsX20)
def wsX2_undoCount : List Cond := .code yX2_undoCount cX2_undoCount 1 (some .int) :: ([.fieldLink RX2 66 "TypebarLayoutModel" "undos" "I"] ++ wsX20)
def wsX2_mirror : List Cond := .code yX2_mirror cX2_mirror 2 (some .int) :: ([.fieldLink RX2 66 "TypebarLayoutModel" "undos" "I", .methodLink RX2 69 yX2_exchange, .instanceMethod yX2_exchange, .selects RX2 yX2_exchange yX2_exchange, .initialized RX2, .code yX2_exchange cX2_exchange 4 none, .fieldLink RX2 26 "TypebarLayoutModel" "letter" "[I", .fieldLink RX2 23 "TypebarLayoutModel" "place" "[I", .methodLink RX2 81 yX2_costNow, .instanceMethod yX2_costNow, .selects RX2 yX2_costNow yX2_costNow, .code yX2_costNow cX2_costNow 3 (some .int), .fieldLink RX2 52 "TypebarLayoutModel" "size" "I", .fieldLink RX2 7 "TypebarLayoutModel" "text" "[I", .methodLink RX2 89 yX2_closeness, .instanceMethod yX2_closeness, .selects RX2 yX2_closeness yX2_closeness, .code yX2_closeness cX2_closeness 4 (some .int), .fieldLink RX2 17 "TypebarLayoutModel" "clash" "I", .methodLink RX2 86 yX2_apart, .static yX2_apart, .code yX2_apart cX2_apart 2 (some .int)] ++ wsX20)
def wsX2_cost : List Cond := .code yX2_cost cX2_cost 1 (some .int) :: ([.methodLink RX2 81 yX2_costNow, .instanceMethod yX2_costNow, .selects RX2 yX2_costNow yX2_costNow, .initialized RX2, .code yX2_costNow cX2_costNow 3 (some .int), .fieldLink RX2 52 "TypebarLayoutModel" "size" "I", .fieldLink RX2 7 "TypebarLayoutModel" "text" "[I", .methodLink RX2 89 yX2_closeness, .instanceMethod yX2_closeness, .selects RX2 yX2_closeness yX2_closeness, .code yX2_closeness cX2_closeness 4 (some .int), .fieldLink RX2 17 "TypebarLayoutModel" "clash" "I", .fieldLink RX2 23 "TypebarLayoutModel" "place" "[I", .methodLink RX2 86 yX2_apart, .static yX2_apart, .code yX2_apart cX2_apart 2 (some .int)] ++ wsX20)
def wsX2_gainNow : List Cond := .code yX2_gainNow cX2_gainNow 5 (some .int) :: ([.methodLink RX2 81 yX2_costNow, .instanceMethod yX2_costNow, .selects RX2 yX2_costNow yX2_costNow, .initialized RX2, .code yX2_costNow cX2_costNow 3 (some .int), .fieldLink RX2 52 "TypebarLayoutModel" "size" "I", .fieldLink RX2 7 "TypebarLayoutModel" "text" "[I", .methodLink RX2 89 yX2_closeness, .instanceMethod yX2_closeness, .selects RX2 yX2_closeness yX2_closeness, .code yX2_closeness cX2_closeness 4 (some .int), .fieldLink RX2 17 "TypebarLayoutModel" "clash" "I", .fieldLink RX2 23 "TypebarLayoutModel" "place" "[I", .methodLink RX2 86 yX2_apart, .static yX2_apart, .code yX2_apart cX2_apart 2 (some .int), .methodLink RX2 69 yX2_exchange, .instanceMethod yX2_exchange, .selects RX2 yX2_exchange yX2_exchange, .code yX2_exchange cX2_exchange 4 none, .fieldLink RX2 26 "TypebarLayoutModel" "letter" "[I"] ++ wsX20)
def wsX2_gain_r1 : List Cond := [Cond.methodLink RX2 74 yX2_refusal, Cond.static yX2_refusal, Cond.initialized RX2, Cond.code yX2_refusal cX2_refusal 2 (some .int), Cond.constant RX2 60 (-1000003), Cond.constant RX2 73 (-1000005), Cond.methodLink RX2 56 yX2_isLetter, Cond.static yX2_isLetter, Cond.code yX2_isLetter cX2_isLetter 1 (some .boolean), Cond.methodLink RX2 47 yX2_within, Cond.static yX2_within, Cond.code yX2_within cX2_within 3 (some .boolean), Cond.methodLink RX2 92 yX2_gainNow, Cond.instanceMethod yX2_gainNow, Cond.selects RX2 yX2_gainNow yX2_gainNow, Cond.code yX2_gainNow cX2_gainNow 5 (some .int), Cond.methodLink RX2 81 yX2_costNow, Cond.instanceMethod yX2_costNow, Cond.selects RX2 yX2_costNow yX2_costNow, Cond.code yX2_costNow cX2_costNow 3 (some .int), Cond.fieldLink RX2 52 "TypebarLayoutModel" "size" "I", Cond.fieldLink RX2 7 "TypebarLayoutModel" "text" "[I", Cond.methodLink RX2 89 yX2_closeness, Cond.instanceMethod yX2_closeness]
def wsX2_gain_r2 : List Cond := [Cond.selects RX2 yX2_closeness yX2_closeness, Cond.code yX2_closeness cX2_closeness 4 (some .int), Cond.fieldLink RX2 17 "TypebarLayoutModel" "clash" "I", Cond.fieldLink RX2 23 "TypebarLayoutModel" "place" "[I", Cond.methodLink RX2 86 yX2_apart, Cond.static yX2_apart, Cond.code yX2_apart cX2_apart 2 (some .int), Cond.methodLink RX2 69 yX2_exchange, Cond.instanceMethod yX2_exchange, Cond.selects RX2 yX2_exchange yX2_exchange, Cond.code yX2_exchange cX2_exchange 4 none, Cond.fieldLink RX2 26 "TypebarLayoutModel" "letter" "[I"]
def wsX2_gain : List Cond := .code yX2_gain cX2_gain 4 (some .int) :: ((wsX2_gain_r1 ++ wsX2_gain_r2) ++ wsX20)
def wsX2_bestNow_r1 : List Cond := [Cond.constant RX2 85 (-1000006), Cond.methodLink RX2 92 yX2_gainNow, Cond.instanceMethod yX2_gainNow, Cond.selects RX2 yX2_gainNow yX2_gainNow, Cond.initialized RX2, Cond.code yX2_gainNow cX2_gainNow 5 (some .int), Cond.methodLink RX2 81 yX2_costNow, Cond.instanceMethod yX2_costNow, Cond.selects RX2 yX2_costNow yX2_costNow, Cond.code yX2_costNow cX2_costNow 3 (some .int), Cond.fieldLink RX2 52 "TypebarLayoutModel" "size" "I", Cond.fieldLink RX2 7 "TypebarLayoutModel" "text" "[I", Cond.methodLink RX2 89 yX2_closeness, Cond.instanceMethod yX2_closeness, Cond.selects RX2 yX2_closeness yX2_closeness, Cond.code yX2_closeness cX2_closeness 4 (some .int), Cond.fieldLink RX2 17 "TypebarLayoutModel" "clash" "I", Cond.fieldLink RX2 23 "TypebarLayoutModel" "place" "[I", Cond.methodLink RX2 86 yX2_apart, Cond.static yX2_apart, Cond.code yX2_apart cX2_apart 2 (some .int), Cond.methodLink RX2 69 yX2_exchange, Cond.instanceMethod yX2_exchange, Cond.selects RX2 yX2_exchange yX2_exchange]
def wsX2_bestNow_r2 : List Cond := [Cond.code yX2_exchange cX2_exchange 4 none, Cond.fieldLink RX2 26 "TypebarLayoutModel" "letter" "[I"]
def wsX2_bestNow : List Cond := .code yX2_bestNow cX2_bestNow 6 (some .int) :: ((wsX2_bestNow_r1 ++ wsX2_bestNow_r2) ++ wsX20)
def wsX2_bestSwap_r1 : List Cond := [Cond.methodLink RX2 95 yX2_bestNow, Cond.instanceMethod yX2_bestNow, Cond.selects RX2 yX2_bestNow yX2_bestNow, Cond.initialized RX2, Cond.code yX2_bestNow cX2_bestNow 6 (some .int), Cond.constant RX2 85 (-1000006), Cond.methodLink RX2 92 yX2_gainNow, Cond.instanceMethod yX2_gainNow, Cond.selects RX2 yX2_gainNow yX2_gainNow, Cond.code yX2_gainNow cX2_gainNow 5 (some .int), Cond.methodLink RX2 81 yX2_costNow, Cond.instanceMethod yX2_costNow, Cond.selects RX2 yX2_costNow yX2_costNow, Cond.code yX2_costNow cX2_costNow 3 (some .int), Cond.fieldLink RX2 52 "TypebarLayoutModel" "size" "I", Cond.fieldLink RX2 7 "TypebarLayoutModel" "text" "[I", Cond.methodLink RX2 89 yX2_closeness, Cond.instanceMethod yX2_closeness, Cond.selects RX2 yX2_closeness yX2_closeness, Cond.code yX2_closeness cX2_closeness 4 (some .int), Cond.fieldLink RX2 17 "TypebarLayoutModel" "clash" "I", Cond.fieldLink RX2 23 "TypebarLayoutModel" "place" "[I", Cond.methodLink RX2 86 yX2_apart, Cond.static yX2_apart]
def wsX2_bestSwap_r2 : List Cond := [Cond.code yX2_apart cX2_apart 2 (some .int), Cond.methodLink RX2 69 yX2_exchange, Cond.instanceMethod yX2_exchange, Cond.selects RX2 yX2_exchange yX2_exchange, Cond.code yX2_exchange cX2_exchange 4 none, Cond.fieldLink RX2 26 "TypebarLayoutModel" "letter" "[I"]
def wsX2_bestSwap : List Cond := .code yX2_bestSwap cX2_bestSwap 1 (some .int) :: ((wsX2_bestSwap_r1 ++ wsX2_bestSwap_r2) ++ wsX20)
def wsX2_improve_r1 : List Cond := [Cond.constant RX2 60 (-1000003), Cond.constant RX2 85 (-1000006), Cond.methodLink RX2 47 yX2_within, Cond.static yX2_within, Cond.initialized RX2, Cond.code yX2_within cX2_within 3 (some .boolean), Cond.methodLink RX2 95 yX2_bestNow, Cond.instanceMethod yX2_bestNow, Cond.selects RX2 yX2_bestNow yX2_bestNow, Cond.code yX2_bestNow cX2_bestNow 6 (some .int), Cond.methodLink RX2 92 yX2_gainNow, Cond.instanceMethod yX2_gainNow, Cond.selects RX2 yX2_gainNow yX2_gainNow, Cond.code yX2_gainNow cX2_gainNow 5 (some .int), Cond.methodLink RX2 81 yX2_costNow, Cond.instanceMethod yX2_costNow, Cond.selects RX2 yX2_costNow yX2_costNow, Cond.code yX2_costNow cX2_costNow 3 (some .int), Cond.fieldLink RX2 52 "TypebarLayoutModel" "size" "I", Cond.fieldLink RX2 7 "TypebarLayoutModel" "text" "[I", Cond.methodLink RX2 89 yX2_closeness, Cond.instanceMethod yX2_closeness, Cond.selects RX2 yX2_closeness yX2_closeness, Cond.code yX2_closeness cX2_closeness 4 (some .int)]
def wsX2_improve_r2 : List Cond := [Cond.fieldLink RX2 17 "TypebarLayoutModel" "clash" "I", Cond.fieldLink RX2 23 "TypebarLayoutModel" "place" "[I", Cond.methodLink RX2 86 yX2_apart, Cond.static yX2_apart, Cond.code yX2_apart cX2_apart 2 (some .int), Cond.methodLink RX2 69 yX2_exchange, Cond.instanceMethod yX2_exchange, Cond.selects RX2 yX2_exchange yX2_exchange, Cond.code yX2_exchange cX2_exchange 4 none, Cond.fieldLink RX2 26 "TypebarLayoutModel" "letter" "[I", Cond.methodLink RX2 78 yX2_swapNow, Cond.instanceMethod yX2_swapNow, Cond.selects RX2 yX2_swapNow yX2_swapNow, Cond.code yX2_swapNow cX2_swapNow 4 none, Cond.fieldLink RX2 29 "TypebarLayoutModel" "undoA" "[I", Cond.fieldLink RX2 66 "TypebarLayoutModel" "undos" "I", Cond.fieldLink RX2 32 "TypebarLayoutModel" "undoB" "[I"]
def wsX2_improve : List Cond := .code yX2_improve cX2_improve 4 (some .int) :: ((wsX2_improve_r1 ++ wsX2_improve_r2) ++ wsX20)
def wsX2_partOf : List Cond := .code yX2_partOf cX2_partOf 4 (some .int) :: ([.fieldLink RX2 52 "TypebarLayoutModel" "size" "I", .fieldLink RX2 7 "TypebarLayoutModel" "text" "[I", .methodLink RX2 89 yX2_closeness, .instanceMethod yX2_closeness, .selects RX2 yX2_closeness yX2_closeness, .initialized RX2, .code yX2_closeness cX2_closeness 4 (some .int), .fieldLink RX2 17 "TypebarLayoutModel" "clash" "I", .fieldLink RX2 23 "TypebarLayoutModel" "place" "[I", .methodLink RX2 86 yX2_apart, .static yX2_apart, .code yX2_apart cX2_apart 2 (some .int)] ++ wsX20)
def wsX2_worstNow : List Cond := .code yX2_worstNow cX2_worstNow 5 (some .int) :: ([.constant RX2 85 (-1000006), .methodLink RX2 98 yX2_partOf, .instanceMethod yX2_partOf, .selects RX2 yX2_partOf yX2_partOf, .initialized RX2, .code yX2_partOf cX2_partOf 4 (some .int), .fieldLink RX2 52 "TypebarLayoutModel" "size" "I", .fieldLink RX2 7 "TypebarLayoutModel" "text" "[I", .methodLink RX2 89 yX2_closeness, .instanceMethod yX2_closeness, .selects RX2 yX2_closeness yX2_closeness, .code yX2_closeness cX2_closeness 4 (some .int), .fieldLink RX2 17 "TypebarLayoutModel" "clash" "I", .fieldLink RX2 23 "TypebarLayoutModel" "place" "[I", .methodLink RX2 86 yX2_apart, .static yX2_apart, .code yX2_apart cX2_apart 2 (some .int)] ++ wsX20)
def wsX2_worstLetter : List Cond := .code yX2_worstLetter cX2_worstLetter 1 (some .int) :: ([.methodLink RX2 102 yX2_worstNow, .instanceMethod yX2_worstNow, .selects RX2 yX2_worstNow yX2_worstNow, .initialized RX2, .code yX2_worstNow cX2_worstNow 5 (some .int), .constant RX2 85 (-1000006), .methodLink RX2 98 yX2_partOf, .instanceMethod yX2_partOf, .selects RX2 yX2_partOf yX2_partOf, .code yX2_partOf cX2_partOf 4 (some .int), .fieldLink RX2 52 "TypebarLayoutModel" "size" "I", .fieldLink RX2 7 "TypebarLayoutModel" "text" "[I", .methodLink RX2 89 yX2_closeness, .instanceMethod yX2_closeness, .selects RX2 yX2_closeness yX2_closeness, .code yX2_closeness cX2_closeness 4 (some .int), .fieldLink RX2 17 "TypebarLayoutModel" "clash" "I", .fieldLink RX2 23 "TypebarLayoutModel" "place" "[I", .methodLink RX2 86 yX2_apart, .static yX2_apart, .code yX2_apart cX2_apart 2 (some .int)] ++ wsX20)
def wsX2_stroke : List Cond := .code yX2_stroke cX2_stroke 5 (some .int) :: ([.fieldLink RX2 41 "TypebarLayoutModel" "rests" "[I", .fieldLink RX2 23 "TypebarLayoutModel" "place" "[I", .fieldLink RX2 17 "TypebarLayoutModel" "clash" "I", .fieldLink RX2 13 "TypebarLayoutModel" "travel" "I", .methodLink RX2 86 yX2_apart, .static yX2_apart, .initialized RX2, .code yX2_apart cX2_apart 2 (some .int)] ++ wsX20)
def wsX2_type : List Cond := .code yX2_type cX2_type 4 none :: ([.fieldLink RX2 41 "TypebarLayoutModel" "rests" "[I", .fieldLink RX2 52 "TypebarLayoutModel" "size" "I", .fieldLink RX2 44 "TypebarLayoutModel" "outcome" "[I", .fieldLink RX2 20 "TypebarLayoutModel" "clearing" "I", .fieldLink RX2 7 "TypebarLayoutModel" "text" "[I", .fieldLink RX2 108 "TypebarLayoutModel" "lastTick" "I", .methodLink RX2 105 yX2_stroke, .instanceMethod yX2_stroke, .selects RX2 yX2_stroke yX2_stroke, .initialized RX2, .code yX2_stroke cX2_stroke 5 (some .int), .fieldLink RX2 23 "TypebarLayoutModel" "place" "[I", .fieldLink RX2 17 "TypebarLayoutModel" "clash" "I", .fieldLink RX2 13 "TypebarLayoutModel" "travel" "I", .methodLink RX2 86 yX2_apart, .static yX2_apart, .code yX2_apart cX2_apart 2 (some .int)] ++ wsX20)
def wsX2_run_r1 : List Cond := [Cond.constant RX2 60 (-1000003), Cond.fieldLink RX2 115 "TypebarLayoutModel" "printedMany" "I", Cond.fieldLink RX2 118 "TypebarLayoutModel" "jammedMany" "I", Cond.fieldLink RX2 121 "TypebarLayoutModel" "lostMany" "I", Cond.fieldLink RX2 52 "TypebarLayoutModel" "size" "I", Cond.fieldLink RX2 44 "TypebarLayoutModel" "outcome" "[I", Cond.fieldLink RX2 35 "TypebarLayoutModel" "printed" "[I", Cond.fieldLink RX2 7 "TypebarLayoutModel" "text" "[I", Cond.fieldLink RX2 38 "TypebarLayoutModel" "jammed" "[I", Cond.fieldLink RX2 108 "TypebarLayoutModel" "lastTick" "I", Cond.fieldLink RX2 13 "TypebarLayoutModel" "travel" "I", Cond.fieldLink RX2 124 "TypebarLayoutModel" "lasted" "I", Cond.methodLink RX2 47 yX2_within, Cond.static yX2_within, Cond.initialized RX2, Cond.code yX2_within cX2_within 3 (some .boolean), Cond.methodLink RX2 111 yX2_type, Cond.instanceMethod yX2_type, Cond.selects RX2 yX2_type yX2_type, Cond.code yX2_type cX2_type 4 none, Cond.fieldLink RX2 41 "TypebarLayoutModel" "rests" "[I", Cond.fieldLink RX2 20 "TypebarLayoutModel" "clearing" "I", Cond.methodLink RX2 105 yX2_stroke, Cond.instanceMethod yX2_stroke]
def wsX2_run_r2 : List Cond := [Cond.selects RX2 yX2_stroke yX2_stroke, Cond.code yX2_stroke cX2_stroke 5 (some .int), Cond.fieldLink RX2 23 "TypebarLayoutModel" "place" "[I", Cond.fieldLink RX2 17 "TypebarLayoutModel" "clash" "I", Cond.methodLink RX2 86 yX2_apart, Cond.static yX2_apart, Cond.code yX2_apart cX2_apart 2 (some .int)]
def wsX2_run : List Cond := .code yX2_run cX2_run 3 (some .int) :: ((wsX2_run_r1 ++ wsX2_run_r2) ++ wsX20)
def wsX2_jams : List Cond := .code yX2_jams cX2_jams 1 (some .int) :: ([.fieldLink RX2 118 "TypebarLayoutModel" "jammedMany" "I"] ++ wsX20)
def wsX2_lost : List Cond := .code yX2_lost cX2_lost 1 (some .int) :: ([.fieldLink RX2 121 "TypebarLayoutModel" "lostMany" "I"] ++ wsX20)
def wsX2_duration : List Cond := .code yX2_duration cX2_duration 1 (some .int) :: ([.fieldLink RX2 124 "TypebarLayoutModel" "lasted" "I"] ++ wsX20)
def wsX2_printedLetter : List Cond := .code yX2_printedLetter cX2_printedLetter 2 (some .int) :: ([.fieldLink RX2 115 "TypebarLayoutModel" "printedMany" "I", .fieldLink RX2 35 "TypebarLayoutModel" "printed" "[I", .constant RX2 85 (-1000006), .methodLink RX2 47 yX2_within, .static yX2_within, .initialized RX2, .code yX2_within cX2_within 3 (some .boolean)] ++ wsX20)
def wsX2_jammedKeystroke : List Cond := .code yX2_jammedKeystroke cX2_jammedKeystroke 2 (some .int) :: ([.fieldLink RX2 118 "TypebarLayoutModel" "jammedMany" "I", .fieldLink RX2 38 "TypebarLayoutModel" "jammed" "[I", .constant RX2 85 (-1000006), .methodLink RX2 47 yX2_within, .static yX2_within, .initialized RX2, .code yX2_within cX2_within 3 (some .boolean)] ++ wsX20)
def wsX2_isSafe : List Cond := .code yX2_isSafe cX2_isSafe 4 (some .boolean) :: ([.fieldLink RX2 52 "TypebarLayoutModel" "size" "I", .fieldLink RX2 44 "TypebarLayoutModel" "outcome" "[I", .methodLink RX2 111 yX2_type, .instanceMethod yX2_type, .selects RX2 yX2_type yX2_type, .initialized RX2, .code yX2_type cX2_type 4 none, .fieldLink RX2 41 "TypebarLayoutModel" "rests" "[I", .fieldLink RX2 20 "TypebarLayoutModel" "clearing" "I", .fieldLink RX2 7 "TypebarLayoutModel" "text" "[I", .fieldLink RX2 108 "TypebarLayoutModel" "lastTick" "I", .methodLink RX2 105 yX2_stroke, .instanceMethod yX2_stroke, .selects RX2 yX2_stroke yX2_stroke, .code yX2_stroke cX2_stroke 5 (some .int), .fieldLink RX2 23 "TypebarLayoutModel" "place" "[I", .fieldLink RX2 17 "TypebarLayoutModel" "clash" "I", .fieldLink RX2 13 "TypebarLayoutModel" "travel" "I", .methodLink RX2 86 yX2_apart, .static yX2_apart, .code yX2_apart cX2_apart 2 (some .int)] ++ wsX20)
def wsX2_safeNow_r1 : List Cond := [Cond.constant RX2 85 (-1000006), Cond.methodLink RX2 127 yX2_isSafe, Cond.instanceMethod yX2_isSafe, Cond.selects RX2 yX2_isSafe yX2_isSafe, Cond.initialized RX2, Cond.code yX2_isSafe cX2_isSafe 4 (some .boolean), Cond.fieldLink RX2 52 "TypebarLayoutModel" "size" "I", Cond.fieldLink RX2 44 "TypebarLayoutModel" "outcome" "[I", Cond.methodLink RX2 111 yX2_type, Cond.instanceMethod yX2_type, Cond.selects RX2 yX2_type yX2_type, Cond.code yX2_type cX2_type 4 none, Cond.fieldLink RX2 41 "TypebarLayoutModel" "rests" "[I", Cond.fieldLink RX2 20 "TypebarLayoutModel" "clearing" "I", Cond.fieldLink RX2 7 "TypebarLayoutModel" "text" "[I", Cond.fieldLink RX2 108 "TypebarLayoutModel" "lastTick" "I", Cond.methodLink RX2 105 yX2_stroke, Cond.instanceMethod yX2_stroke, Cond.selects RX2 yX2_stroke yX2_stroke, Cond.code yX2_stroke cX2_stroke 5 (some .int), Cond.fieldLink RX2 23 "TypebarLayoutModel" "place" "[I", Cond.fieldLink RX2 17 "TypebarLayoutModel" "clash" "I", Cond.fieldLink RX2 13 "TypebarLayoutModel" "travel" "I", Cond.methodLink RX2 86 yX2_apart]
def wsX2_safeNow_r2 : List Cond := [Cond.static yX2_apart, Cond.code yX2_apart cX2_apart 2 (some .int)]
def wsX2_safeNow : List Cond := .code yX2_safeNow cX2_safeNow 2 (some .int) :: ((wsX2_safeNow_r1 ++ wsX2_safeNow_r2) ++ wsX20)
def wsX2_safeInterval_r1 : List Cond := [Cond.methodLink RX2 130 yX2_safeNow, Cond.instanceMethod yX2_safeNow, Cond.selects RX2 yX2_safeNow yX2_safeNow, Cond.initialized RX2, Cond.code yX2_safeNow cX2_safeNow 2 (some .int), Cond.constant RX2 85 (-1000006), Cond.methodLink RX2 127 yX2_isSafe, Cond.instanceMethod yX2_isSafe, Cond.selects RX2 yX2_isSafe yX2_isSafe, Cond.code yX2_isSafe cX2_isSafe 4 (some .boolean), Cond.fieldLink RX2 52 "TypebarLayoutModel" "size" "I", Cond.fieldLink RX2 44 "TypebarLayoutModel" "outcome" "[I", Cond.methodLink RX2 111 yX2_type, Cond.instanceMethod yX2_type, Cond.selects RX2 yX2_type yX2_type, Cond.code yX2_type cX2_type 4 none, Cond.fieldLink RX2 41 "TypebarLayoutModel" "rests" "[I", Cond.fieldLink RX2 20 "TypebarLayoutModel" "clearing" "I", Cond.fieldLink RX2 7 "TypebarLayoutModel" "text" "[I", Cond.fieldLink RX2 108 "TypebarLayoutModel" "lastTick" "I", Cond.methodLink RX2 105 yX2_stroke, Cond.instanceMethod yX2_stroke, Cond.selects RX2 yX2_stroke yX2_stroke, Cond.code yX2_stroke cX2_stroke 5 (some .int)]
def wsX2_safeInterval_r2 : List Cond := [Cond.fieldLink RX2 23 "TypebarLayoutModel" "place" "[I", Cond.fieldLink RX2 17 "TypebarLayoutModel" "clash" "I", Cond.fieldLink RX2 13 "TypebarLayoutModel" "travel" "I", Cond.methodLink RX2 86 yX2_apart, Cond.static yX2_apart, Cond.code yX2_apart cX2_apart 2 (some .int)]
def wsX2_safeInterval : List Cond := .code yX2_safeInterval cX2_safeInterval 1 (some .int) :: ((wsX2_safeInterval_r1 ++ wsX2_safeInterval_r2) ++ wsX20)
def wsX2_mix : List Cond := .code yX2_mix cX2_mix 3 none :: ([.constantLong RX2 133 (31), .fieldLink RX2 135 "TypebarLayoutModel" "h" "J"] ++ wsX20)
def wsX2_digest_r1 : List Cond := [Cond.constantLong RX2 139 (1783), Cond.fieldLink RX2 135 "TypebarLayoutModel" "h" "J", Cond.fieldLink RX2 52 "TypebarLayoutModel" "size" "I", Cond.fieldLink RX2 7 "TypebarLayoutModel" "text" "[I", Cond.fieldLink RX2 13 "TypebarLayoutModel" "travel" "I", Cond.fieldLink RX2 17 "TypebarLayoutModel" "clash" "I", Cond.fieldLink RX2 20 "TypebarLayoutModel" "clearing" "I", Cond.fieldLink RX2 26 "TypebarLayoutModel" "letter" "[I", Cond.fieldLink RX2 66 "TypebarLayoutModel" "undos" "I", Cond.fieldLink RX2 118 "TypebarLayoutModel" "jammedMany" "I", Cond.fieldLink RX2 121 "TypebarLayoutModel" "lostMany" "I", Cond.fieldLink RX2 124 "TypebarLayoutModel" "lasted" "I", Cond.fieldLink RX2 115 "TypebarLayoutModel" "printedMany" "I", Cond.fieldLink RX2 35 "TypebarLayoutModel" "printed" "[I", Cond.fieldLink RX2 38 "TypebarLayoutModel" "jammed" "[I", Cond.methodLink RX2 141 yX2_mix, Cond.instanceMethod yX2_mix, Cond.selects RX2 yX2_mix yX2_mix, Cond.initialized RX2, Cond.code yX2_mix cX2_mix 3 none, Cond.constantLong RX2 133 (31), Cond.methodLink RX2 81 yX2_costNow, Cond.instanceMethod yX2_costNow, Cond.selects RX2 yX2_costNow yX2_costNow]
def wsX2_digest_r2 : List Cond := [Cond.code yX2_costNow cX2_costNow 3 (some .int), Cond.methodLink RX2 89 yX2_closeness, Cond.instanceMethod yX2_closeness, Cond.selects RX2 yX2_closeness yX2_closeness, Cond.code yX2_closeness cX2_closeness 4 (some .int), Cond.fieldLink RX2 23 "TypebarLayoutModel" "place" "[I", Cond.methodLink RX2 86 yX2_apart, Cond.static yX2_apart, Cond.code yX2_apart cX2_apart 2 (some .int), Cond.methodLink RX2 95 yX2_bestNow, Cond.instanceMethod yX2_bestNow, Cond.selects RX2 yX2_bestNow yX2_bestNow, Cond.code yX2_bestNow cX2_bestNow 6 (some .int), Cond.constant RX2 85 (-1000006), Cond.methodLink RX2 92 yX2_gainNow, Cond.instanceMethod yX2_gainNow, Cond.selects RX2 yX2_gainNow yX2_gainNow, Cond.code yX2_gainNow cX2_gainNow 5 (some .int), Cond.methodLink RX2 69 yX2_exchange, Cond.instanceMethod yX2_exchange, Cond.selects RX2 yX2_exchange yX2_exchange, Cond.code yX2_exchange cX2_exchange 4 none, Cond.methodLink RX2 102 yX2_worstNow, Cond.instanceMethod yX2_worstNow]
def wsX2_digest_r3 : List Cond := [Cond.selects RX2 yX2_worstNow yX2_worstNow, Cond.code yX2_worstNow cX2_worstNow 5 (some .int), Cond.methodLink RX2 98 yX2_partOf, Cond.instanceMethod yX2_partOf, Cond.selects RX2 yX2_partOf yX2_partOf, Cond.code yX2_partOf cX2_partOf 4 (some .int), Cond.methodLink RX2 130 yX2_safeNow, Cond.instanceMethod yX2_safeNow, Cond.selects RX2 yX2_safeNow yX2_safeNow, Cond.code yX2_safeNow cX2_safeNow 2 (some .int), Cond.methodLink RX2 127 yX2_isSafe, Cond.instanceMethod yX2_isSafe, Cond.selects RX2 yX2_isSafe yX2_isSafe, Cond.code yX2_isSafe cX2_isSafe 4 (some .boolean), Cond.fieldLink RX2 44 "TypebarLayoutModel" "outcome" "[I", Cond.methodLink RX2 111 yX2_type, Cond.instanceMethod yX2_type, Cond.selects RX2 yX2_type yX2_type, Cond.code yX2_type cX2_type 4 none, Cond.fieldLink RX2 41 "TypebarLayoutModel" "rests" "[I", Cond.fieldLink RX2 108 "TypebarLayoutModel" "lastTick" "I", Cond.methodLink RX2 105 yX2_stroke, Cond.instanceMethod yX2_stroke, Cond.selects RX2 yX2_stroke yX2_stroke]
def wsX2_digest_r4 : List Cond := [Cond.code yX2_stroke cX2_stroke 5 (some .int)]
def wsX2_digest : List Cond := .code yX2_digest cX2_digest 2 (some .long) :: ((wsX2_digest_r1 ++ (wsX2_digest_r2 ++ (wsX2_digest_r3 ++ wsX2_digest_r4))) ++ wsX20)
def wsJ9_abs_0f7a4 : List Cond := .code yJ9_abs_0f7a4 cJ9_abs_0f7a4 1 (some .int) :: ([])
def wsJ9_max_7cf53 : List Cond := .code yJ9_max_7cf53 cJ9_max_7cf53 2 (some .int) :: ([])
def wsJ9_min_7cf53 : List Cond := .code yJ9_min_7cf53 cJ9_min_7cf53 2 (some .int) :: ([])
def wsL_law_r1 : List Cond := [Cond.classLink RL 7 RX1, Cond.instantiable RX1 12, Cond.initialized RX1, Cond.classLink RL 10 RX2, Cond.instantiable RX2 20, Cond.initialized RX2, Cond.methodLink RL 9 yX1_init, Cond.instanceMethod yX1_init, Cond.code yX1_init cX1_init 2 none, Cond.methodLink RX1 1 objectInit, Cond.instanceMethod objectInit, Cond.code objectInit ⟨#[0xb1]⟩ 1 none, Cond.arrayClass .int, Cond.fieldLink RX1 9 "TypebarLayout" "text" "[I", Cond.fieldLink RX1 13 "TypebarLayout" "textLength" "I", Cond.fieldLink RX1 17 "TypebarLayout" "travelTime" "I", Cond.fieldLink RX1 20 "TypebarLayout" "clashDistance" "I", Cond.fieldLink RX1 23 "TypebarLayout" "clearingTime" "I", Cond.fieldLink RX1 26 "TypebarLayout" "letters" "[I", Cond.fieldLink RX1 29 "TypebarLayout" "positions" "[I", Cond.fieldLink RX1 32 "TypebarLayout" "undoFirst" "[I", Cond.fieldLink RX1 35 "TypebarLayout" "undoSecond" "[I", Cond.fieldLink RX1 38 "TypebarLayout" "undoable" "I", Cond.classLink RX1 41 RX0]
def wsL_law_r2 : List Cond := [Cond.instantiable RX0 7, Cond.initialized RX0, Cond.fieldLink RX1 44 "TypebarLayout" "latest" "LTypebarLayout$Typing;", Cond.fieldLink RX1 48 "TypebarLayout" "trial" "LTypebarLayout$Typing;", Cond.instanceMethod yX0_init, Cond.code yX0_init cX0_init 1 none, Cond.methodLink RX0 3 objectInit, Cond.fieldLink RX0 9 "TypebarLayout$Typing" "printed" "[I", Cond.fieldLink RX0 15 "TypebarLayout$Typing" "printedCount" "I", Cond.fieldLink RX0 19 "TypebarLayout$Typing" "jammed" "[I", Cond.fieldLink RX0 22 "TypebarLayout$Typing" "jammedCount" "I", Cond.fieldLink RX0 25 "TypebarLayout$Typing" "lostCount" "I", Cond.fieldLink RX0 28 "TypebarLayout$Typing" "endTick" "I", Cond.fieldLink RX0 31 "TypebarLayout$Typing" "restTicks" "[I", Cond.methodLink RL 12 yX2_init, Cond.instanceMethod yX2_init, Cond.code yX2_init cX2_init 2 none, Cond.methodLink RX2 1 objectInit, Cond.fieldLink RX2 7 "TypebarLayoutModel" "text" "[I", Cond.fieldLink RX2 13 "TypebarLayoutModel" "travel" "I", Cond.fieldLink RX2 17 "TypebarLayoutModel" "clash" "I", Cond.fieldLink RX2 20 "TypebarLayoutModel" "clearing" "I", Cond.fieldLink RX2 23 "TypebarLayoutModel" "place" "[I", Cond.fieldLink RX2 26 "TypebarLayoutModel" "letter" "[I"]
def wsL_law_r3 : List Cond := [Cond.fieldLink RX2 29 "TypebarLayoutModel" "undoA" "[I", Cond.fieldLink RX2 32 "TypebarLayoutModel" "undoB" "[I", Cond.fieldLink RX2 35 "TypebarLayoutModel" "printed" "[I", Cond.fieldLink RX2 38 "TypebarLayoutModel" "jammed" "[I", Cond.fieldLink RX2 41 "TypebarLayoutModel" "rests" "[I", Cond.fieldLink RX2 44 "TypebarLayoutModel" "outcome" "[I", Cond.methodLink RL 13 yX1_append, Cond.instanceMethod yX1_append, Cond.selects RX1 yX1_append yX1_append, Cond.code yX1_append cX1_append 2 (some .int), Cond.constant RX1 51 (-1000001), Cond.constant RX1 52 (-1000002), Cond.methodLink RL 17 yX2_append, Cond.instanceMethod yX2_append, Cond.selects RX2 yX2_append yX2_append, Cond.code yX2_append cX2_append 2 (some .int), Cond.constant RX2 51 (-1000001), Cond.fieldLink RX2 52 "TypebarLayoutModel" "size" "I", Cond.constant RX2 55 (-1000002), Cond.methodLink RX2 47 yX2_within, Cond.static yX2_within, Cond.code yX2_within cX2_within 3 (some .boolean), Cond.methodLink RL 18 yX1_clearText, Cond.instanceMethod yX1_clearText]
def wsL_law_r4 : List Cond := [Cond.selects RX1 yX1_clearText yX1_clearText, Cond.code yX1_clearText cX1_clearText 2 (some .int), Cond.methodLink RL 22 yX2_clearText, Cond.instanceMethod yX2_clearText, Cond.selects RX2 yX2_clearText yX2_clearText, Cond.code yX2_clearText cX2_clearText 2 (some .int), Cond.methodLink RL 23 yX1_pairCount, Cond.instanceMethod yX1_pairCount, Cond.selects RX1 yX1_pairCount yX1_pairCount, Cond.code yX1_pairCount cX1_pairCount 5 (some .int), Cond.constant RX1 57 (-1000003), Cond.methodLink RX1 53 yX1_isNumber, Cond.static yX1_isNumber, Cond.code yX1_isNumber cX1_isNumber 1 (some .boolean), Cond.methodLink RX1 58 yX1_isPairOf, Cond.static yX1_isPairOf, Cond.code yX1_isPairOf cX1_isPairOf 4 (some .boolean), Cond.methodLink RL 27 yX2_pairCount, Cond.instanceMethod yX2_pairCount, Cond.selects RX2 yX2_pairCount yX2_pairCount, Cond.code yX2_pairCount cX2_pairCount 7 (some .int), Cond.constant RX2 60 (-1000003), Cond.methodLink RX2 56 yX2_isLetter, Cond.static yX2_isLetter]
def wsL_law_r5 : List Cond := [Cond.code yX2_isLetter cX2_isLetter 1 (some .boolean), Cond.methodLink RL 28 yX1_setTravelTime, Cond.instanceMethod yX1_setTravelTime, Cond.selects RX1 yX1_setTravelTime yX1_setTravelTime, Cond.code yX1_setTravelTime cX1_setTravelTime 3 (some .int), Cond.methodLink RL 31 yX2_setTravelTime, Cond.instanceMethod yX2_setTravelTime, Cond.selects RX2 yX2_setTravelTime yX2_setTravelTime, Cond.code yX2_setTravelTime cX2_setTravelTime 3 (some .int), Cond.methodLink RL 32 yX1_setClashDistance, Cond.instanceMethod yX1_setClashDistance, Cond.selects RX1 yX1_setClashDistance yX1_setClashDistance, Cond.code yX1_setClashDistance cX1_setClashDistance 3 (some .int), Cond.methodLink RL 35 yX2_setClashDistance, Cond.instanceMethod yX2_setClashDistance, Cond.selects RX2 yX2_setClashDistance yX2_setClashDistance, Cond.code yX2_setClashDistance cX2_setClashDistance 3 (some .int), Cond.methodLink RL 36 yX1_setClearingTime, Cond.instanceMethod yX1_setClearingTime, Cond.selects RX1 yX1_setClearingTime yX1_setClearingTime, Cond.code yX1_setClearingTime cX1_setClearingTime 3 (some .int), Cond.methodLink RL 39 yX2_setClearingTime, Cond.instanceMethod yX2_setClearingTime, Cond.selects RX2 yX2_setClearingTime yX2_setClearingTime]
def wsL_law_r6 : List Cond := [Cond.code yX2_setClearingTime cX2_setClearingTime 3 (some .int), Cond.methodLink RL 40 yX1_loadLayout, Cond.instanceMethod yX1_loadLayout, Cond.selects RX1 yX1_loadLayout yX1_loadLayout, Cond.code yX1_loadLayout cX1_loadLayout 2 (some .int), Cond.constant RX1 66 (-1000004), Cond.methodLink RX1 62 yX1_textIsLayout, Cond.instanceMethod yX1_textIsLayout, Cond.selects RX1 yX1_textIsLayout yX1_textIsLayout, Cond.code yX1_textIsLayout cX1_textIsLayout 3 (some .boolean), Cond.methodLink RX1 67 yX1_place, Cond.instanceMethod yX1_place, Cond.selects RX1 yX1_place yX1_place, Cond.code yX1_place cX1_place 3 none, Cond.methodLink RL 43 yX2_loadLayout, Cond.instanceMethod yX2_loadLayout, Cond.selects RX2 yX2_loadLayout yX2_loadLayout, Cond.code yX2_loadLayout cX2_loadLayout 2 (some .int), Cond.constant RX2 65 (-1000004), Cond.fieldLink RX2 66 "TypebarLayoutModel" "undos" "I", Cond.methodLink RX2 61 yX2_isLayout, Cond.instanceMethod yX2_isLayout, Cond.selects RX2 yX2_isLayout yX2_isLayout, Cond.code yX2_isLayout cX2_isLayout 3 (some .boolean)]
def wsL_law_r7 : List Cond := [Cond.methodLink RL 44 yX1_letterAt, Cond.instanceMethod yX1_letterAt, Cond.selects RX1 yX1_letterAt yX1_letterAt, Cond.code yX1_letterAt cX1_letterAt 2 (some .int), Cond.methodLink RL 47 yX2_letterAt, Cond.instanceMethod yX2_letterAt, Cond.selects RX2 yX2_letterAt yX2_letterAt, Cond.code yX2_letterAt cX2_letterAt 2 (some .int), Cond.methodLink RL 48 yX1_positionOf, Cond.instanceMethod yX1_positionOf, Cond.selects RX1 yX1_positionOf yX1_positionOf, Cond.code yX1_positionOf cX1_positionOf 2 (some .int), Cond.methodLink RL 51 yX2_positionOf, Cond.instanceMethod yX2_positionOf, Cond.selects RX2 yX2_positionOf yX2_positionOf, Cond.code yX2_positionOf cX2_positionOf 2 (some .int), Cond.methodLink RL 52 yX1_swap, Cond.instanceMethod yX1_swap, Cond.selects RX1 yX1_swap yX1_swap, Cond.code yX1_swap cX1_swap 4 (some .int), Cond.methodLink RX1 71 yX1_swapError, Cond.static yX1_swapError, Cond.code yX1_swapError cX1_swapError 2 (some .int), Cond.constant RX1 137 (-1000005)]
def wsL_law_r8 : List Cond := [Cond.methodLink RX1 75 yX1_makeSwap, Cond.instanceMethod yX1_makeSwap, Cond.selects RX1 yX1_makeSwap yX1_makeSwap, Cond.code yX1_makeSwap cX1_makeSwap 3 none, Cond.methodLink RX1 83 yX1_exchange, Cond.instanceMethod yX1_exchange, Cond.selects RX1 yX1_exchange yX1_exchange, Cond.code yX1_exchange cX1_exchange 4 none, Cond.methodLink RX1 138 yX1_forgetOldestSwap, Cond.instanceMethod yX1_forgetOldestSwap, Cond.selects RX1 yX1_forgetOldestSwap yX1_forgetOldestSwap, Cond.code yX1_forgetOldestSwap cX1_forgetOldestSwap 2 none, Cond.methodLink RX1 78 yX1_cost, Cond.instanceMethod yX1_cost, Cond.selects RX1 yX1_cost yX1_cost, Cond.code yX1_cost cX1_cost 3 (some .int), Cond.methodLink RX1 86 yX1_closeness, Cond.instanceMethod yX1_closeness, Cond.selects RX1 yX1_closeness yX1_closeness, Cond.code yX1_closeness cX1_closeness 4 (some .int), Cond.methodLink RX1 141 Lib.Math.abs.name, Cond.static Lib.Math.abs.name, Cond.initialized "java/lang/Math", Cond.code Lib.Math.abs.name Lib.Math.abs.code 1 (some .int)]
def wsL_law_r9 : List Cond := [Cond.methodLink RX1 146 Lib.Math.max.name, Cond.static Lib.Math.max.name, Cond.code Lib.Math.max.name Lib.Math.max.code 2 (some .int), Cond.methodLink RL 55 yX2_swap, Cond.instanceMethod yX2_swap, Cond.selects RX2 yX2_swap yX2_swap, Cond.code yX2_swap cX2_swap 4 (some .int), Cond.methodLink RX2 74 yX2_refusal, Cond.static yX2_refusal, Cond.code yX2_refusal cX2_refusal 2 (some .int), Cond.constant RX2 73 (-1000005), Cond.methodLink RX2 78 yX2_swapNow, Cond.instanceMethod yX2_swapNow, Cond.selects RX2 yX2_swapNow yX2_swapNow, Cond.code yX2_swapNow cX2_swapNow 4 none, Cond.methodLink RX2 69 yX2_exchange, Cond.instanceMethod yX2_exchange, Cond.selects RX2 yX2_exchange yX2_exchange, Cond.code yX2_exchange cX2_exchange 4 none, Cond.methodLink RX2 81 yX2_costNow, Cond.instanceMethod yX2_costNow, Cond.selects RX2 yX2_costNow yX2_costNow, Cond.code yX2_costNow cX2_costNow 3 (some .int), Cond.methodLink RX2 89 yX2_closeness]
def wsL_law_r10 : List Cond := [Cond.instanceMethod yX2_closeness, Cond.selects RX2 yX2_closeness yX2_closeness, Cond.code yX2_closeness cX2_closeness 4 (some .int), Cond.methodLink RX2 86 yX2_apart, Cond.static yX2_apart, Cond.code yX2_apart cX2_apart 2 (some .int), Cond.methodLink RL 56 yX1_undo, Cond.instanceMethod yX1_undo, Cond.selects RX1 yX1_undo yX1_undo, Cond.code yX1_undo cX1_undo 1 (some .int), Cond.constant RX1 82 (-1000006), Cond.methodLink RL 59 yX2_undo, Cond.instanceMethod yX2_undo, Cond.selects RX2 yX2_undo yX2_undo, Cond.code yX2_undo cX2_undo 1 (some .int), Cond.constant RX2 85 (-1000006), Cond.methodLink RL 60 yX1_undoCount, Cond.instanceMethod yX1_undoCount, Cond.selects RX1 yX1_undoCount yX1_undoCount, Cond.code yX1_undoCount cX1_undoCount 1 (some .int), Cond.methodLink RL 63 yX2_undoCount, Cond.instanceMethod yX2_undoCount, Cond.selects RX2 yX2_undoCount yX2_undoCount, Cond.code yX2_undoCount cX2_undoCount 1 (some .int)]
def wsL_law_r11 : List Cond := [Cond.methodLink RL 64 yX1_mirror, Cond.instanceMethod yX1_mirror, Cond.selects RX1 yX1_mirror yX1_mirror, Cond.code yX1_mirror cX1_mirror 2 (some .int), Cond.methodLink RL 67 yX2_mirror, Cond.instanceMethod yX2_mirror, Cond.selects RX2 yX2_mirror yX2_mirror, Cond.code yX2_mirror cX2_mirror 2 (some .int), Cond.methodLink RL 68 yX1_cost, Cond.methodLink RL 71 yX2_cost, Cond.instanceMethod yX2_cost, Cond.selects RX2 yX2_cost yX2_cost, Cond.code yX2_cost cX2_cost 1 (some .int), Cond.methodLink RL 72 yX1_gain, Cond.instanceMethod yX1_gain, Cond.selects RX1 yX1_gain yX1_gain, Cond.code yX1_gain cX1_gain 4 (some .int), Cond.methodLink RX1 89 yX1_costAfterSwap, Cond.instanceMethod yX1_costAfterSwap, Cond.selects RX1 yX1_costAfterSwap yX1_costAfterSwap, Cond.code yX1_costAfterSwap cX1_costAfterSwap 4 (some .int), Cond.methodLink RL 75 yX2_gain, Cond.instanceMethod yX2_gain, Cond.selects RX2 yX2_gain yX2_gain]
def wsL_law_r12 : List Cond := [Cond.code yX2_gain cX2_gain 4 (some .int), Cond.methodLink RX2 92 yX2_gainNow, Cond.instanceMethod yX2_gainNow, Cond.selects RX2 yX2_gainNow yX2_gainNow, Cond.code yX2_gainNow cX2_gainNow 5 (some .int), Cond.methodLink RL 76 yX1_bestSwap, Cond.instanceMethod yX1_bestSwap, Cond.selects RX1 yX1_bestSwap yX1_bestSwap, Cond.code yX1_bestSwap cX1_bestSwap 6 (some .int), Cond.methodLink RL 79 yX2_bestSwap, Cond.instanceMethod yX2_bestSwap, Cond.selects RX2 yX2_bestSwap yX2_bestSwap, Cond.code yX2_bestSwap cX2_bestSwap 1 (some .int), Cond.methodLink RX2 95 yX2_bestNow, Cond.instanceMethod yX2_bestNow, Cond.selects RX2 yX2_bestNow yX2_bestNow, Cond.code yX2_bestNow cX2_bestNow 6 (some .int), Cond.methodLink RL 80 yX1_improve, Cond.instanceMethod yX1_improve, Cond.selects RX1 yX1_improve yX1_improve, Cond.code yX1_improve cX1_improve 4 (some .int), Cond.methodLink RX1 92 yX1_bestSwap, Cond.methodLink RL 83 yX2_improve, Cond.instanceMethod yX2_improve]
def wsL_law_r13 : List Cond := [Cond.selects RX2 yX2_improve yX2_improve, Cond.code yX2_improve cX2_improve 4 (some .int), Cond.methodLink RL 84 yX1_worstLetter, Cond.instanceMethod yX1_worstLetter, Cond.selects RX1 yX1_worstLetter yX1_worstLetter, Cond.code yX1_worstLetter cX1_worstLetter 5 (some .int), Cond.methodLink RX1 95 yX1_closenessOf, Cond.instanceMethod yX1_closenessOf, Cond.selects RX1 yX1_closenessOf yX1_closenessOf, Cond.code yX1_closenessOf cX1_closenessOf 4 (some .int), Cond.methodLink RL 87 yX2_worstLetter, Cond.instanceMethod yX2_worstLetter, Cond.selects RX2 yX2_worstLetter yX2_worstLetter, Cond.code yX2_worstLetter cX2_worstLetter 1 (some .int), Cond.methodLink RX2 102 yX2_worstNow, Cond.instanceMethod yX2_worstNow, Cond.selects RX2 yX2_worstNow yX2_worstNow, Cond.code yX2_worstNow cX2_worstNow 5 (some .int), Cond.methodLink RX2 98 yX2_partOf, Cond.instanceMethod yX2_partOf, Cond.selects RX2 yX2_partOf yX2_partOf, Cond.code yX2_partOf cX2_partOf 4 (some .int), Cond.methodLink RL 88 yX1_run, Cond.instanceMethod yX1_run]
def wsL_law_r14 : List Cond := [Cond.selects RX1 yX1_run yX1_run, Cond.code yX1_run cX1_run 2 (some .int), Cond.methodLink RX1 99 yX1_typeText, Cond.instanceMethod yX1_typeText, Cond.selects RX1 yX1_typeText yX1_typeText, Cond.code yX1_typeText cX1_typeText 6 none, Cond.instanceMethod yX0_begin, Cond.selects RX0 yX0_begin yX0_begin, Cond.code yX0_begin cX0_begin 2 none, Cond.methodLink RX1 152 yX1_strike, Cond.instanceMethod yX1_strike, Cond.selects RX1 yX1_strike yX1_strike, Cond.code yX1_strike cX1_strike 6 (some .boolean), Cond.instanceMethod yX0_inMotion, Cond.selects RX0 yX0_inMotion yX0_inMotion, Cond.code yX0_inMotion cX0_inMotion 3 (some .boolean), Cond.instanceMethod yX0_stopAround, Cond.selects RX0 yX0_stopAround yX0_stopAround, Cond.code yX0_stopAround cX0_stopAround 8 (some .boolean), Cond.methodLink RX0 34 Lib.Math.max.name, Cond.methodLink RX0 40 Lib.Math.min.name, Cond.static Lib.Math.min.name, Cond.code Lib.Math.min.name Lib.Math.min.code 2 (some .int), Cond.methodLink RX0 43 yX0_inMotion]
def wsL_law_r15 : List Cond := [Cond.instanceMethod yX0_addJammed, Cond.selects RX0 yX0_addJammed yX0_addJammed, Cond.code yX0_addJammed cX0_addJammed 2 none, Cond.instanceMethod yX0_addPrinted, Cond.selects RX0 yX0_addPrinted yX0_addPrinted, Cond.code yX0_addPrinted cX0_addPrinted 2 none, Cond.methodLink RL 91 yX2_run, Cond.instanceMethod yX2_run, Cond.selects RX2 yX2_run yX2_run, Cond.code yX2_run cX2_run 3 (some .int), Cond.fieldLink RX2 115 "TypebarLayoutModel" "printedMany" "I", Cond.fieldLink RX2 118 "TypebarLayoutModel" "jammedMany" "I", Cond.fieldLink RX2 121 "TypebarLayoutModel" "lostMany" "I", Cond.fieldLink RX2 108 "TypebarLayoutModel" "lastTick" "I", Cond.fieldLink RX2 124 "TypebarLayoutModel" "lasted" "I", Cond.methodLink RX2 111 yX2_type, Cond.instanceMethod yX2_type, Cond.selects RX2 yX2_type yX2_type, Cond.code yX2_type cX2_type 4 none, Cond.methodLink RX2 105 yX2_stroke, Cond.instanceMethod yX2_stroke, Cond.selects RX2 yX2_stroke yX2_stroke, Cond.code yX2_stroke cX2_stroke 5 (some .int), Cond.methodLink RL 92 yX1_jams]
def wsL_law_r16 : List Cond := [Cond.instanceMethod yX1_jams, Cond.selects RX1 yX1_jams yX1_jams, Cond.code yX1_jams cX1_jams 1 (some .int), Cond.methodLink RL 95 yX2_jams, Cond.instanceMethod yX2_jams, Cond.selects RX2 yX2_jams yX2_jams, Cond.code yX2_jams cX2_jams 1 (some .int), Cond.methodLink RL 96 yX1_lost, Cond.instanceMethod yX1_lost, Cond.selects RX1 yX1_lost yX1_lost, Cond.code yX1_lost cX1_lost 1 (some .int), Cond.methodLink RL 99 yX2_lost, Cond.instanceMethod yX2_lost, Cond.selects RX2 yX2_lost yX2_lost, Cond.code yX2_lost cX2_lost 1 (some .int), Cond.methodLink RL 100 yX1_duration, Cond.instanceMethod yX1_duration, Cond.selects RX1 yX1_duration yX1_duration, Cond.code yX1_duration cX1_duration 1 (some .int), Cond.methodLink RL 103 yX2_duration, Cond.instanceMethod yX2_duration, Cond.selects RX2 yX2_duration yX2_duration, Cond.code yX2_duration cX2_duration 1 (some .int), Cond.methodLink RL 104 yX1_printedLetter]
def wsL_law_r17 : List Cond := [Cond.instanceMethod yX1_printedLetter, Cond.selects RX1 yX1_printedLetter yX1_printedLetter, Cond.code yX1_printedLetter cX1_printedLetter 2 (some .int), Cond.methodLink RL 107 yX2_printedLetter, Cond.instanceMethod yX2_printedLetter, Cond.selects RX2 yX2_printedLetter yX2_printedLetter, Cond.code yX2_printedLetter cX2_printedLetter 2 (some .int), Cond.methodLink RL 108 yX1_jammedKeystroke, Cond.instanceMethod yX1_jammedKeystroke, Cond.selects RX1 yX1_jammedKeystroke yX1_jammedKeystroke, Cond.code yX1_jammedKeystroke cX1_jammedKeystroke 2 (some .int), Cond.methodLink RL 111 yX2_jammedKeystroke, Cond.instanceMethod yX2_jammedKeystroke, Cond.selects RX2 yX2_jammedKeystroke yX2_jammedKeystroke, Cond.code yX2_jammedKeystroke cX2_jammedKeystroke 2 (some .int), Cond.methodLink RL 112 yX1_safeInterval, Cond.instanceMethod yX1_safeInterval, Cond.selects RX1 yX1_safeInterval yX1_safeInterval, Cond.code yX1_safeInterval cX1_safeInterval 2 (some .int), Cond.methodLink RL 115 yX2_safeInterval, Cond.instanceMethod yX2_safeInterval, Cond.selects RX2 yX2_safeInterval yX2_safeInterval, Cond.code yX2_safeInterval cX2_safeInterval 1 (some .int), Cond.methodLink RX2 130 yX2_safeNow]
def wsL_law_r18 : List Cond := [Cond.instanceMethod yX2_safeNow, Cond.selects RX2 yX2_safeNow yX2_safeNow, Cond.code yX2_safeNow cX2_safeNow 2 (some .int), Cond.methodLink RX2 127 yX2_isSafe, Cond.instanceMethod yX2_isSafe, Cond.selects RX2 yX2_isSafe yX2_isSafe, Cond.code yX2_isSafe cX2_isSafe 4 (some .boolean), Cond.methodLink RL 116 yX1_digest, Cond.instanceMethod yX1_digest, Cond.selects RX1 yX1_digest yX1_digest, Cond.code yX1_digest cX1_digest 3 (some .long), Cond.constantLong RX1 121 (1783), Cond.methodLink RX1 123 yX1_mix, Cond.static yX1_mix, Cond.code yX1_mix cX1_mix 4 (some .long), Cond.constantLong RX1 174 (31), Cond.methodLink RX1 127 yX1_mixAll, Cond.static yX1_mixAll, Cond.code yX1_mixAll cX1_mixAll 7 (some .long), Cond.methodLink RX1 131 yX1_worstLetter, Cond.methodLink RX1 134 yX1_safeInterval, Cond.methodLink RL 120 yX2_digest, Cond.instanceMethod yX2_digest, Cond.selects RX2 yX2_digest yX2_digest]
def wsL_law_r19 : List Cond := [Cond.code yX2_digest cX2_digest 2 (some .long), Cond.constantLong RX2 139 (1783), Cond.fieldLink RX2 135 "TypebarLayoutModel" "h" "J", Cond.methodLink RX2 141 yX2_mix, Cond.instanceMethod yX2_mix, Cond.selects RX2 yX2_mix yX2_mix, Cond.code yX2_mix cX2_mix 3 none, Cond.constantLong RX2 133 (31)]
def wsL_law : List Cond := (wsL_law_r1 ++ (wsL_law_r2 ++ (wsL_law_r3 ++ (wsL_law_r4 ++ (wsL_law_r5 ++ (wsL_law_r6 ++ (wsL_law_r7 ++ (wsL_law_r8 ++ (wsL_law_r9 ++ (wsL_law_r10 ++ (wsL_law_r11 ++ (wsL_law_r12 ++ (wsL_law_r13 ++ (wsL_law_r14 ++ (wsL_law_r15 ++ (wsL_law_r16 ++ (wsL_law_r17 ++ (wsL_law_r18 ++ wsL_law_r19)))))))))))))))))) ++ wsX10 ++ wsX20 ++ wsX00 ++ ([] : List Cond)
set_option maxRecDepth 20000 in
theorem wsL_in_1 : GoodIn lw_tbl wsL_law_r1 := goodIn_p _ [38, 41] (by decide +kernel) (by decide +kernel)
set_option maxRecDepth 20000 in
theorem wsL_in_2 : GoodIn lw_tbl wsL_law_r2 := goodIn_p _ [46, 321] (by decide +kernel) (by decide +kernel)
set_option maxRecDepth 20000 in
theorem wsL_in_3 : GoodIn lw_tbl wsL_law_r3 := goodIn_p _ [118, 387, 390] (by decide +kernel) (by decide +kernel)
set_option maxRecDepth 20000 in
theorem wsL_in_4 : GoodIn lw_tbl wsL_law_r4 := goodIn_p _ [124, 396, 128, 131, 135, 400] (by decide +kernel) (by decide +kernel)
set_option maxRecDepth 20000 in
theorem wsL_in_5 : GoodIn lw_tbl wsL_law_r5 := goodIn_p _ [403, 139, 408, 143, 412, 147] (by decide +kernel) (by decide +kernel)
set_option maxRecDepth 20000 in
theorem wsL_in_6 : GoodIn lw_tbl wsL_law_r6 := goodIn_p _ [416, 151, 155, 160, 420, 424] (by decide +kernel) (by decide +kernel)
set_option maxRecDepth 20000 in
theorem wsL_in_7 : GoodIn lw_tbl wsL_law_r7 := goodIn_p _ [164, 429, 168, 433, 172, 175] (by decide +kernel) (by decide +kernel)
set_option maxRecDepth 20000 in
theorem wsL_in_8 : GoodIn lw_tbl wsL_law_r8 := goodIn_p _ [180, 184, 188, 192, 196, 199] (by decide +kernel) (by decide +kernel)
set_option maxRecDepth 20000 in
theorem wsL_in_9 : GoodIn lw_tbl wsL_law_r9 := goodIn_p _ [202, 437, 440, 445, 449, 453] (by decide +kernel) (by decide +kernel)
set_option maxRecDepth 20000 in
theorem wsL_in_10 : GoodIn lw_tbl wsL_law_r10 := goodIn_p _ [457, 460, 206, 464, 211, 469] (by decide +kernel) (by decide +kernel)
set_option maxRecDepth 20000 in
theorem wsL_in_11 : GoodIn lw_tbl wsL_law_r11 := goodIn_p _ [215, 473, 477, 220, 224] (by decide +kernel) (by decide +kernel)
set_option maxRecDepth 20000 in
theorem wsL_in_12 : GoodIn lw_tbl wsL_law_r12 := goodIn_p _ [481, 485, 228, 489, 493, 232] (by decide +kernel) (by decide +kernel)
set_option maxRecDepth 20000 in
theorem wsL_in_13 : GoodIn lw_tbl wsL_law_r13 := goodIn_p _ [497, 237, 241, 501, 505, 509] (by decide +kernel) (by decide +kernel)
set_option maxRecDepth 20000 in
theorem wsL_in_14 : GoodIn lw_tbl wsL_law_r14 := goodIn_p _ [245, 249, 253, 257, 261, 265, 269] (by decide +kernel) (by decide +kernel)
set_option maxRecDepth 20000 in
theorem wsL_in_15 : GoodIn lw_tbl wsL_law_r15 := goodIn_p _ [274, 278, 513, 517, 521] (by decide +kernel) (by decide +kernel)
set_option maxRecDepth 20000 in
theorem wsL_in_16 : GoodIn lw_tbl wsL_law_r16 := goodIn_p _ [282, 525, 286, 529, 290, 533] (by decide +kernel) (by decide +kernel)
set_option maxRecDepth 20000 in
theorem wsL_in_17 : GoodIn lw_tbl wsL_law_r17 := goodIn_p _ [294, 537, 298, 541, 302, 545] (by decide +kernel) (by decide +kernel)
set_option maxRecDepth 20000 in
theorem wsL_in_18 : GoodIn lw_tbl wsL_law_r18 := goodIn_p _ [549, 553, 306, 310, 314] (by decide +kernel) (by decide +kernel)
set_option maxRecDepth 20000 in
theorem wsL_in_19 : GoodIn lw_tbl wsL_law_r19 := goodIn_p _ [557, 562] (by decide +kernel) (by decide +kernel)
set_option maxRecDepth 20000 in
theorem wsL_in_wsX10 : GoodIn lw_tbl wsX10 := goodIn_p _ [] (by decide +kernel) (by decide +kernel)
set_option maxRecDepth 20000 in
theorem wsL_in_wsX20 : GoodIn lw_tbl wsX20 := goodIn_p _ [] (by decide +kernel) (by decide +kernel)
set_option maxRecDepth 20000 in
theorem wsL_in_wsX00 : GoodIn lw_tbl wsX00 := goodIn_p _ [] (by decide +kernel) (by decide +kernel)
theorem wsL_law_good : GoodIn lw_tbl wsL_law := goodIn_app (goodIn_app (goodIn_app (goodIn_app (goodIn_app wsL_in_1 (goodIn_app wsL_in_2 (goodIn_app wsL_in_3 (goodIn_app wsL_in_4 (goodIn_app wsL_in_5 (goodIn_app wsL_in_6 (goodIn_app wsL_in_7 (goodIn_app wsL_in_8 (goodIn_app wsL_in_9 (goodIn_app wsL_in_10 (goodIn_app wsL_in_11 (goodIn_app wsL_in_12 (goodIn_app wsL_in_13 (goodIn_app wsL_in_14 (goodIn_app wsL_in_15 (goodIn_app wsL_in_16 (goodIn_app wsL_in_17 (goodIn_app wsL_in_18 (wsL_in_19))))))))))))))))))) wsL_in_wsX10) wsL_in_wsX20) wsL_in_wsX00) (fun _ h => absurd h List.not_mem_nil)
theorem wsL_law_in : ∀ w ∈ wsL_law, w ∈ lw_tbl := fun w h => (wsL_law_good w h).1
theorem inlX0 : ∀ w ∈ wsX00, w ∈ wsL_law := fun _ h => List.mem_append_left _ (List.mem_append_right _ h)
theorem inX0 : ∀ w ∈ wsX00, w ∈ lw_tbl := fun w h => wsL_law_in w (inlX0 w h)
theorem inlX1 : ∀ w ∈ wsX10, w ∈ wsL_law := fun _ h => List.mem_append_left _ (List.mem_append_left _ (List.mem_append_left _ (List.mem_append_right _ h)))
theorem inX1 : ∀ w ∈ wsX10, w ∈ lw_tbl := fun w h => wsL_law_in w (inlX1 w h)
theorem inlX2 : ∀ w ∈ wsX20, w ∈ wsL_law := fun _ h => List.mem_append_left _ (List.mem_append_left _ (List.mem_append_right _ h))
theorem inX2 : ∀ w ∈ wsX20, w ∈ lw_tbl := fun w h => wsL_law_in w (inlX2 w h)
theorem inJ9 : ∀ w ∈ wsJ90, w ∈ lw_tbl := by decide +kernel
end
section
theorem dX0_init_0 : decode cX0_init 0 = .ok (.aload_n 0, 1) := by decide +kernel
theorem dX0_init_1 : decode cX0_init 1 = .ok (.invokespecial 3, 3) := by decide +kernel
theorem dX0_init_4 : decode cX0_init 4 = .ok (.aload_n 0, 1) := by decide +kernel
theorem dX0_init_5 : decode cX0_init 5 = .ok (.bipush 60, 2) := by decide +kernel
theorem dX0_init_7 : decode cX0_init 7 = .ok (.newarray .int, 2) := by decide +kernel
theorem dX0_init_9 : decode cX0_init 9 = .ok (.putfield 9, 3) := by decide +kernel
theorem dX0_init_12 : decode cX0_init 12 = .ok (.aload_n 0, 1) := by decide +kernel
theorem dX0_init_13 : decode cX0_init 13 = .ok (.iconst 0, 1) := by decide +kernel
theorem dX0_init_14 : decode cX0_init 14 = .ok (.putfield 15, 3) := by decide +kernel
theorem dX0_init_17 : decode cX0_init 17 = .ok (.aload_n 0, 1) := by decide +kernel
theorem dX0_init_18 : decode cX0_init 18 = .ok (.bipush 60, 2) := by decide +kernel
theorem dX0_init_20 : decode cX0_init 20 = .ok (.newarray .int, 2) := by decide +kernel
theorem dX0_init_22 : decode cX0_init 22 = .ok (.putfield 19, 3) := by decide +kernel
theorem dX0_init_25 : decode cX0_init 25 = .ok (.aload_n 0, 1) := by decide +kernel
theorem dX0_init_26 : decode cX0_init 26 = .ok (.iconst 0, 1) := by decide +kernel
theorem dX0_init_27 : decode cX0_init 27 = .ok (.putfield 22, 3) := by decide +kernel
theorem dX0_init_30 : decode cX0_init 30 = .ok (.aload_n 0, 1) := by decide +kernel
theorem dX0_init_31 : decode cX0_init 31 = .ok (.iconst 0, 1) := by decide +kernel
theorem dX0_init_32 : decode cX0_init 32 = .ok (.putfield 25, 3) := by decide +kernel
theorem dX0_init_35 : decode cX0_init 35 = .ok (.aload_n 0, 1) := by decide +kernel
theorem dX0_init_36 : decode cX0_init 36 = .ok (.iconst 0, 1) := by decide +kernel
theorem dX0_init_37 : decode cX0_init 37 = .ok (.putfield 28, 3) := by decide +kernel
theorem dX0_init_40 : decode cX0_init 40 = .ok (.aload_n 0, 1) := by decide +kernel
theorem dX0_init_41 : decode cX0_init 41 = .ok (.bipush 12, 2) := by decide +kernel
theorem dX0_init_43 : decode cX0_init 43 = .ok (.newarray .int, 2) := by decide +kernel
theorem dX0_init_45 : decode cX0_init 45 = .ok (.putfield 31, 3) := by decide +kernel
theorem dX0_init_48 : decode cX0_init 48 = .ok (.return_, 1) := by decide +kernel
theorem dX0_begin_0 : decode cX0_begin 0 = .ok (.aload_n 0, 1) := by decide +kernel
theorem dX0_begin_1 : decode cX0_begin 1 = .ok (.iconst 0, 1) := by decide +kernel
theorem dX0_begin_2 : decode cX0_begin 2 = .ok (.putfield 15, 3) := by decide +kernel
theorem dX0_begin_5 : decode cX0_begin 5 = .ok (.aload_n 0, 1) := by decide +kernel
theorem dX0_begin_6 : decode cX0_begin 6 = .ok (.iconst 0, 1) := by decide +kernel
theorem dX0_begin_7 : decode cX0_begin 7 = .ok (.putfield 22, 3) := by decide +kernel
theorem dX0_begin_10 : decode cX0_begin 10 = .ok (.aload_n 0, 1) := by decide +kernel
theorem dX0_begin_11 : decode cX0_begin 11 = .ok (.iconst 0, 1) := by decide +kernel
theorem dX0_begin_12 : decode cX0_begin 12 = .ok (.putfield 25, 3) := by decide +kernel
theorem dX0_begin_15 : decode cX0_begin 15 = .ok (.aload_n 0, 1) := by decide +kernel
theorem dX0_begin_16 : decode cX0_begin 16 = .ok (.iconst 0, 1) := by decide +kernel
theorem dX0_begin_17 : decode cX0_begin 17 = .ok (.putfield 28, 3) := by decide +kernel
theorem dX0_begin_20 : decode cX0_begin 20 = .ok (.iconst 0, 1) := by decide +kernel
theorem dX0_begin_21 : decode cX0_begin 21 = .ok (.istore_n 1, 1) := by decide +kernel
theorem dX0_begin_22 : decode cX0_begin 22 = .ok (.iload_n 1, 1) := by decide +kernel
theorem dX0_begin_23 : decode cX0_begin 23 = .ok (.bipush 12, 2) := by decide +kernel
theorem dX0_begin_25 : decode cX0_begin 25 = .ok (.if_icmp .ge 16, 3) := by decide +kernel
theorem dX0_begin_28 : decode cX0_begin 28 = .ok (.aload_n 0, 1) := by decide +kernel
theorem dX0_begin_29 : decode cX0_begin 29 = .ok (.getfield 31, 3) := by decide +kernel
theorem dX0_begin_32 : decode cX0_begin 32 = .ok (.iload_n 1, 1) := by decide +kernel
theorem dX0_begin_33 : decode cX0_begin 33 = .ok (.iconst 0, 1) := by decide +kernel
theorem dX0_begin_34 : decode cX0_begin 34 = .ok (.iastore, 1) := by decide +kernel
theorem dX0_begin_35 : decode cX0_begin 35 = .ok (.iinc 1 1, 3) := by decide +kernel
theorem dX0_begin_38 : decode cX0_begin 38 = .ok (.goto (-16), 3) := by decide +kernel
theorem dX0_begin_41 : decode cX0_begin 41 = .ok (.return_, 1) := by decide +kernel
theorem dX0_inMotion_0 : decode cX0_inMotion 0 = .ok (.iload_n 2, 1) := by decide +kernel
theorem dX0_inMotion_1 : decode cX0_inMotion 1 = .ok (.aload_n 0, 1) := by decide +kernel
theorem dX0_inMotion_2 : decode cX0_inMotion 2 = .ok (.getfield 31, 3) := by decide +kernel
theorem dX0_inMotion_5 : decode cX0_inMotion 5 = .ok (.iload_n 1, 1) := by decide +kernel
theorem dX0_inMotion_6 : decode cX0_inMotion 6 = .ok (.iaload, 1) := by decide +kernel
theorem dX0_inMotion_7 : decode cX0_inMotion 7 = .ok (.if_icmp .ge 7, 3) := by decide +kernel
theorem dX0_inMotion_10 : decode cX0_inMotion 10 = .ok (.iconst 1, 1) := by decide +kernel
theorem dX0_inMotion_11 : decode cX0_inMotion 11 = .ok (.goto 4, 3) := by decide +kernel
theorem dX0_inMotion_14 : decode cX0_inMotion 14 = .ok (.iconst 0, 1) := by decide +kernel
theorem dX0_inMotion_15 : decode cX0_inMotion 15 = .ok (.ireturn, 1) := by decide +kernel
set_option maxRecDepth 20000 in
theorem ggX0_stopAround_X0_inMotion : GoodIn wsX0_stopAround wsX0_inMotion := goodIn_r _ [13, 8, 14, 15, 16, 17, 18, 19, 20] (by decide +kernel) (by decide +kernel)
set_option maxRecDepth 20000 in
theorem gX0_stopAround_X0_inMotion : GoodIn wsX0_stopAround (wsV RX0 43 RX0 yX0_inMotion wsX0_inMotion) := goodIn_app (goodIn_of _ (by decide +kernel)) ggX0_stopAround_X0_inMotion
theorem dX0_stopAround_0 : decode cX0_stopAround 0 = .ok (.iconst 0, 1) := by decide +kernel
theorem dX0_stopAround_1 : decode cX0_stopAround 1 = .ok (.iload_n 1, 1) := by decide +kernel
theorem dX0_stopAround_2 : decode cX0_stopAround 2 = .ok (.iload_n 2, 1) := by decide +kernel
theorem dX0_stopAround_3 : decode cX0_stopAround 3 = .ok (.isub, 1) := by decide +kernel
theorem dX0_stopAround_4 : decode cX0_stopAround 4 = .ok (.invokestatic 34, 3) := by decide +kernel
theorem dX0_stopAround_7 : decode cX0_stopAround 7 = .ok (.istore 4, 2) := by decide +kernel
theorem dX0_stopAround_9 : decode cX0_stopAround 9 = .ok (.bipush 11, 2) := by decide +kernel
theorem dX0_stopAround_11 : decode cX0_stopAround 11 = .ok (.iload_n 1, 1) := by decide +kernel
theorem dX0_stopAround_12 : decode cX0_stopAround 12 = .ok (.iload_n 2, 1) := by decide +kernel
theorem dX0_stopAround_13 : decode cX0_stopAround 13 = .ok (.iadd, 1) := by decide +kernel
theorem dX0_stopAround_14 : decode cX0_stopAround 14 = .ok (.invokestatic 40, 3) := by decide +kernel
theorem dX0_stopAround_17 : decode cX0_stopAround 17 = .ok (.istore 5, 2) := by decide +kernel
theorem dX0_stopAround_19 : decode cX0_stopAround 19 = .ok (.iconst 0, 1) := by decide +kernel
theorem dX0_stopAround_20 : decode cX0_stopAround 20 = .ok (.istore 6, 2) := by decide +kernel
theorem dX0_stopAround_22 : decode cX0_stopAround 22 = .ok (.iload 4, 2) := by decide +kernel
theorem dX0_stopAround_24 : decode cX0_stopAround 24 = .ok (.istore 7, 2) := by decide +kernel
theorem dX0_stopAround_26 : decode cX0_stopAround 26 = .ok (.iload 7, 2) := by decide +kernel
theorem dX0_stopAround_28 : decode cX0_stopAround 28 = .ok (.iload 5, 2) := by decide +kernel
theorem dX0_stopAround_30 : decode cX0_stopAround 30 = .ok (.if_icmp .gt 30, 3) := by decide +kernel
theorem dX0_stopAround_33 : decode cX0_stopAround 33 = .ok (.aload_n 0, 1) := by decide +kernel
theorem dX0_stopAround_34 : decode cX0_stopAround 34 = .ok (.iload 7, 2) := by decide +kernel
theorem dX0_stopAround_36 : decode cX0_stopAround 36 = .ok (.iload_n 3, 1) := by decide +kernel
theorem dX0_stopAround_37 : decode cX0_stopAround 37 = .ok (.invokevirtual 43, 3) := by decide +kernel
theorem dX0_stopAround_40 : decode cX0_stopAround 40 = .ok (.ifCond .eq 14, 3) := by decide +kernel
theorem dX0_stopAround_43 : decode cX0_stopAround 43 = .ok (.aload_n 0, 1) := by decide +kernel
theorem dX0_stopAround_44 : decode cX0_stopAround 44 = .ok (.getfield 31, 3) := by decide +kernel
theorem dX0_stopAround_47 : decode cX0_stopAround 47 = .ok (.iload 7, 2) := by decide +kernel
theorem dX0_stopAround_49 : decode cX0_stopAround 49 = .ok (.iload_n 3, 1) := by decide +kernel
theorem dX0_stopAround_50 : decode cX0_stopAround 50 = .ok (.iastore, 1) := by decide +kernel
theorem dX0_stopAround_51 : decode cX0_stopAround 51 = .ok (.iconst 1, 1) := by decide +kernel
theorem dX0_stopAround_52 : decode cX0_stopAround 52 = .ok (.istore 6, 2) := by decide +kernel
theorem dX0_stopAround_54 : decode cX0_stopAround 54 = .ok (.iinc 7 1, 3) := by decide +kernel
theorem dX0_stopAround_57 : decode cX0_stopAround 57 = .ok (.goto (-31), 3) := by decide +kernel
theorem dX0_stopAround_60 : decode cX0_stopAround 60 = .ok (.iload 6, 2) := by decide +kernel
theorem dX0_stopAround_62 : decode cX0_stopAround 62 = .ok (.ireturn, 1) := by decide +kernel
theorem dX0_addPrinted_0 : decode cX0_addPrinted 0 = .ok (.aload_n 0, 1) := by decide +kernel
theorem dX0_addPrinted_1 : decode cX0_addPrinted 1 = .ok (.getfield 15, 3) := by decide +kernel
theorem dX0_addPrinted_4 : decode cX0_addPrinted 4 = .ok (.bipush 60, 2) := by decide +kernel
theorem dX0_addPrinted_6 : decode cX0_addPrinted 6 = .ok (.if_icmp .ge 23, 3) := by decide +kernel
theorem dX0_addPrinted_9 : decode cX0_addPrinted 9 = .ok (.aload_n 0, 1) := by decide +kernel
theorem dX0_addPrinted_10 : decode cX0_addPrinted 10 = .ok (.getfield 9, 3) := by decide +kernel
theorem dX0_addPrinted_13 : decode cX0_addPrinted 13 = .ok (.aload_n 0, 1) := by decide +kernel
theorem dX0_addPrinted_14 : decode cX0_addPrinted 14 = .ok (.getfield 15, 3) := by decide +kernel
theorem dX0_addPrinted_17 : decode cX0_addPrinted 17 = .ok (.iload_n 1, 1) := by decide +kernel
theorem dX0_addPrinted_18 : decode cX0_addPrinted 18 = .ok (.iastore, 1) := by decide +kernel
theorem dX0_addPrinted_19 : decode cX0_addPrinted 19 = .ok (.aload_n 0, 1) := by decide +kernel
theorem dX0_addPrinted_20 : decode cX0_addPrinted 20 = .ok (.dup, 1) := by decide +kernel
theorem dX0_addPrinted_21 : decode cX0_addPrinted 21 = .ok (.getfield 15, 3) := by decide +kernel
theorem dX0_addPrinted_24 : decode cX0_addPrinted 24 = .ok (.iconst 1, 1) := by decide +kernel
theorem dX0_addPrinted_25 : decode cX0_addPrinted 25 = .ok (.iadd, 1) := by decide +kernel
theorem dX0_addPrinted_26 : decode cX0_addPrinted 26 = .ok (.putfield 15, 3) := by decide +kernel
theorem dX0_addPrinted_29 : decode cX0_addPrinted 29 = .ok (.return_, 1) := by decide +kernel
theorem dX0_addJammed_0 : decode cX0_addJammed 0 = .ok (.aload_n 0, 1) := by decide +kernel
theorem dX0_addJammed_1 : decode cX0_addJammed 1 = .ok (.getfield 22, 3) := by decide +kernel
theorem dX0_addJammed_4 : decode cX0_addJammed 4 = .ok (.bipush 60, 2) := by decide +kernel
theorem dX0_addJammed_6 : decode cX0_addJammed 6 = .ok (.if_icmp .ge 23, 3) := by decide +kernel
theorem dX0_addJammed_9 : decode cX0_addJammed 9 = .ok (.aload_n 0, 1) := by decide +kernel
theorem dX0_addJammed_10 : decode cX0_addJammed 10 = .ok (.getfield 19, 3) := by decide +kernel
theorem dX0_addJammed_13 : decode cX0_addJammed 13 = .ok (.aload_n 0, 1) := by decide +kernel
theorem dX0_addJammed_14 : decode cX0_addJammed 14 = .ok (.getfield 22, 3) := by decide +kernel
theorem dX0_addJammed_17 : decode cX0_addJammed 17 = .ok (.iload_n 1, 1) := by decide +kernel
theorem dX0_addJammed_18 : decode cX0_addJammed 18 = .ok (.iastore, 1) := by decide +kernel
theorem dX0_addJammed_19 : decode cX0_addJammed 19 = .ok (.aload_n 0, 1) := by decide +kernel
theorem dX0_addJammed_20 : decode cX0_addJammed 20 = .ok (.dup, 1) := by decide +kernel
theorem dX0_addJammed_21 : decode cX0_addJammed 21 = .ok (.getfield 22, 3) := by decide +kernel
theorem dX0_addJammed_24 : decode cX0_addJammed 24 = .ok (.iconst 1, 1) := by decide +kernel
theorem dX0_addJammed_25 : decode cX0_addJammed 25 = .ok (.iadd, 1) := by decide +kernel
theorem dX0_addJammed_26 : decode cX0_addJammed 26 = .ok (.putfield 22, 3) := by decide +kernel
theorem dX0_addJammed_29 : decode cX0_addJammed 29 = .ok (.return_, 1) := by decide +kernel
set_option maxRecDepth 20000 in
theorem ggX1_init_X0_init : GoodIn wsX1_init wsX0_init := goodIn_r _ [21, 22, 2, 3, 4, 23, 24, 25, 26, 27, 28, 29, 42, 43, 44, 45, 46, 47, 48] (by decide +kernel) (by decide +kernel)
set_option maxRecDepth 20000 in
theorem gX1_init_X0_init_n43 : GoodIn wsX1_init (wsX0_init) := ggX1_init_X0_init
theorem dX1_init_0 : decode cX1_init 0 = .ok (.aload_n 0, 1) := by decide +kernel
theorem dX1_init_1 : decode cX1_init 1 = .ok (.invokespecial 1, 3) := by decide +kernel
theorem dX1_init_4 : decode cX1_init 4 = .ok (.aload_n 0, 1) := by decide +kernel
theorem dX1_init_5 : decode cX1_init 5 = .ok (.bipush 60, 2) := by decide +kernel
theorem dX1_init_7 : decode cX1_init 7 = .ok (.newarray .int, 2) := by decide +kernel
theorem dX1_init_9 : decode cX1_init 9 = .ok (.putfield 9, 3) := by decide +kernel
theorem dX1_init_12 : decode cX1_init 12 = .ok (.aload_n 0, 1) := by decide +kernel
theorem dX1_init_13 : decode cX1_init 13 = .ok (.iconst 0, 1) := by decide +kernel
theorem dX1_init_14 : decode cX1_init 14 = .ok (.putfield 13, 3) := by decide +kernel
theorem dX1_init_17 : decode cX1_init 17 = .ok (.aload_n 0, 1) := by decide +kernel
theorem dX1_init_18 : decode cX1_init 18 = .ok (.iconst 4, 1) := by decide +kernel
theorem dX1_init_19 : decode cX1_init 19 = .ok (.putfield 17, 3) := by decide +kernel
theorem dX1_init_22 : decode cX1_init 22 = .ok (.aload_n 0, 1) := by decide +kernel
theorem dX1_init_23 : decode cX1_init 23 = .ok (.iconst 2, 1) := by decide +kernel
theorem dX1_init_24 : decode cX1_init 24 = .ok (.putfield 20, 3) := by decide +kernel
theorem dX1_init_27 : decode cX1_init 27 = .ok (.aload_n 0, 1) := by decide +kernel
theorem dX1_init_28 : decode cX1_init 28 = .ok (.bipush 10, 2) := by decide +kernel
theorem dX1_init_30 : decode cX1_init 30 = .ok (.putfield 23, 3) := by decide +kernel
theorem dX1_init_33 : decode cX1_init 33 = .ok (.aload_n 0, 1) := by decide +kernel
theorem dX1_init_34 : decode cX1_init 34 = .ok (.bipush 12, 2) := by decide +kernel
theorem dX1_init_36 : decode cX1_init 36 = .ok (.newarray .int, 2) := by decide +kernel
theorem dX1_init_38 : decode cX1_init 38 = .ok (.putfield 26, 3) := by decide +kernel
theorem dX1_init_41 : decode cX1_init 41 = .ok (.aload_n 0, 1) := by decide +kernel
theorem dX1_init_42 : decode cX1_init 42 = .ok (.bipush 12, 2) := by decide +kernel
theorem dX1_init_44 : decode cX1_init 44 = .ok (.newarray .int, 2) := by decide +kernel
theorem dX1_init_46 : decode cX1_init 46 = .ok (.putfield 29, 3) := by decide +kernel
theorem dX1_init_49 : decode cX1_init 49 = .ok (.iconst 0, 1) := by decide +kernel
theorem dX1_init_50 : decode cX1_init 50 = .ok (.istore_n 1, 1) := by decide +kernel
theorem dX1_init_51 : decode cX1_init 51 = .ok (.iload_n 1, 1) := by decide +kernel
theorem dX1_init_52 : decode cX1_init 52 = .ok (.bipush 12, 2) := by decide +kernel
theorem dX1_init_54 : decode cX1_init 54 = .ok (.if_icmp .ge 23, 3) := by decide +kernel
theorem dX1_init_57 : decode cX1_init 57 = .ok (.aload_n 0, 1) := by decide +kernel
theorem dX1_init_58 : decode cX1_init 58 = .ok (.getfield 26, 3) := by decide +kernel
theorem dX1_init_61 : decode cX1_init 61 = .ok (.iload_n 1, 1) := by decide +kernel
theorem dX1_init_62 : decode cX1_init 62 = .ok (.iload_n 1, 1) := by decide +kernel
theorem dX1_init_63 : decode cX1_init 63 = .ok (.iastore, 1) := by decide +kernel
theorem dX1_init_64 : decode cX1_init 64 = .ok (.aload_n 0, 1) := by decide +kernel
theorem dX1_init_65 : decode cX1_init 65 = .ok (.getfield 29, 3) := by decide +kernel
theorem dX1_init_68 : decode cX1_init 68 = .ok (.iload_n 1, 1) := by decide +kernel
theorem dX1_init_69 : decode cX1_init 69 = .ok (.iload_n 1, 1) := by decide +kernel
theorem dX1_init_70 : decode cX1_init 70 = .ok (.iastore, 1) := by decide +kernel
theorem dX1_init_71 : decode cX1_init 71 = .ok (.iinc 1 1, 3) := by decide +kernel
theorem dX1_init_74 : decode cX1_init 74 = .ok (.goto (-23), 3) := by decide +kernel
theorem dX1_init_77 : decode cX1_init 77 = .ok (.aload_n 0, 1) := by decide +kernel
theorem dX1_init_78 : decode cX1_init 78 = .ok (.bipush 30, 2) := by decide +kernel
theorem dX1_init_80 : decode cX1_init 80 = .ok (.newarray .int, 2) := by decide +kernel
theorem dX1_init_82 : decode cX1_init 82 = .ok (.putfield 32, 3) := by decide +kernel
theorem dX1_init_85 : decode cX1_init 85 = .ok (.aload_n 0, 1) := by decide +kernel
theorem dX1_init_86 : decode cX1_init 86 = .ok (.bipush 30, 2) := by decide +kernel
theorem dX1_init_88 : decode cX1_init 88 = .ok (.newarray .int, 2) := by decide +kernel
theorem dX1_init_90 : decode cX1_init 90 = .ok (.putfield 35, 3) := by decide +kernel
theorem dX1_init_93 : decode cX1_init 93 = .ok (.aload_n 0, 1) := by decide +kernel
theorem dX1_init_94 : decode cX1_init 94 = .ok (.iconst 0, 1) := by decide +kernel
theorem dX1_init_95 : decode cX1_init 95 = .ok (.putfield 38, 3) := by decide +kernel
theorem dX1_init_98 : decode cX1_init 98 = .ok (.aload_n 0, 1) := by decide +kernel
theorem dX1_init_99 : decode cX1_init 99 = .ok (.new 41, 3) := by decide +kernel
theorem dX1_init_102 : decode cX1_init 102 = .ok (.dup, 1) := by decide +kernel
theorem dX1_init_103 : decode cX1_init 103 = .ok (.invokespecial 43, 3) := by decide +kernel
theorem dX1_init_106 : decode cX1_init 106 = .ok (.putfield 44, 3) := by decide +kernel
theorem dX1_init_109 : decode cX1_init 109 = .ok (.aload_n 0, 1) := by decide +kernel
theorem dX1_init_110 : decode cX1_init 110 = .ok (.new 41, 3) := by decide +kernel
theorem dX1_init_113 : decode cX1_init 113 = .ok (.dup, 1) := by decide +kernel
theorem dX1_init_114 : decode cX1_init 114 = .ok (.invokespecial 43, 3) := by decide +kernel
theorem dX1_init_117 : decode cX1_init 117 = .ok (.putfield 48, 3) := by decide +kernel
theorem dX1_init_120 : decode cX1_init 120 = .ok (.return_, 1) := by decide +kernel
theorem dX1_append_0 : decode cX1_append 0 = .ok (.iload_n 1, 1) := by decide +kernel
theorem dX1_append_1 : decode cX1_append 1 = .ok (.bipush 97, 2) := by decide +kernel
theorem dX1_append_3 : decode cX1_append 3 = .ok (.if_icmp .lt 9, 3) := by decide +kernel
theorem dX1_append_6 : decode cX1_append 6 = .ok (.iload_n 1, 1) := by decide +kernel
theorem dX1_append_7 : decode cX1_append 7 = .ok (.bipush 108, 2) := by decide +kernel
theorem dX1_append_9 : decode cX1_append 9 = .ok (.if_icmp .le 6, 3) := by decide +kernel
theorem dX1_append_12 : decode cX1_append 12 = .ok (.ldc 51, 2) := by decide +kernel
theorem dX1_append_14 : decode cX1_append 14 = .ok (.ireturn, 1) := by decide +kernel
theorem dX1_append_15 : decode cX1_append 15 = .ok (.aload_n 0, 1) := by decide +kernel
theorem dX1_append_16 : decode cX1_append 16 = .ok (.getfield 13, 3) := by decide +kernel
theorem dX1_append_19 : decode cX1_append 19 = .ok (.bipush 60, 2) := by decide +kernel
theorem dX1_append_21 : decode cX1_append 21 = .ok (.if_icmp .lt 6, 3) := by decide +kernel
theorem dX1_append_24 : decode cX1_append 24 = .ok (.ldc 52, 2) := by decide +kernel
theorem dX1_append_26 : decode cX1_append 26 = .ok (.ireturn, 1) := by decide +kernel
theorem dX1_append_27 : decode cX1_append 27 = .ok (.aload_n 0, 1) := by decide +kernel
theorem dX1_append_28 : decode cX1_append 28 = .ok (.getfield 9, 3) := by decide +kernel
theorem dX1_append_31 : decode cX1_append 31 = .ok (.aload_n 0, 1) := by decide +kernel
theorem dX1_append_32 : decode cX1_append 32 = .ok (.getfield 13, 3) := by decide +kernel
theorem dX1_append_35 : decode cX1_append 35 = .ok (.iload_n 1, 1) := by decide +kernel
theorem dX1_append_36 : decode cX1_append 36 = .ok (.bipush 97, 2) := by decide +kernel
theorem dX1_append_38 : decode cX1_append 38 = .ok (.isub, 1) := by decide +kernel
theorem dX1_append_39 : decode cX1_append 39 = .ok (.iastore, 1) := by decide +kernel
theorem dX1_append_40 : decode cX1_append 40 = .ok (.aload_n 0, 1) := by decide +kernel
theorem dX1_append_41 : decode cX1_append 41 = .ok (.dup, 1) := by decide +kernel
theorem dX1_append_42 : decode cX1_append 42 = .ok (.getfield 13, 3) := by decide +kernel
theorem dX1_append_45 : decode cX1_append 45 = .ok (.iconst 1, 1) := by decide +kernel
theorem dX1_append_46 : decode cX1_append 46 = .ok (.iadd, 1) := by decide +kernel
theorem dX1_append_47 : decode cX1_append 47 = .ok (.putfield 13, 3) := by decide +kernel
theorem dX1_append_50 : decode cX1_append 50 = .ok (.aload_n 0, 1) := by decide +kernel
theorem dX1_append_51 : decode cX1_append 51 = .ok (.getfield 13, 3) := by decide +kernel
theorem dX1_append_54 : decode cX1_append 54 = .ok (.ireturn, 1) := by decide +kernel
theorem dX1_clearText_0 : decode cX1_clearText 0 = .ok (.aload_n 0, 1) := by decide +kernel
theorem dX1_clearText_1 : decode cX1_clearText 1 = .ok (.getfield 13, 3) := by decide +kernel
theorem dX1_clearText_4 : decode cX1_clearText 4 = .ok (.istore_n 1, 1) := by decide +kernel
theorem dX1_clearText_5 : decode cX1_clearText 5 = .ok (.aload_n 0, 1) := by decide +kernel
theorem dX1_clearText_6 : decode cX1_clearText 6 = .ok (.iconst 0, 1) := by decide +kernel
theorem dX1_clearText_7 : decode cX1_clearText 7 = .ok (.putfield 13, 3) := by decide +kernel
theorem dX1_clearText_10 : decode cX1_clearText 10 = .ok (.iload_n 1, 1) := by decide +kernel
theorem dX1_clearText_11 : decode cX1_clearText 11 = .ok (.ireturn, 1) := by decide +kernel
set_option maxRecDepth 20000 in
theorem ggX1_pairCount_X1_isNumber : GoodIn wsX1_pairCount wsX1_isNumber := goodIn_r _ [7] (by decide +kernel) (by decide +kernel)
set_option maxRecDepth 20000 in
theorem gX1_pairCount_X1_isNumber : GoodIn wsX1_pairCount (va_wsS RX1 53 yX1_isNumber wsX1_isNumber) := goodIn_app (goodIn_of _ (by decide +kernel)) ggX1_pairCount_X1_isNumber
set_option maxRecDepth 20000 in
theorem ggX1_pairCount_X1_isPairOf : GoodIn wsX1_pairCount wsX1_isPairOf := goodIn_r _ [10] (by decide +kernel) (by decide +kernel)
set_option maxRecDepth 20000 in
theorem gX1_pairCount_X1_isPairOf : GoodIn wsX1_pairCount (va_wsS RX1 58 yX1_isPairOf wsX1_isPairOf) := goodIn_app (goodIn_of _ (by decide +kernel)) ggX1_pairCount_X1_isPairOf
theorem dX1_pairCount_0 : decode cX1_pairCount 0 = .ok (.iload_n 1, 1) := by decide +kernel
theorem dX1_pairCount_1 : decode cX1_pairCount 1 = .ok (.invokestatic 53, 3) := by decide +kernel
theorem dX1_pairCount_4 : decode cX1_pairCount 4 = .ok (.ifCond .eq 10, 3) := by decide +kernel
theorem dX1_pairCount_7 : decode cX1_pairCount 7 = .ok (.iload_n 2, 1) := by decide +kernel
theorem dX1_pairCount_8 : decode cX1_pairCount 8 = .ok (.invokestatic 53, 3) := by decide +kernel
theorem dX1_pairCount_11 : decode cX1_pairCount 11 = .ok (.ifCond .ne 6, 3) := by decide +kernel
theorem dX1_pairCount_14 : decode cX1_pairCount 14 = .ok (.ldc 57, 2) := by decide +kernel
theorem dX1_pairCount_16 : decode cX1_pairCount 16 = .ok (.ireturn, 1) := by decide +kernel
theorem dX1_pairCount_17 : decode cX1_pairCount 17 = .ok (.iconst 0, 1) := by decide +kernel
theorem dX1_pairCount_18 : decode cX1_pairCount 18 = .ok (.istore_n 3, 1) := by decide +kernel
theorem dX1_pairCount_19 : decode cX1_pairCount 19 = .ok (.iconst 1, 1) := by decide +kernel
theorem dX1_pairCount_20 : decode cX1_pairCount 20 = .ok (.istore 4, 2) := by decide +kernel
theorem dX1_pairCount_22 : decode cX1_pairCount 22 = .ok (.iload 4, 2) := by decide +kernel
theorem dX1_pairCount_24 : decode cX1_pairCount 24 = .ok (.aload_n 0, 1) := by decide +kernel
theorem dX1_pairCount_25 : decode cX1_pairCount 25 = .ok (.getfield 13, 3) := by decide +kernel
theorem dX1_pairCount_28 : decode cX1_pairCount 28 = .ok (.if_icmp .ge 36, 3) := by decide +kernel
theorem dX1_pairCount_31 : decode cX1_pairCount 31 = .ok (.aload_n 0, 1) := by decide +kernel
theorem dX1_pairCount_32 : decode cX1_pairCount 32 = .ok (.getfield 9, 3) := by decide +kernel
theorem dX1_pairCount_35 : decode cX1_pairCount 35 = .ok (.iload 4, 2) := by decide +kernel
theorem dX1_pairCount_37 : decode cX1_pairCount 37 = .ok (.iconst 1, 1) := by decide +kernel
theorem dX1_pairCount_38 : decode cX1_pairCount 38 = .ok (.isub, 1) := by decide +kernel
theorem dX1_pairCount_39 : decode cX1_pairCount 39 = .ok (.iaload, 1) := by decide +kernel
theorem dX1_pairCount_40 : decode cX1_pairCount 40 = .ok (.aload_n 0, 1) := by decide +kernel
theorem dX1_pairCount_41 : decode cX1_pairCount 41 = .ok (.getfield 9, 3) := by decide +kernel
theorem dX1_pairCount_44 : decode cX1_pairCount 44 = .ok (.iload 4, 2) := by decide +kernel
theorem dX1_pairCount_46 : decode cX1_pairCount 46 = .ok (.iaload, 1) := by decide +kernel
theorem dX1_pairCount_47 : decode cX1_pairCount 47 = .ok (.iload_n 1, 1) := by decide +kernel
theorem dX1_pairCount_48 : decode cX1_pairCount 48 = .ok (.iload_n 2, 1) := by decide +kernel
theorem dX1_pairCount_49 : decode cX1_pairCount 49 = .ok (.invokestatic 58, 3) := by decide +kernel
theorem dX1_pairCount_52 : decode cX1_pairCount 52 = .ok (.ifCond .eq 6, 3) := by decide +kernel
theorem dX1_pairCount_55 : decode cX1_pairCount 55 = .ok (.iinc 3 1, 3) := by decide +kernel
theorem dX1_pairCount_58 : decode cX1_pairCount 58 = .ok (.iinc 4 1, 3) := by decide +kernel
theorem dX1_pairCount_61 : decode cX1_pairCount 61 = .ok (.goto (-39), 3) := by decide +kernel
theorem dX1_pairCount_64 : decode cX1_pairCount 64 = .ok (.iload_n 3, 1) := by decide +kernel
theorem dX1_pairCount_65 : decode cX1_pairCount 65 = .ok (.ireturn, 1) := by decide +kernel
theorem dX1_setTravelTime_0 : decode cX1_setTravelTime 0 = .ok (.iload_n 1, 1) := by decide +kernel
theorem dX1_setTravelTime_1 : decode cX1_setTravelTime 1 = .ok (.iconst 1, 1) := by decide +kernel
theorem dX1_setTravelTime_2 : decode cX1_setTravelTime 2 = .ok (.if_icmp .lt 9, 3) := by decide +kernel
theorem dX1_setTravelTime_5 : decode cX1_setTravelTime 5 = .ok (.iload_n 1, 1) := by decide +kernel
theorem dX1_setTravelTime_6 : decode cX1_setTravelTime 6 = .ok (.bipush 20, 2) := by decide +kernel
theorem dX1_setTravelTime_8 : decode cX1_setTravelTime 8 = .ok (.if_icmp .le 6, 3) := by decide +kernel
theorem dX1_setTravelTime_11 : decode cX1_setTravelTime 11 = .ok (.ldc 57, 2) := by decide +kernel
theorem dX1_setTravelTime_13 : decode cX1_setTravelTime 13 = .ok (.ireturn, 1) := by decide +kernel
theorem dX1_setTravelTime_14 : decode cX1_setTravelTime 14 = .ok (.aload_n 0, 1) := by decide +kernel
theorem dX1_setTravelTime_15 : decode cX1_setTravelTime 15 = .ok (.getfield 17, 3) := by decide +kernel
theorem dX1_setTravelTime_18 : decode cX1_setTravelTime 18 = .ok (.istore_n 2, 1) := by decide +kernel
theorem dX1_setTravelTime_19 : decode cX1_setTravelTime 19 = .ok (.aload_n 0, 1) := by decide +kernel
theorem dX1_setTravelTime_20 : decode cX1_setTravelTime 20 = .ok (.iload_n 1, 1) := by decide +kernel
theorem dX1_setTravelTime_21 : decode cX1_setTravelTime 21 = .ok (.putfield 17, 3) := by decide +kernel
theorem dX1_setTravelTime_24 : decode cX1_setTravelTime 24 = .ok (.iload_n 2, 1) := by decide +kernel
theorem dX1_setTravelTime_25 : decode cX1_setTravelTime 25 = .ok (.ireturn, 1) := by decide +kernel
theorem dX1_setClashDistance_0 : decode cX1_setClashDistance 0 = .ok (.iload_n 1, 1) := by decide +kernel
theorem dX1_setClashDistance_1 : decode cX1_setClashDistance 1 = .ok (.iconst 1, 1) := by decide +kernel
theorem dX1_setClashDistance_2 : decode cX1_setClashDistance 2 = .ok (.if_icmp .lt 8, 3) := by decide +kernel
theorem dX1_setClashDistance_5 : decode cX1_setClashDistance 5 = .ok (.iload_n 1, 1) := by decide +kernel
theorem dX1_setClashDistance_6 : decode cX1_setClashDistance 6 = .ok (.iconst 5, 1) := by decide +kernel
theorem dX1_setClashDistance_7 : decode cX1_setClashDistance 7 = .ok (.if_icmp .le 6, 3) := by decide +kernel
theorem dX1_setClashDistance_10 : decode cX1_setClashDistance 10 = .ok (.ldc 57, 2) := by decide +kernel
theorem dX1_setClashDistance_12 : decode cX1_setClashDistance 12 = .ok (.ireturn, 1) := by decide +kernel
theorem dX1_setClashDistance_13 : decode cX1_setClashDistance 13 = .ok (.aload_n 0, 1) := by decide +kernel
theorem dX1_setClashDistance_14 : decode cX1_setClashDistance 14 = .ok (.getfield 20, 3) := by decide +kernel
theorem dX1_setClashDistance_17 : decode cX1_setClashDistance 17 = .ok (.istore_n 2, 1) := by decide +kernel
theorem dX1_setClashDistance_18 : decode cX1_setClashDistance 18 = .ok (.aload_n 0, 1) := by decide +kernel
theorem dX1_setClashDistance_19 : decode cX1_setClashDistance 19 = .ok (.iload_n 1, 1) := by decide +kernel
theorem dX1_setClashDistance_20 : decode cX1_setClashDistance 20 = .ok (.putfield 20, 3) := by decide +kernel
theorem dX1_setClashDistance_23 : decode cX1_setClashDistance 23 = .ok (.iload_n 2, 1) := by decide +kernel
theorem dX1_setClashDistance_24 : decode cX1_setClashDistance 24 = .ok (.ireturn, 1) := by decide +kernel
theorem dX1_setClearingTime_0 : decode cX1_setClearingTime 0 = .ok (.iload_n 1, 1) := by decide +kernel
theorem dX1_setClearingTime_1 : decode cX1_setClearingTime 1 = .ok (.ifCond .lt 9, 3) := by decide +kernel
theorem dX1_setClearingTime_4 : decode cX1_setClearingTime 4 = .ok (.iload_n 1, 1) := by decide +kernel
theorem dX1_setClearingTime_5 : decode cX1_setClearingTime 5 = .ok (.bipush 50, 2) := by decide +kernel
theorem dX1_setClearingTime_7 : decode cX1_setClearingTime 7 = .ok (.if_icmp .le 6, 3) := by decide +kernel
theorem dX1_setClearingTime_10 : decode cX1_setClearingTime 10 = .ok (.ldc 57, 2) := by decide +kernel
theorem dX1_setClearingTime_12 : decode cX1_setClearingTime 12 = .ok (.ireturn, 1) := by decide +kernel
theorem dX1_setClearingTime_13 : decode cX1_setClearingTime 13 = .ok (.aload_n 0, 1) := by decide +kernel
theorem dX1_setClearingTime_14 : decode cX1_setClearingTime 14 = .ok (.getfield 23, 3) := by decide +kernel
theorem dX1_setClearingTime_17 : decode cX1_setClearingTime 17 = .ok (.istore_n 2, 1) := by decide +kernel
theorem dX1_setClearingTime_18 : decode cX1_setClearingTime 18 = .ok (.aload_n 0, 1) := by decide +kernel
theorem dX1_setClearingTime_19 : decode cX1_setClearingTime 19 = .ok (.iload_n 1, 1) := by decide +kernel
theorem dX1_setClearingTime_20 : decode cX1_setClearingTime 20 = .ok (.putfield 23, 3) := by decide +kernel
theorem dX1_setClearingTime_23 : decode cX1_setClearingTime 23 = .ok (.iload_n 2, 1) := by decide +kernel
theorem dX1_setClearingTime_24 : decode cX1_setClearingTime 24 = .ok (.ireturn, 1) := by decide +kernel
set_option maxRecDepth 20000 in
theorem ggX1_loadLayout_X1_textIsLayout : GoodIn wsX1_loadLayout wsX1_textIsLayout := goodIn_r _ [9, 3, 2, 16, 17, 18, 19, 20, 21, 22, 23, 24, 25, 26, 27] (by decide +kernel) (by decide +kernel)
set_option maxRecDepth 20000 in
theorem gX1_loadLayout_X1_textIsLayout : GoodIn wsX1_loadLayout (wsV RX1 62 RX1 yX1_textIsLayout wsX1_textIsLayout) := goodIn_app (goodIn_of _ (by decide +kernel)) ggX1_loadLayout_X1_textIsLayout
set_option maxRecDepth 20000 in
theorem ggX1_loadLayout_X1_place : GoodIn wsX1_loadLayout wsX1_place := goodIn_r _ [13, 14, 15, 16, 17, 18, 19, 20, 21, 22, 23, 24, 25, 26, 27] (by decide +kernel) (by decide +kernel)
set_option maxRecDepth 20000 in
theorem gX1_loadLayout_X1_place : GoodIn wsX1_loadLayout (wsV RX1 67 RX1 yX1_place wsX1_place) := goodIn_app (goodIn_of _ (by decide +kernel)) ggX1_loadLayout_X1_place
theorem dX1_loadLayout_0 : decode cX1_loadLayout 0 = .ok (.aload_n 0, 1) := by decide +kernel
theorem dX1_loadLayout_1 : decode cX1_loadLayout 1 = .ok (.invokevirtual 62, 3) := by decide +kernel
theorem dX1_loadLayout_4 : decode cX1_loadLayout 4 = .ok (.ifCond .ne 6, 3) := by decide +kernel
theorem dX1_loadLayout_7 : decode cX1_loadLayout 7 = .ok (.ldc 66, 2) := by decide +kernel
theorem dX1_loadLayout_9 : decode cX1_loadLayout 9 = .ok (.ireturn, 1) := by decide +kernel
theorem dX1_loadLayout_10 : decode cX1_loadLayout 10 = .ok (.iconst 0, 1) := by decide +kernel
theorem dX1_loadLayout_11 : decode cX1_loadLayout 11 = .ok (.istore_n 1, 1) := by decide +kernel
theorem dX1_loadLayout_12 : decode cX1_loadLayout 12 = .ok (.iload_n 1, 1) := by decide +kernel
theorem dX1_loadLayout_13 : decode cX1_loadLayout 13 = .ok (.bipush 12, 2) := by decide +kernel
theorem dX1_loadLayout_15 : decode cX1_loadLayout 15 = .ok (.if_icmp .ge 20, 3) := by decide +kernel
theorem dX1_loadLayout_18 : decode cX1_loadLayout 18 = .ok (.aload_n 0, 1) := by decide +kernel
theorem dX1_loadLayout_19 : decode cX1_loadLayout 19 = .ok (.aload_n 0, 1) := by decide +kernel
theorem dX1_loadLayout_20 : decode cX1_loadLayout 20 = .ok (.getfield 9, 3) := by decide +kernel
theorem dX1_loadLayout_23 : decode cX1_loadLayout 23 = .ok (.iload_n 1, 1) := by decide +kernel
theorem dX1_loadLayout_24 : decode cX1_loadLayout 24 = .ok (.iaload, 1) := by decide +kernel
theorem dX1_loadLayout_25 : decode cX1_loadLayout 25 = .ok (.iload_n 1, 1) := by decide +kernel
theorem dX1_loadLayout_26 : decode cX1_loadLayout 26 = .ok (.invokevirtual 67, 3) := by decide +kernel
theorem dX1_loadLayout_29 : decode cX1_loadLayout 29 = .ok (.iinc 1 1, 3) := by decide +kernel
theorem dX1_loadLayout_32 : decode cX1_loadLayout 32 = .ok (.goto (-20), 3) := by decide +kernel
theorem dX1_loadLayout_35 : decode cX1_loadLayout 35 = .ok (.aload_n 0, 1) := by decide +kernel
theorem dX1_loadLayout_36 : decode cX1_loadLayout 36 = .ok (.iconst 0, 1) := by decide +kernel
theorem dX1_loadLayout_37 : decode cX1_loadLayout 37 = .ok (.putfield 13, 3) := by decide +kernel
theorem dX1_loadLayout_40 : decode cX1_loadLayout 40 = .ok (.aload_n 0, 1) := by decide +kernel
theorem dX1_loadLayout_41 : decode cX1_loadLayout 41 = .ok (.iconst 0, 1) := by decide +kernel
theorem dX1_loadLayout_42 : decode cX1_loadLayout 42 = .ok (.putfield 38, 3) := by decide +kernel
theorem dX1_loadLayout_45 : decode cX1_loadLayout 45 = .ok (.bipush 12, 2) := by decide +kernel
theorem dX1_loadLayout_47 : decode cX1_loadLayout 47 = .ok (.ireturn, 1) := by decide +kernel
set_option maxRecDepth 20000 in
theorem ggX1_letterAt_X1_isNumber : GoodIn wsX1_letterAt wsX1_isNumber := goodIn_r _ [6] (by decide +kernel) (by decide +kernel)
set_option maxRecDepth 20000 in
theorem gX1_letterAt_X1_isNumber : GoodIn wsX1_letterAt (va_wsS RX1 53 yX1_isNumber wsX1_isNumber) := goodIn_app (goodIn_of _ (by decide +kernel)) ggX1_letterAt_X1_isNumber
theorem dX1_letterAt_0 : decode cX1_letterAt 0 = .ok (.iload_n 1, 1) := by decide +kernel
theorem dX1_letterAt_1 : decode cX1_letterAt 1 = .ok (.invokestatic 53, 3) := by decide +kernel
theorem dX1_letterAt_4 : decode cX1_letterAt 4 = .ok (.ifCond .eq 12, 3) := by decide +kernel
theorem dX1_letterAt_7 : decode cX1_letterAt 7 = .ok (.aload_n 0, 1) := by decide +kernel
theorem dX1_letterAt_8 : decode cX1_letterAt 8 = .ok (.getfield 26, 3) := by decide +kernel
theorem dX1_letterAt_11 : decode cX1_letterAt 11 = .ok (.iload_n 1, 1) := by decide +kernel
theorem dX1_letterAt_12 : decode cX1_letterAt 12 = .ok (.iaload, 1) := by decide +kernel
theorem dX1_letterAt_13 : decode cX1_letterAt 13 = .ok (.goto 5, 3) := by decide +kernel
theorem dX1_letterAt_16 : decode cX1_letterAt 16 = .ok (.ldc 57, 2) := by decide +kernel
theorem dX1_letterAt_18 : decode cX1_letterAt 18 = .ok (.ireturn, 1) := by decide +kernel
set_option maxRecDepth 20000 in
theorem ggX1_positionOf_X1_isNumber : GoodIn wsX1_positionOf wsX1_isNumber := goodIn_r _ [6] (by decide +kernel) (by decide +kernel)
set_option maxRecDepth 20000 in
theorem gX1_positionOf_X1_isNumber : GoodIn wsX1_positionOf (va_wsS RX1 53 yX1_isNumber wsX1_isNumber) := goodIn_app (goodIn_of _ (by decide +kernel)) ggX1_positionOf_X1_isNumber
theorem dX1_positionOf_0 : decode cX1_positionOf 0 = .ok (.iload_n 1, 1) := by decide +kernel
theorem dX1_positionOf_1 : decode cX1_positionOf 1 = .ok (.invokestatic 53, 3) := by decide +kernel
theorem dX1_positionOf_4 : decode cX1_positionOf 4 = .ok (.ifCond .eq 12, 3) := by decide +kernel
theorem dX1_positionOf_7 : decode cX1_positionOf 7 = .ok (.aload_n 0, 1) := by decide +kernel
theorem dX1_positionOf_8 : decode cX1_positionOf 8 = .ok (.getfield 29, 3) := by decide +kernel
theorem dX1_positionOf_11 : decode cX1_positionOf 11 = .ok (.iload_n 1, 1) := by decide +kernel
theorem dX1_positionOf_12 : decode cX1_positionOf 12 = .ok (.iaload, 1) := by decide +kernel
theorem dX1_positionOf_13 : decode cX1_positionOf 13 = .ok (.goto 5, 3) := by decide +kernel
theorem dX1_positionOf_16 : decode cX1_positionOf 16 = .ok (.ldc 57, 2) := by decide +kernel
theorem dX1_positionOf_18 : decode cX1_positionOf 18 = .ok (.ireturn, 1) := by decide +kernel
set_option maxRecDepth 20000 in
theorem ggX1_swap_X1_swapError : GoodIn wsX1_swap wsX1_swapError := goodIn_r _ [4, 5, 6, 7, 8, 3, 9] (by decide +kernel) (by decide +kernel)
set_option maxRecDepth 20000 in
theorem gX1_swap_X1_swapError : GoodIn wsX1_swap (va_wsS RX1 71 yX1_swapError wsX1_swapError) := goodIn_app (goodIn_of _ (by decide +kernel)) ggX1_swap_X1_swapError
set_option maxRecDepth 20000 in
theorem ggX1_swap_X1_makeSwap : GoodIn wsX1_swap wsX1_makeSwap := goodIn_r _ [13, 14, 15, 16, 17, 18, 19, 3, 20, 21, 22, 23, 24, 25, 26, 27, 28, 29, 30, 49, 50, 51, 52, 53, 54, 55, 56, 57, 58, 59, 60] (by decide +kernel) (by decide +kernel)
set_option maxRecDepth 20000 in
theorem gX1_swap_X1_makeSwap : GoodIn wsX1_swap (wsV RX1 75 RX1 yX1_makeSwap wsX1_makeSwap) := goodIn_app (goodIn_of _ (by decide +kernel)) ggX1_swap_X1_makeSwap
set_option maxRecDepth 20000 in
theorem ggX1_swap_X1_cost : GoodIn wsX1_swap wsX1_cost := goodIn_r _ [34, 35, 36, 37, 38, 39, 3, 40, 26, 41, 42, 43, 44, 45, 46, 47, 48, 49, 50, 51, 52, 53, 54, 55, 56, 57, 58, 59, 60] (by decide +kernel) (by decide +kernel)
set_option maxRecDepth 20000 in
theorem gX1_swap_X1_cost : GoodIn wsX1_swap (wsV RX1 78 RX1 yX1_cost wsX1_cost) := goodIn_app (goodIn_of _ (by decide +kernel)) ggX1_swap_X1_cost
theorem dX1_swap_0 : decode cX1_swap 0 = .ok (.iload_n 1, 1) := by decide +kernel
theorem dX1_swap_1 : decode cX1_swap 1 = .ok (.iload_n 2, 1) := by decide +kernel
theorem dX1_swap_2 : decode cX1_swap 2 = .ok (.invokestatic 71, 3) := by decide +kernel
theorem dX1_swap_5 : decode cX1_swap 5 = .ok (.istore_n 3, 1) := by decide +kernel
theorem dX1_swap_6 : decode cX1_swap 6 = .ok (.iload_n 3, 1) := by decide +kernel
theorem dX1_swap_7 : decode cX1_swap 7 = .ok (.ifCond .eq 5, 3) := by decide +kernel
theorem dX1_swap_10 : decode cX1_swap 10 = .ok (.iload_n 3, 1) := by decide +kernel
theorem dX1_swap_11 : decode cX1_swap 11 = .ok (.ireturn, 1) := by decide +kernel
theorem dX1_swap_12 : decode cX1_swap 12 = .ok (.aload_n 0, 1) := by decide +kernel
theorem dX1_swap_13 : decode cX1_swap 13 = .ok (.iload_n 1, 1) := by decide +kernel
theorem dX1_swap_14 : decode cX1_swap 14 = .ok (.iload_n 2, 1) := by decide +kernel
theorem dX1_swap_15 : decode cX1_swap 15 = .ok (.invokevirtual 75, 3) := by decide +kernel
theorem dX1_swap_18 : decode cX1_swap 18 = .ok (.aload_n 0, 1) := by decide +kernel
theorem dX1_swap_19 : decode cX1_swap 19 = .ok (.invokevirtual 78, 3) := by decide +kernel
theorem dX1_swap_22 : decode cX1_swap 22 = .ok (.ireturn, 1) := by decide +kernel
set_option maxRecDepth 20000 in
theorem ggX1_undo_X1_exchange : GoodIn wsX1_undo wsX1_exchange := goodIn_r _ [9, 10, 11, 12, 13, 8, 14, 15, 34, 35, 36, 37, 38, 39, 40, 41, 42, 43, 44, 45] (by decide +kernel) (by decide +kernel)
set_option maxRecDepth 20000 in
theorem gX1_undo_X1_exchange : GoodIn wsX1_undo (wsV RX1 83 RX1 yX1_exchange wsX1_exchange) := goodIn_app (goodIn_of _ (by decide +kernel)) ggX1_undo_X1_exchange
set_option maxRecDepth 20000 in
theorem ggX1_undo_X1_cost : GoodIn wsX1_undo wsX1_cost := goodIn_r _ [19, 20, 21, 22, 23, 24, 8, 25, 15, 26, 27, 28, 29, 30, 31, 32, 33, 34, 35, 36, 37, 38, 39, 40, 41, 42, 43, 44, 45] (by decide +kernel) (by decide +kernel)
set_option maxRecDepth 20000 in
theorem gX1_undo_X1_cost : GoodIn wsX1_undo (wsV RX1 78 RX1 yX1_cost wsX1_cost) := goodIn_app (goodIn_of _ (by decide +kernel)) ggX1_undo_X1_cost
theorem dX1_undo_0 : decode cX1_undo 0 = .ok (.aload_n 0, 1) := by decide +kernel
theorem dX1_undo_1 : decode cX1_undo 1 = .ok (.getfield 38, 3) := by decide +kernel
theorem dX1_undo_4 : decode cX1_undo 4 = .ok (.ifCond .gt 6, 3) := by decide +kernel
theorem dX1_undo_7 : decode cX1_undo 7 = .ok (.ldc 82, 2) := by decide +kernel
theorem dX1_undo_9 : decode cX1_undo 9 = .ok (.ireturn, 1) := by decide +kernel
theorem dX1_undo_10 : decode cX1_undo 10 = .ok (.aload_n 0, 1) := by decide +kernel
theorem dX1_undo_11 : decode cX1_undo 11 = .ok (.dup, 1) := by decide +kernel
theorem dX1_undo_12 : decode cX1_undo 12 = .ok (.getfield 38, 3) := by decide +kernel
theorem dX1_undo_15 : decode cX1_undo 15 = .ok (.iconst 1, 1) := by decide +kernel
theorem dX1_undo_16 : decode cX1_undo 16 = .ok (.isub, 1) := by decide +kernel
theorem dX1_undo_17 : decode cX1_undo 17 = .ok (.putfield 38, 3) := by decide +kernel
theorem dX1_undo_20 : decode cX1_undo 20 = .ok (.aload_n 0, 1) := by decide +kernel
theorem dX1_undo_21 : decode cX1_undo 21 = .ok (.aload_n 0, 1) := by decide +kernel
theorem dX1_undo_22 : decode cX1_undo 22 = .ok (.getfield 32, 3) := by decide +kernel
theorem dX1_undo_25 : decode cX1_undo 25 = .ok (.aload_n 0, 1) := by decide +kernel
theorem dX1_undo_26 : decode cX1_undo 26 = .ok (.getfield 38, 3) := by decide +kernel
theorem dX1_undo_29 : decode cX1_undo 29 = .ok (.iaload, 1) := by decide +kernel
theorem dX1_undo_30 : decode cX1_undo 30 = .ok (.aload_n 0, 1) := by decide +kernel
theorem dX1_undo_31 : decode cX1_undo 31 = .ok (.getfield 35, 3) := by decide +kernel
theorem dX1_undo_34 : decode cX1_undo 34 = .ok (.aload_n 0, 1) := by decide +kernel
theorem dX1_undo_35 : decode cX1_undo 35 = .ok (.getfield 38, 3) := by decide +kernel
theorem dX1_undo_38 : decode cX1_undo 38 = .ok (.iaload, 1) := by decide +kernel
theorem dX1_undo_39 : decode cX1_undo 39 = .ok (.invokevirtual 83, 3) := by decide +kernel
theorem dX1_undo_42 : decode cX1_undo 42 = .ok (.aload_n 0, 1) := by decide +kernel
theorem dX1_undo_43 : decode cX1_undo 43 = .ok (.invokevirtual 78, 3) := by decide +kernel
theorem dX1_undo_46 : decode cX1_undo 46 = .ok (.ireturn, 1) := by decide +kernel
theorem dX1_undoCount_0 : decode cX1_undoCount 0 = .ok (.aload_n 0, 1) := by decide +kernel
theorem dX1_undoCount_1 : decode cX1_undoCount 1 = .ok (.getfield 38, 3) := by decide +kernel
theorem dX1_undoCount_4 : decode cX1_undoCount 4 = .ok (.ireturn, 1) := by decide +kernel
set_option maxRecDepth 20000 in
theorem ggX1_mirror_X1_exchange : GoodIn wsX1_mirror wsX1_exchange := goodIn_r _ [6, 7, 8, 9, 10, 5, 11, 12, 31, 32, 33, 34, 35, 36, 37, 38, 39, 40, 41, 42] (by decide +kernel) (by decide +kernel)
set_option maxRecDepth 20000 in
theorem gX1_mirror_X1_exchange : GoodIn wsX1_mirror (wsV RX1 83 RX1 yX1_exchange wsX1_exchange) := goodIn_app (goodIn_of _ (by decide +kernel)) ggX1_mirror_X1_exchange
set_option maxRecDepth 20000 in
theorem ggX1_mirror_X1_cost : GoodIn wsX1_mirror wsX1_cost := goodIn_r _ [16, 17, 18, 19, 20, 21, 5, 22, 12, 23, 24, 25, 26, 27, 28, 29, 30, 31, 32, 33, 34, 35, 36, 37, 38, 39, 40, 41, 42] (by decide +kernel) (by decide +kernel)
set_option maxRecDepth 20000 in
theorem gX1_mirror_X1_cost : GoodIn wsX1_mirror (wsV RX1 78 RX1 yX1_cost wsX1_cost) := goodIn_app (goodIn_of _ (by decide +kernel)) ggX1_mirror_X1_cost
theorem dX1_mirror_0 : decode cX1_mirror 0 = .ok (.iconst 0, 1) := by decide +kernel
theorem dX1_mirror_1 : decode cX1_mirror 1 = .ok (.istore_n 1, 1) := by decide +kernel
theorem dX1_mirror_2 : decode cX1_mirror 2 = .ok (.iload_n 1, 1) := by decide +kernel
theorem dX1_mirror_3 : decode cX1_mirror 3 = .ok (.bipush 6, 2) := by decide +kernel
theorem dX1_mirror_5 : decode cX1_mirror 5 = .ok (.if_icmp .ge 18, 3) := by decide +kernel
theorem dX1_mirror_8 : decode cX1_mirror 8 = .ok (.aload_n 0, 1) := by decide +kernel
theorem dX1_mirror_9 : decode cX1_mirror 9 = .ok (.iload_n 1, 1) := by decide +kernel
theorem dX1_mirror_10 : decode cX1_mirror 10 = .ok (.bipush 11, 2) := by decide +kernel
theorem dX1_mirror_12 : decode cX1_mirror 12 = .ok (.iload_n 1, 1) := by decide +kernel
theorem dX1_mirror_13 : decode cX1_mirror 13 = .ok (.isub, 1) := by decide +kernel
theorem dX1_mirror_14 : decode cX1_mirror 14 = .ok (.invokevirtual 83, 3) := by decide +kernel
theorem dX1_mirror_17 : decode cX1_mirror 17 = .ok (.iinc 1 1, 3) := by decide +kernel
theorem dX1_mirror_20 : decode cX1_mirror 20 = .ok (.goto (-18), 3) := by decide +kernel
theorem dX1_mirror_23 : decode cX1_mirror 23 = .ok (.aload_n 0, 1) := by decide +kernel
theorem dX1_mirror_24 : decode cX1_mirror 24 = .ok (.iconst 0, 1) := by decide +kernel
theorem dX1_mirror_25 : decode cX1_mirror 25 = .ok (.putfield 38, 3) := by decide +kernel
theorem dX1_mirror_28 : decode cX1_mirror 28 = .ok (.aload_n 0, 1) := by decide +kernel
theorem dX1_mirror_29 : decode cX1_mirror 29 = .ok (.invokevirtual 78, 3) := by decide +kernel
theorem dX1_mirror_32 : decode cX1_mirror 32 = .ok (.ireturn, 1) := by decide +kernel
set_option maxRecDepth 20000 in
theorem ggX1_cost_X1_closeness : GoodIn wsX1_cost wsX1_closeness := goodIn_r _ [7, 8, 9, 10, 11, 12, 13, 14, 15, 16, 17, 18, 19, 20, 21, 22, 23, 24, 25, 26, 27, 28] (by decide +kernel) (by decide +kernel)
set_option maxRecDepth 20000 in
theorem gX1_cost_X1_closeness : GoodIn wsX1_cost (wsV RX1 86 RX1 yX1_closeness wsX1_closeness) := goodIn_app (goodIn_of _ (by decide +kernel)) ggX1_cost_X1_closeness
theorem dX1_cost_0 : decode cX1_cost 0 = .ok (.iconst 0, 1) := by decide +kernel
theorem dX1_cost_1 : decode cX1_cost 1 = .ok (.istore_n 1, 1) := by decide +kernel
theorem dX1_cost_2 : decode cX1_cost 2 = .ok (.iconst 1, 1) := by decide +kernel
theorem dX1_cost_3 : decode cX1_cost 3 = .ok (.istore_n 2, 1) := by decide +kernel
theorem dX1_cost_4 : decode cX1_cost 4 = .ok (.iload_n 2, 1) := by decide +kernel
theorem dX1_cost_5 : decode cX1_cost 5 = .ok (.aload_n 0, 1) := by decide +kernel
theorem dX1_cost_6 : decode cX1_cost 6 = .ok (.getfield 13, 3) := by decide +kernel
theorem dX1_cost_9 : decode cX1_cost 9 = .ok (.if_icmp .ge 30, 3) := by decide +kernel
theorem dX1_cost_12 : decode cX1_cost 12 = .ok (.iload_n 1, 1) := by decide +kernel
theorem dX1_cost_13 : decode cX1_cost 13 = .ok (.aload_n 0, 1) := by decide +kernel
theorem dX1_cost_14 : decode cX1_cost 14 = .ok (.aload_n 0, 1) := by decide +kernel
theorem dX1_cost_15 : decode cX1_cost 15 = .ok (.getfield 9, 3) := by decide +kernel
theorem dX1_cost_18 : decode cX1_cost 18 = .ok (.iload_n 2, 1) := by decide +kernel
theorem dX1_cost_19 : decode cX1_cost 19 = .ok (.iconst 1, 1) := by decide +kernel
theorem dX1_cost_20 : decode cX1_cost 20 = .ok (.isub, 1) := by decide +kernel
theorem dX1_cost_21 : decode cX1_cost 21 = .ok (.iaload, 1) := by decide +kernel
theorem dX1_cost_22 : decode cX1_cost 22 = .ok (.aload_n 0, 1) := by decide +kernel
theorem dX1_cost_23 : decode cX1_cost 23 = .ok (.getfield 9, 3) := by decide +kernel
theorem dX1_cost_26 : decode cX1_cost 26 = .ok (.iload_n 2, 1) := by decide +kernel
theorem dX1_cost_27 : decode cX1_cost 27 = .ok (.iaload, 1) := by decide +kernel
theorem dX1_cost_28 : decode cX1_cost 28 = .ok (.invokevirtual 86, 3) := by decide +kernel
theorem dX1_cost_31 : decode cX1_cost 31 = .ok (.iadd, 1) := by decide +kernel
theorem dX1_cost_32 : decode cX1_cost 32 = .ok (.istore_n 1, 1) := by decide +kernel
theorem dX1_cost_33 : decode cX1_cost 33 = .ok (.iinc 2 1, 3) := by decide +kernel
theorem dX1_cost_36 : decode cX1_cost 36 = .ok (.goto (-32), 3) := by decide +kernel
theorem dX1_cost_39 : decode cX1_cost 39 = .ok (.iload_n 1, 1) := by decide +kernel
theorem dX1_cost_40 : decode cX1_cost 40 = .ok (.ireturn, 1) := by decide +kernel
set_option maxRecDepth 20000 in
theorem ggX1_gain_X1_swapError : GoodIn wsX1_gain wsX1_swapError := goodIn_r _ [4, 5, 6, 7, 8, 3, 9] (by decide +kernel) (by decide +kernel)
set_option maxRecDepth 20000 in
theorem gX1_gain_X1_swapError : GoodIn wsX1_gain (va_wsS RX1 71 yX1_swapError wsX1_swapError) := goodIn_app (goodIn_of _ (by decide +kernel)) ggX1_gain_X1_swapError
set_option maxRecDepth 20000 in
theorem ggX1_gain_X1_cost : GoodIn wsX1_gain wsX1_cost := goodIn_r _ [13, 14, 15, 16, 17, 18, 3, 19, 20, 21, 22, 23, 24, 25, 26, 27, 28, 42, 43, 44, 45, 46, 47, 48, 49, 50, 51, 52, 53] (by decide +kernel) (by decide +kernel)
set_option maxRecDepth 20000 in
theorem gX1_gain_X1_cost : GoodIn wsX1_gain (wsV RX1 78 RX1 yX1_cost wsX1_cost) := goodIn_app (goodIn_of _ (by decide +kernel)) ggX1_gain_X1_cost
set_option maxRecDepth 20000 in
theorem ggX1_gain_X1_costAfterSwap : GoodIn wsX1_gain wsX1_costAfterSwap := goodIn_r _ [32, 33, 34, 35, 3, 36, 37, 38, 39, 40, 41, 20, 10, 11, 12, 13, 14, 15, 16, 17, 18, 19, 21, 22, 23, 24, 25, 26, 27, 28, 42, 43, 44, 45, 46, 47, 48, 49, 50, 51, 52, 53] (by decide +kernel) (by decide +kernel)
set_option maxRecDepth 20000 in
theorem gX1_gain_X1_costAfterSwap : GoodIn wsX1_gain (wsV RX1 89 RX1 yX1_costAfterSwap wsX1_costAfterSwap) := goodIn_app (goodIn_of _ (by decide +kernel)) ggX1_gain_X1_costAfterSwap
theorem dX1_gain_0 : decode cX1_gain 0 = .ok (.iload_n 1, 1) := by decide +kernel
theorem dX1_gain_1 : decode cX1_gain 1 = .ok (.iload_n 2, 1) := by decide +kernel
theorem dX1_gain_2 : decode cX1_gain 2 = .ok (.invokestatic 71, 3) := by decide +kernel
theorem dX1_gain_5 : decode cX1_gain 5 = .ok (.istore_n 3, 1) := by decide +kernel
theorem dX1_gain_6 : decode cX1_gain 6 = .ok (.iload_n 3, 1) := by decide +kernel
theorem dX1_gain_7 : decode cX1_gain 7 = .ok (.ifCond .eq 5, 3) := by decide +kernel
theorem dX1_gain_10 : decode cX1_gain 10 = .ok (.iload_n 3, 1) := by decide +kernel
theorem dX1_gain_11 : decode cX1_gain 11 = .ok (.ireturn, 1) := by decide +kernel
theorem dX1_gain_12 : decode cX1_gain 12 = .ok (.aload_n 0, 1) := by decide +kernel
theorem dX1_gain_13 : decode cX1_gain 13 = .ok (.invokevirtual 78, 3) := by decide +kernel
theorem dX1_gain_16 : decode cX1_gain 16 = .ok (.aload_n 0, 1) := by decide +kernel
theorem dX1_gain_17 : decode cX1_gain 17 = .ok (.iload_n 1, 1) := by decide +kernel
theorem dX1_gain_18 : decode cX1_gain 18 = .ok (.iload_n 2, 1) := by decide +kernel
theorem dX1_gain_19 : decode cX1_gain 19 = .ok (.invokevirtual 89, 3) := by decide +kernel
theorem dX1_gain_22 : decode cX1_gain 22 = .ok (.isub, 1) := by decide +kernel
theorem dX1_gain_23 : decode cX1_gain 23 = .ok (.ireturn, 1) := by decide +kernel
set_option maxRecDepth 20000 in
theorem ggX1_bestSwap_X1_cost : GoodIn wsX1_bestSwap wsX1_cost := goodIn_r _ [6, 7, 8, 9, 10, 11, 5, 12, 13, 14, 15, 16, 17, 18, 19, 20, 21, 35, 36, 37, 38, 39, 40, 41, 42, 43, 44, 45, 46] (by decide +kernel) (by decide +kernel)
set_option maxRecDepth 20000 in
theorem gX1_bestSwap_X1_cost : GoodIn wsX1_bestSwap (wsV RX1 78 RX1 yX1_cost wsX1_cost) := goodIn_app (goodIn_of _ (by decide +kernel)) ggX1_bestSwap_X1_cost
set_option maxRecDepth 20000 in
theorem ggX1_bestSwap_X1_costAfterSwap : GoodIn wsX1_bestSwap wsX1_costAfterSwap := goodIn_r _ [25, 26, 27, 28, 5, 29, 30, 31, 32, 33, 34, 13, 2, 3, 4, 6, 7, 8, 9, 10, 11, 12, 14, 15, 16, 17, 18, 19, 20, 21, 35, 36, 37, 38, 39, 40, 41, 42, 43, 44, 45, 46] (by decide +kernel) (by decide +kernel)
set_option maxRecDepth 20000 in
theorem gX1_bestSwap_X1_costAfterSwap : GoodIn wsX1_bestSwap (wsV RX1 89 RX1 yX1_costAfterSwap wsX1_costAfterSwap) := goodIn_app (goodIn_of _ (by decide +kernel)) ggX1_bestSwap_X1_costAfterSwap
theorem dX1_bestSwap_0 : decode cX1_bestSwap 0 = .ok (.aload_n 0, 1) := by decide +kernel
theorem dX1_bestSwap_1 : decode cX1_bestSwap 1 = .ok (.invokevirtual 78, 3) := by decide +kernel
theorem dX1_bestSwap_4 : decode cX1_bestSwap 4 = .ok (.istore_n 1, 1) := by decide +kernel
theorem dX1_bestSwap_5 : decode cX1_bestSwap 5 = .ok (.ldc 82, 2) := by decide +kernel
theorem dX1_bestSwap_7 : decode cX1_bestSwap 7 = .ok (.istore_n 2, 1) := by decide +kernel
theorem dX1_bestSwap_8 : decode cX1_bestSwap 8 = .ok (.iconst 0, 1) := by decide +kernel
theorem dX1_bestSwap_9 : decode cX1_bestSwap 9 = .ok (.istore_n 3, 1) := by decide +kernel
theorem dX1_bestSwap_10 : decode cX1_bestSwap 10 = .ok (.iload_n 3, 1) := by decide +kernel
theorem dX1_bestSwap_11 : decode cX1_bestSwap 11 = .ok (.bipush 12, 2) := by decide +kernel
theorem dX1_bestSwap_13 : decode cX1_bestSwap 13 = .ok (.if_icmp .ge 53, 3) := by decide +kernel
theorem dX1_bestSwap_16 : decode cX1_bestSwap 16 = .ok (.iload_n 3, 1) := by decide +kernel
theorem dX1_bestSwap_17 : decode cX1_bestSwap 17 = .ok (.iconst 1, 1) := by decide +kernel
theorem dX1_bestSwap_18 : decode cX1_bestSwap 18 = .ok (.iadd, 1) := by decide +kernel
theorem dX1_bestSwap_19 : decode cX1_bestSwap 19 = .ok (.istore 4, 2) := by decide +kernel
theorem dX1_bestSwap_21 : decode cX1_bestSwap 21 = .ok (.iload 4, 2) := by decide +kernel
theorem dX1_bestSwap_23 : decode cX1_bestSwap 23 = .ok (.bipush 12, 2) := by decide +kernel
theorem dX1_bestSwap_25 : decode cX1_bestSwap 25 = .ok (.if_icmp .ge 35, 3) := by decide +kernel
theorem dX1_bestSwap_28 : decode cX1_bestSwap 28 = .ok (.aload_n 0, 1) := by decide +kernel
theorem dX1_bestSwap_29 : decode cX1_bestSwap 29 = .ok (.iload_n 3, 1) := by decide +kernel
theorem dX1_bestSwap_30 : decode cX1_bestSwap 30 = .ok (.iload 4, 2) := by decide +kernel
theorem dX1_bestSwap_32 : decode cX1_bestSwap 32 = .ok (.invokevirtual 89, 3) := by decide +kernel
theorem dX1_bestSwap_35 : decode cX1_bestSwap 35 = .ok (.istore 5, 2) := by decide +kernel
theorem dX1_bestSwap_37 : decode cX1_bestSwap 37 = .ok (.iload 5, 2) := by decide +kernel
theorem dX1_bestSwap_39 : decode cX1_bestSwap 39 = .ok (.iload_n 1, 1) := by decide +kernel
theorem dX1_bestSwap_40 : decode cX1_bestSwap 40 = .ok (.if_icmp .ge 14, 3) := by decide +kernel
theorem dX1_bestSwap_43 : decode cX1_bestSwap 43 = .ok (.iload 5, 2) := by decide +kernel
theorem dX1_bestSwap_45 : decode cX1_bestSwap 45 = .ok (.istore_n 1, 1) := by decide +kernel
theorem dX1_bestSwap_46 : decode cX1_bestSwap 46 = .ok (.bipush 100, 2) := by decide +kernel
theorem dX1_bestSwap_48 : decode cX1_bestSwap 48 = .ok (.iload_n 3, 1) := by decide +kernel
theorem dX1_bestSwap_49 : decode cX1_bestSwap 49 = .ok (.imul, 1) := by decide +kernel
theorem dX1_bestSwap_50 : decode cX1_bestSwap 50 = .ok (.iload 4, 2) := by decide +kernel
theorem dX1_bestSwap_52 : decode cX1_bestSwap 52 = .ok (.iadd, 1) := by decide +kernel
theorem dX1_bestSwap_53 : decode cX1_bestSwap 53 = .ok (.istore_n 2, 1) := by decide +kernel
theorem dX1_bestSwap_54 : decode cX1_bestSwap 54 = .ok (.iinc 4 1, 3) := by decide +kernel
theorem dX1_bestSwap_57 : decode cX1_bestSwap 57 = .ok (.goto (-36), 3) := by decide +kernel
theorem dX1_bestSwap_60 : decode cX1_bestSwap 60 = .ok (.iinc 3 1, 3) := by decide +kernel
theorem dX1_bestSwap_63 : decode cX1_bestSwap 63 = .ok (.goto (-53), 3) := by decide +kernel
theorem dX1_bestSwap_66 : decode cX1_bestSwap 66 = .ok (.iload_n 2, 1) := by decide +kernel
theorem dX1_bestSwap_67 : decode cX1_bestSwap 67 = .ok (.ireturn, 1) := by decide +kernel
set_option maxRecDepth 20000 in
theorem ggX1_improve_X1_bestSwap : GoodIn wsX1_improve wsX1_bestSwap := goodIn_r _ [7, 2, 8, 9, 10, 6, 11, 12, 13, 14, 15, 16, 17, 18, 19, 20, 21, 22, 23, 24, 25, 26, 27, 28, 29, 30, 31, 32, 33, 34, 35, 36, 37, 38, 39, 51, 52, 53, 54, 55, 56, 57, 58, 59, 60, 61, 62] (by decide +kernel) (by decide +kernel)
set_option maxRecDepth 20000 in
theorem gX1_improve_X1_bestSwap : GoodIn wsX1_improve (wsV RX1 92 RX1 yX1_bestSwap wsX1_bestSwap) := goodIn_app (goodIn_of _ (by decide +kernel)) ggX1_improve_X1_bestSwap
set_option maxRecDepth 20000 in
theorem ggX1_improve_X1_makeSwap : GoodIn wsX1_improve wsX1_makeSwap := goodIn_r _ [43, 44, 45, 46, 31, 32, 33, 6, 34, 35, 36, 37, 38, 39, 18, 47, 48, 49, 50, 51, 52, 53, 54, 55, 56, 57, 58, 59, 60, 61, 62] (by decide +kernel) (by decide +kernel)
set_option maxRecDepth 20000 in
theorem gX1_improve_X1_makeSwap : GoodIn wsX1_improve (wsV RX1 75 RX1 yX1_makeSwap wsX1_makeSwap) := goodIn_app (goodIn_of _ (by decide +kernel)) ggX1_improve_X1_makeSwap
theorem dX1_improve_0 : decode cX1_improve 0 = .ok (.iload_n 1, 1) := by decide +kernel
theorem dX1_improve_1 : decode cX1_improve 1 = .ok (.ifCond .lt 9, 3) := by decide +kernel
theorem dX1_improve_4 : decode cX1_improve 4 = .ok (.iload_n 1, 1) := by decide +kernel
theorem dX1_improve_5 : decode cX1_improve 5 = .ok (.bipush 100, 2) := by decide +kernel
theorem dX1_improve_7 : decode cX1_improve 7 = .ok (.if_icmp .le 6, 3) := by decide +kernel
theorem dX1_improve_10 : decode cX1_improve 10 = .ok (.ldc 57, 2) := by decide +kernel
theorem dX1_improve_12 : decode cX1_improve 12 = .ok (.ireturn, 1) := by decide +kernel
theorem dX1_improve_13 : decode cX1_improve 13 = .ok (.iconst 0, 1) := by decide +kernel
theorem dX1_improve_14 : decode cX1_improve 14 = .ok (.istore_n 2, 1) := by decide +kernel
theorem dX1_improve_15 : decode cX1_improve 15 = .ok (.iload_n 2, 1) := by decide +kernel
theorem dX1_improve_16 : decode cX1_improve 16 = .ok (.iload_n 1, 1) := by decide +kernel
theorem dX1_improve_17 : decode cX1_improve 17 = .ok (.if_icmp .ge 34, 3) := by decide +kernel
theorem dX1_improve_20 : decode cX1_improve 20 = .ok (.aload_n 0, 1) := by decide +kernel
theorem dX1_improve_21 : decode cX1_improve 21 = .ok (.invokevirtual 92, 3) := by decide +kernel
theorem dX1_improve_24 : decode cX1_improve 24 = .ok (.istore_n 3, 1) := by decide +kernel
theorem dX1_improve_25 : decode cX1_improve 25 = .ok (.iload_n 3, 1) := by decide +kernel
theorem dX1_improve_26 : decode cX1_improve 26 = .ok (.ldc 82, 2) := by decide +kernel
theorem dX1_improve_28 : decode cX1_improve 28 = .ok (.if_icmp .ne 5, 3) := by decide +kernel
theorem dX1_improve_31 : decode cX1_improve 31 = .ok (.iload_n 2, 1) := by decide +kernel
theorem dX1_improve_32 : decode cX1_improve 32 = .ok (.ireturn, 1) := by decide +kernel
theorem dX1_improve_33 : decode cX1_improve 33 = .ok (.aload_n 0, 1) := by decide +kernel
theorem dX1_improve_34 : decode cX1_improve 34 = .ok (.iload_n 3, 1) := by decide +kernel
theorem dX1_improve_35 : decode cX1_improve 35 = .ok (.bipush 100, 2) := by decide +kernel
theorem dX1_improve_37 : decode cX1_improve 37 = .ok (.idiv, 1) := by decide +kernel
theorem dX1_improve_38 : decode cX1_improve 38 = .ok (.iload_n 3, 1) := by decide +kernel
theorem dX1_improve_39 : decode cX1_improve 39 = .ok (.bipush 100, 2) := by decide +kernel
theorem dX1_improve_41 : decode cX1_improve 41 = .ok (.irem, 1) := by decide +kernel
theorem dX1_improve_42 : decode cX1_improve 42 = .ok (.invokevirtual 75, 3) := by decide +kernel
theorem dX1_improve_45 : decode cX1_improve 45 = .ok (.iinc 2 1, 3) := by decide +kernel
theorem dX1_improve_48 : decode cX1_improve 48 = .ok (.goto (-33), 3) := by decide +kernel
theorem dX1_improve_51 : decode cX1_improve 51 = .ok (.iload_n 1, 1) := by decide +kernel
theorem dX1_improve_52 : decode cX1_improve 52 = .ok (.ireturn, 1) := by decide +kernel
set_option maxRecDepth 20000 in
theorem ggX1_worstLetter_X1_closenessOf : GoodIn wsX1_worstLetter wsX1_closenessOf := goodIn_r _ [6, 7, 8, 9, 10, 11, 5, 12, 13, 14, 15, 16, 17, 18, 19, 20, 21, 22, 23, 24, 25, 26, 27, 28, 29, 30, 31, 32, 33] (by decide +kernel) (by decide +kernel)
set_option maxRecDepth 20000 in
theorem gX1_worstLetter_X1_closenessOf : GoodIn wsX1_worstLetter (wsV RX1 95 RX1 yX1_closenessOf wsX1_closenessOf) := goodIn_app (goodIn_of _ (by decide +kernel)) ggX1_worstLetter_X1_closenessOf
theorem dX1_worstLetter_0 : decode cX1_worstLetter 0 = .ok (.iconst 0, 1) := by decide +kernel
theorem dX1_worstLetter_1 : decode cX1_worstLetter 1 = .ok (.istore_n 1, 1) := by decide +kernel
theorem dX1_worstLetter_2 : decode cX1_worstLetter 2 = .ok (.ldc 82, 2) := by decide +kernel
theorem dX1_worstLetter_4 : decode cX1_worstLetter 4 = .ok (.istore_n 2, 1) := by decide +kernel
theorem dX1_worstLetter_5 : decode cX1_worstLetter 5 = .ok (.iconst 0, 1) := by decide +kernel
theorem dX1_worstLetter_6 : decode cX1_worstLetter 6 = .ok (.istore_n 3, 1) := by decide +kernel
theorem dX1_worstLetter_7 : decode cX1_worstLetter 7 = .ok (.iload_n 3, 1) := by decide +kernel
theorem dX1_worstLetter_8 : decode cX1_worstLetter 8 = .ok (.bipush 12, 2) := by decide +kernel
theorem dX1_worstLetter_10 : decode cX1_worstLetter 10 = .ok (.if_icmp .ge 27, 3) := by decide +kernel
theorem dX1_worstLetter_13 : decode cX1_worstLetter 13 = .ok (.aload_n 0, 1) := by decide +kernel
theorem dX1_worstLetter_14 : decode cX1_worstLetter 14 = .ok (.iload_n 3, 1) := by decide +kernel
theorem dX1_worstLetter_15 : decode cX1_worstLetter 15 = .ok (.invokevirtual 95, 3) := by decide +kernel
theorem dX1_worstLetter_18 : decode cX1_worstLetter 18 = .ok (.istore 4, 2) := by decide +kernel
theorem dX1_worstLetter_20 : decode cX1_worstLetter 20 = .ok (.iload 4, 2) := by decide +kernel
theorem dX1_worstLetter_22 : decode cX1_worstLetter 22 = .ok (.iload_n 1, 1) := by decide +kernel
theorem dX1_worstLetter_23 : decode cX1_worstLetter 23 = .ok (.if_icmp .le 8, 3) := by decide +kernel
theorem dX1_worstLetter_26 : decode cX1_worstLetter 26 = .ok (.iload 4, 2) := by decide +kernel
theorem dX1_worstLetter_28 : decode cX1_worstLetter 28 = .ok (.istore_n 1, 1) := by decide +kernel
theorem dX1_worstLetter_29 : decode cX1_worstLetter 29 = .ok (.iload_n 3, 1) := by decide +kernel
theorem dX1_worstLetter_30 : decode cX1_worstLetter 30 = .ok (.istore_n 2, 1) := by decide +kernel
theorem dX1_worstLetter_31 : decode cX1_worstLetter 31 = .ok (.iinc 3 1, 3) := by decide +kernel
theorem dX1_worstLetter_34 : decode cX1_worstLetter 34 = .ok (.goto (-27), 3) := by decide +kernel
theorem dX1_worstLetter_37 : decode cX1_worstLetter 37 = .ok (.iload_n 2, 1) := by decide +kernel
theorem dX1_worstLetter_38 : decode cX1_worstLetter 38 = .ok (.ireturn, 1) := by decide +kernel
set_option maxRecDepth 20000 in
theorem ggX1_run_X1_typeText : GoodIn wsX1_run wsX1_typeText := goodIn_r _ [7, 8, 9, 10, 11, 12, 13, 14, 15, 16, 17, 18, 19, 20, 21, 22, 6, 23, 24, 25, 26, 27, 28, 29, 30, 31, 32, 33, 34, 35, 36, 37, 38, 39, 40, 41, 42, 43, 44, 45, 46, 47, 48, 49, 50, 51, 52, 53, 54, 55, 56, 57, 58, 59, 60, 61, 62, 63, 64, 65, 66, 67] (by decide +kernel) (by decide +kernel)
set_option maxRecDepth 20000 in
theorem gX1_run_X1_typeText : GoodIn wsX1_run (wsV RX1 99 RX1 yX1_typeText wsX1_typeText) := goodIn_app (goodIn_of _ (by decide +kernel)) ggX1_run_X1_typeText
theorem dX1_run_0 : decode cX1_run 0 = .ok (.iload_n 1, 1) := by decide +kernel
theorem dX1_run_1 : decode cX1_run 1 = .ok (.iconst 1, 1) := by decide +kernel
theorem dX1_run_2 : decode cX1_run 2 = .ok (.if_icmp .lt 9, 3) := by decide +kernel
theorem dX1_run_5 : decode cX1_run 5 = .ok (.iload_n 1, 1) := by decide +kernel
theorem dX1_run_6 : decode cX1_run 6 = .ok (.bipush 30, 2) := by decide +kernel
theorem dX1_run_8 : decode cX1_run 8 = .ok (.if_icmp .le 6, 3) := by decide +kernel
theorem dX1_run_11 : decode cX1_run 11 = .ok (.ldc 57, 2) := by decide +kernel
theorem dX1_run_13 : decode cX1_run 13 = .ok (.ireturn, 1) := by decide +kernel
theorem dX1_run_14 : decode cX1_run 14 = .ok (.aload_n 0, 1) := by decide +kernel
theorem dX1_run_15 : decode cX1_run 15 = .ok (.aload_n 0, 1) := by decide +kernel
theorem dX1_run_16 : decode cX1_run 16 = .ok (.getfield 44, 3) := by decide +kernel
theorem dX1_run_19 : decode cX1_run 19 = .ok (.iload_n 1, 1) := by decide +kernel
theorem dX1_run_20 : decode cX1_run 20 = .ok (.invokevirtual 99, 3) := by decide +kernel
theorem dX1_run_23 : decode cX1_run 23 = .ok (.aload_n 0, 1) := by decide +kernel
theorem dX1_run_24 : decode cX1_run 24 = .ok (.getfield 44, 3) := by decide +kernel
theorem dX1_run_27 : decode cX1_run 27 = .ok (.getfield 103, 3) := by decide +kernel
theorem dX1_run_30 : decode cX1_run 30 = .ok (.ireturn, 1) := by decide +kernel
theorem dX1_jams_0 : decode cX1_jams 0 = .ok (.aload_n 0, 1) := by decide +kernel
theorem dX1_jams_1 : decode cX1_jams 1 = .ok (.getfield 44, 3) := by decide +kernel
theorem dX1_jams_4 : decode cX1_jams 4 = .ok (.getfield 106, 3) := by decide +kernel
theorem dX1_jams_7 : decode cX1_jams 7 = .ok (.ireturn, 1) := by decide +kernel
theorem dX1_lost_0 : decode cX1_lost 0 = .ok (.aload_n 0, 1) := by decide +kernel
theorem dX1_lost_1 : decode cX1_lost 1 = .ok (.getfield 44, 3) := by decide +kernel
theorem dX1_lost_4 : decode cX1_lost 4 = .ok (.getfield 109, 3) := by decide +kernel
theorem dX1_lost_7 : decode cX1_lost 7 = .ok (.ireturn, 1) := by decide +kernel
theorem dX1_duration_0 : decode cX1_duration 0 = .ok (.aload_n 0, 1) := by decide +kernel
theorem dX1_duration_1 : decode cX1_duration 1 = .ok (.getfield 44, 3) := by decide +kernel
theorem dX1_duration_4 : decode cX1_duration 4 = .ok (.getfield 112, 3) := by decide +kernel
theorem dX1_duration_7 : decode cX1_duration 7 = .ok (.ireturn, 1) := by decide +kernel
theorem dX1_printedLetter_0 : decode cX1_printedLetter 0 = .ok (.iload_n 1, 1) := by decide +kernel
theorem dX1_printedLetter_1 : decode cX1_printedLetter 1 = .ok (.ifCond .lt 14, 3) := by decide +kernel
theorem dX1_printedLetter_4 : decode cX1_printedLetter 4 = .ok (.iload_n 1, 1) := by decide +kernel
theorem dX1_printedLetter_5 : decode cX1_printedLetter 5 = .ok (.aload_n 0, 1) := by decide +kernel
theorem dX1_printedLetter_6 : decode cX1_printedLetter 6 = .ok (.getfield 44, 3) := by decide +kernel
theorem dX1_printedLetter_9 : decode cX1_printedLetter 9 = .ok (.getfield 103, 3) := by decide +kernel
theorem dX1_printedLetter_12 : decode cX1_printedLetter 12 = .ok (.if_icmp .lt 6, 3) := by decide +kernel
theorem dX1_printedLetter_15 : decode cX1_printedLetter 15 = .ok (.ldc 82, 2) := by decide +kernel
theorem dX1_printedLetter_17 : decode cX1_printedLetter 17 = .ok (.ireturn, 1) := by decide +kernel
theorem dX1_printedLetter_18 : decode cX1_printedLetter 18 = .ok (.aload_n 0, 1) := by decide +kernel
theorem dX1_printedLetter_19 : decode cX1_printedLetter 19 = .ok (.getfield 44, 3) := by decide +kernel
theorem dX1_printedLetter_22 : decode cX1_printedLetter 22 = .ok (.getfield 115, 3) := by decide +kernel
theorem dX1_printedLetter_25 : decode cX1_printedLetter 25 = .ok (.iload_n 1, 1) := by decide +kernel
theorem dX1_printedLetter_26 : decode cX1_printedLetter 26 = .ok (.iaload, 1) := by decide +kernel
theorem dX1_printedLetter_27 : decode cX1_printedLetter 27 = .ok (.ireturn, 1) := by decide +kernel
theorem dX1_jammedKeystroke_0 : decode cX1_jammedKeystroke 0 = .ok (.iload_n 1, 1) := by decide +kernel
theorem dX1_jammedKeystroke_1 : decode cX1_jammedKeystroke 1 = .ok (.ifCond .lt 14, 3) := by decide +kernel
theorem dX1_jammedKeystroke_4 : decode cX1_jammedKeystroke 4 = .ok (.iload_n 1, 1) := by decide +kernel
theorem dX1_jammedKeystroke_5 : decode cX1_jammedKeystroke 5 = .ok (.aload_n 0, 1) := by decide +kernel
theorem dX1_jammedKeystroke_6 : decode cX1_jammedKeystroke 6 = .ok (.getfield 44, 3) := by decide +kernel
theorem dX1_jammedKeystroke_9 : decode cX1_jammedKeystroke 9 = .ok (.getfield 106, 3) := by decide +kernel
theorem dX1_jammedKeystroke_12 : decode cX1_jammedKeystroke 12 = .ok (.if_icmp .lt 6, 3) := by decide +kernel
theorem dX1_jammedKeystroke_15 : decode cX1_jammedKeystroke 15 = .ok (.ldc 82, 2) := by decide +kernel
theorem dX1_jammedKeystroke_17 : decode cX1_jammedKeystroke 17 = .ok (.ireturn, 1) := by decide +kernel
theorem dX1_jammedKeystroke_18 : decode cX1_jammedKeystroke 18 = .ok (.aload_n 0, 1) := by decide +kernel
theorem dX1_jammedKeystroke_19 : decode cX1_jammedKeystroke 19 = .ok (.getfield 44, 3) := by decide +kernel
theorem dX1_jammedKeystroke_22 : decode cX1_jammedKeystroke 22 = .ok (.getfield 118, 3) := by decide +kernel
theorem dX1_jammedKeystroke_25 : decode cX1_jammedKeystroke 25 = .ok (.iload_n 1, 1) := by decide +kernel
theorem dX1_jammedKeystroke_26 : decode cX1_jammedKeystroke 26 = .ok (.iaload, 1) := by decide +kernel
theorem dX1_jammedKeystroke_27 : decode cX1_jammedKeystroke 27 = .ok (.ireturn, 1) := by decide +kernel
set_option maxRecDepth 20000 in
theorem ggX1_safeInterval_X1_typeText : GoodIn wsX1_safeInterval wsX1_typeText := goodIn_r _ [7, 8, 9, 10, 11, 12, 13, 14, 15, 16, 17, 18, 19, 20, 21, 22, 6, 23, 24, 25, 26, 27, 28, 29, 30, 31, 32, 33, 34, 35, 36, 37, 38, 39, 40, 41, 42, 43, 44, 45, 46, 47, 48, 49, 50, 51, 52, 53, 54, 55, 56, 57, 58, 59, 60, 61, 62, 63, 64, 65, 66, 67] (by decide +kernel) (by decide +kernel)
set_option maxRecDepth 20000 in
theorem gX1_safeInterval_X1_typeText : GoodIn wsX1_safeInterval (wsV RX1 99 RX1 yX1_typeText wsX1_typeText) := goodIn_app (goodIn_of _ (by decide +kernel)) ggX1_safeInterval_X1_typeText
theorem dX1_safeInterval_0 : decode cX1_safeInterval 0 = .ok (.iconst 1, 1) := by decide +kernel
theorem dX1_safeInterval_1 : decode cX1_safeInterval 1 = .ok (.istore_n 1, 1) := by decide +kernel
theorem dX1_safeInterval_2 : decode cX1_safeInterval 2 = .ok (.iload_n 1, 1) := by decide +kernel
theorem dX1_safeInterval_3 : decode cX1_safeInterval 3 = .ok (.bipush 30, 2) := by decide +kernel
theorem dX1_safeInterval_5 : decode cX1_safeInterval 5 = .ok (.if_icmp .gt 40, 3) := by decide +kernel
theorem dX1_safeInterval_8 : decode cX1_safeInterval 8 = .ok (.aload_n 0, 1) := by decide +kernel
theorem dX1_safeInterval_9 : decode cX1_safeInterval 9 = .ok (.aload_n 0, 1) := by decide +kernel
theorem dX1_safeInterval_10 : decode cX1_safeInterval 10 = .ok (.getfield 48, 3) := by decide +kernel
theorem dX1_safeInterval_13 : decode cX1_safeInterval 13 = .ok (.iload_n 1, 1) := by decide +kernel
theorem dX1_safeInterval_14 : decode cX1_safeInterval 14 = .ok (.invokevirtual 99, 3) := by decide +kernel
theorem dX1_safeInterval_17 : decode cX1_safeInterval 17 = .ok (.aload_n 0, 1) := by decide +kernel
theorem dX1_safeInterval_18 : decode cX1_safeInterval 18 = .ok (.getfield 48, 3) := by decide +kernel
theorem dX1_safeInterval_21 : decode cX1_safeInterval 21 = .ok (.getfield 106, 3) := by decide +kernel
theorem dX1_safeInterval_24 : decode cX1_safeInterval 24 = .ok (.ifCond .ne 15, 3) := by decide +kernel
theorem dX1_safeInterval_27 : decode cX1_safeInterval 27 = .ok (.aload_n 0, 1) := by decide +kernel
theorem dX1_safeInterval_28 : decode cX1_safeInterval 28 = .ok (.getfield 48, 3) := by decide +kernel
theorem dX1_safeInterval_31 : decode cX1_safeInterval 31 = .ok (.getfield 109, 3) := by decide +kernel
theorem dX1_safeInterval_34 : decode cX1_safeInterval 34 = .ok (.ifCond .ne 5, 3) := by decide +kernel
theorem dX1_safeInterval_37 : decode cX1_safeInterval 37 = .ok (.iload_n 1, 1) := by decide +kernel
theorem dX1_safeInterval_38 : decode cX1_safeInterval 38 = .ok (.ireturn, 1) := by decide +kernel
theorem dX1_safeInterval_39 : decode cX1_safeInterval 39 = .ok (.iinc 1 1, 3) := by decide +kernel
theorem dX1_safeInterval_42 : decode cX1_safeInterval 42 = .ok (.goto (-40), 3) := by decide +kernel
theorem dX1_safeInterval_45 : decode cX1_safeInterval 45 = .ok (.ldc 82, 2) := by decide +kernel
theorem dX1_safeInterval_47 : decode cX1_safeInterval 47 = .ok (.ireturn, 1) := by decide +kernel
set_option maxRecDepth 20000 in
theorem ggX1_digest_X1_mix : GoodIn wsX1_digest wsX1_mix := goodIn_r _ [13, 14] (by decide +kernel) (by decide +kernel)
set_option maxRecDepth 20000 in
theorem gX1_digest_X1_mix : GoodIn wsX1_digest (va_wsS RX1 123 yX1_mix wsX1_mix) := goodIn_app (goodIn_of _ (by decide +kernel)) ggX1_digest_X1_mix
set_option maxRecDepth 20000 in
theorem ggX1_digest_X1_mixAll : GoodIn wsX1_digest wsX1_mixAll := goodIn_r _ [17, 10, 11, 12, 13, 14] (by decide +kernel) (by decide +kernel)
set_option maxRecDepth 20000 in
theorem gX1_digest_X1_mixAll : GoodIn wsX1_digest (va_wsS RX1 127 yX1_mixAll wsX1_mixAll) := goodIn_app (goodIn_of _ (by decide +kernel)) ggX1_digest_X1_mixAll
set_option maxRecDepth 20000 in
theorem ggX1_digest_X1_cost : GoodIn wsX1_digest wsX1_cost := goodIn_r _ [21, 2, 3, 22, 23, 24, 12, 25, 26, 27, 28, 29, 30, 5, 31, 32, 33, 100, 101, 102, 103, 104, 105, 106, 107, 108, 109, 110, 111] (by decide +kernel) (by decide +kernel)
set_option maxRecDepth 20000 in
theorem gX1_digest_X1_cost : GoodIn wsX1_digest (wsV RX1 78 RX1 yX1_cost wsX1_cost) := goodIn_app (goodIn_of _ (by decide +kernel)) ggX1_digest_X1_cost
set_option maxRecDepth 20000 in
theorem ggX1_digest_X1_bestSwap : GoodIn wsX1_digest wsX1_bestSwap := goodIn_r _ [37, 38, 18, 19, 20, 12, 21, 2, 3, 22, 23, 24, 25, 26, 27, 28, 29, 30, 5, 31, 32, 33, 39, 40, 41, 42, 43, 44, 45, 46, 7, 47, 48, 49, 50, 100, 101, 102, 103, 104, 105, 106, 107, 108, 109, 110, 111] (by decide +kernel) (by decide +kernel)
set_option maxRecDepth 20000 in
theorem gX1_digest_X1_bestSwap : GoodIn wsX1_digest (wsV RX1 92 RX1 yX1_bestSwap wsX1_bestSwap) := goodIn_app (goodIn_of _ (by decide +kernel)) ggX1_digest_X1_bestSwap
set_option maxRecDepth 20000 in
theorem ggX1_digest_X1_worstLetter : GoodIn wsX1_digest wsX1_worstLetter := goodIn_r _ [54, 38, 55, 56, 57, 12, 58, 2, 3, 22, 23, 24, 25, 26, 27, 28, 29, 30, 5, 31, 32, 33, 100, 101, 102, 103, 104, 105, 106, 107, 108, 109, 110, 111] (by decide +kernel) (by decide +kernel)
set_option maxRecDepth 20000 in
theorem gX1_digest_X1_worstLetter : GoodIn wsX1_digest (wsV RX1 131 RX1 yX1_worstLetter wsX1_worstLetter) := goodIn_app (goodIn_of _ (by decide +kernel)) ggX1_digest_X1_worstLetter
set_option maxRecDepth 20000 in
theorem ggX1_digest_X1_safeInterval : GoodIn wsX1_digest wsX1_safeInterval := goodIn_r _ [62, 63, 38, 64, 65, 66, 12, 67, 2, 4, 6, 68, 69, 70, 71, 72, 73, 74, 75, 76, 77, 78, 79, 80, 3, 26, 5, 81, 82, 83, 84, 85, 86, 87, 32, 29, 33, 88, 89, 90, 91, 92, 93, 94, 95, 96, 97, 98, 99, 100, 101, 102, 103, 104, 105, 106, 107, 108, 109, 110, 111, 112, 113, 114, 115, 116, 117, 118] (by decide +kernel) (by decide +kernel)
set_option maxRecDepth 20000 in
theorem gX1_digest_X1_safeInterval : GoodIn wsX1_digest (wsV RX1 134 RX1 yX1_safeInterval wsX1_safeInterval) := goodIn_app (goodIn_of _ (by decide +kernel)) ggX1_digest_X1_safeInterval
theorem dX1_digest_0 : decode cX1_digest 0 = .ok (.ldc2_w 121, 3) := by decide +kernel
theorem dX1_digest_3 : decode cX1_digest 3 = .ok (.aload_n 0, 1) := by decide +kernel
theorem dX1_digest_4 : decode cX1_digest 4 = .ok (.getfield 13, 3) := by decide +kernel
theorem dX1_digest_7 : decode cX1_digest 7 = .ok (.i2l, 1) := by decide +kernel
theorem dX1_digest_8 : decode cX1_digest 8 = .ok (.invokestatic 123, 3) := by decide +kernel
theorem dX1_digest_11 : decode cX1_digest 11 = .ok (.aload_n 0, 1) := by decide +kernel
theorem dX1_digest_12 : decode cX1_digest 12 = .ok (.getfield 9, 3) := by decide +kernel
theorem dX1_digest_15 : decode cX1_digest 15 = .ok (.aload_n 0, 1) := by decide +kernel
theorem dX1_digest_16 : decode cX1_digest 16 = .ok (.getfield 13, 3) := by decide +kernel
theorem dX1_digest_19 : decode cX1_digest 19 = .ok (.invokestatic 127, 3) := by decide +kernel
theorem dX1_digest_22 : decode cX1_digest 22 = .ok (.lstore_n 1, 1) := by decide +kernel
theorem dX1_digest_23 : decode cX1_digest 23 = .ok (.lload_n 1, 1) := by decide +kernel
theorem dX1_digest_24 : decode cX1_digest 24 = .ok (.aload_n 0, 1) := by decide +kernel
theorem dX1_digest_25 : decode cX1_digest 25 = .ok (.getfield 17, 3) := by decide +kernel
theorem dX1_digest_28 : decode cX1_digest 28 = .ok (.i2l, 1) := by decide +kernel
theorem dX1_digest_29 : decode cX1_digest 29 = .ok (.invokestatic 123, 3) := by decide +kernel
theorem dX1_digest_32 : decode cX1_digest 32 = .ok (.lstore_n 1, 1) := by decide +kernel
theorem dX1_digest_33 : decode cX1_digest 33 = .ok (.lload_n 1, 1) := by decide +kernel
theorem dX1_digest_34 : decode cX1_digest 34 = .ok (.aload_n 0, 1) := by decide +kernel
theorem dX1_digest_35 : decode cX1_digest 35 = .ok (.getfield 20, 3) := by decide +kernel
theorem dX1_digest_38 : decode cX1_digest 38 = .ok (.i2l, 1) := by decide +kernel
theorem dX1_digest_39 : decode cX1_digest 39 = .ok (.invokestatic 123, 3) := by decide +kernel
theorem dX1_digest_42 : decode cX1_digest 42 = .ok (.lstore_n 1, 1) := by decide +kernel
theorem dX1_digest_43 : decode cX1_digest 43 = .ok (.lload_n 1, 1) := by decide +kernel
theorem dX1_digest_44 : decode cX1_digest 44 = .ok (.aload_n 0, 1) := by decide +kernel
theorem dX1_digest_45 : decode cX1_digest 45 = .ok (.getfield 23, 3) := by decide +kernel
theorem dX1_digest_48 : decode cX1_digest 48 = .ok (.i2l, 1) := by decide +kernel
theorem dX1_digest_49 : decode cX1_digest 49 = .ok (.invokestatic 123, 3) := by decide +kernel
theorem dX1_digest_52 : decode cX1_digest 52 = .ok (.lstore_n 1, 1) := by decide +kernel
theorem dX1_digest_53 : decode cX1_digest 53 = .ok (.lload_n 1, 1) := by decide +kernel
theorem dX1_digest_54 : decode cX1_digest 54 = .ok (.aload_n 0, 1) := by decide +kernel
theorem dX1_digest_55 : decode cX1_digest 55 = .ok (.getfield 26, 3) := by decide +kernel
theorem dX1_digest_58 : decode cX1_digest 58 = .ok (.bipush 12, 2) := by decide +kernel
theorem dX1_digest_60 : decode cX1_digest 60 = .ok (.invokestatic 127, 3) := by decide +kernel
theorem dX1_digest_63 : decode cX1_digest 63 = .ok (.lstore_n 1, 1) := by decide +kernel
theorem dX1_digest_64 : decode cX1_digest 64 = .ok (.lload_n 1, 1) := by decide +kernel
theorem dX1_digest_65 : decode cX1_digest 65 = .ok (.aload_n 0, 1) := by decide +kernel
theorem dX1_digest_66 : decode cX1_digest 66 = .ok (.getfield 38, 3) := by decide +kernel
theorem dX1_digest_69 : decode cX1_digest 69 = .ok (.i2l, 1) := by decide +kernel
theorem dX1_digest_70 : decode cX1_digest 70 = .ok (.invokestatic 123, 3) := by decide +kernel
theorem dX1_digest_73 : decode cX1_digest 73 = .ok (.lstore_n 1, 1) := by decide +kernel
theorem dX1_digest_74 : decode cX1_digest 74 = .ok (.lload_n 1, 1) := by decide +kernel
theorem dX1_digest_75 : decode cX1_digest 75 = .ok (.aload_n 0, 1) := by decide +kernel
theorem dX1_digest_76 : decode cX1_digest 76 = .ok (.invokevirtual 78, 3) := by decide +kernel
theorem dX1_digest_79 : decode cX1_digest 79 = .ok (.i2l, 1) := by decide +kernel
theorem dX1_digest_80 : decode cX1_digest 80 = .ok (.invokestatic 123, 3) := by decide +kernel
theorem dX1_digest_83 : decode cX1_digest 83 = .ok (.lstore_n 1, 1) := by decide +kernel
theorem dX1_digest_84 : decode cX1_digest 84 = .ok (.lload_n 1, 1) := by decide +kernel
theorem dX1_digest_85 : decode cX1_digest 85 = .ok (.aload_n 0, 1) := by decide +kernel
theorem dX1_digest_86 : decode cX1_digest 86 = .ok (.invokevirtual 92, 3) := by decide +kernel
theorem dX1_digest_89 : decode cX1_digest 89 = .ok (.i2l, 1) := by decide +kernel
theorem dX1_digest_90 : decode cX1_digest 90 = .ok (.invokestatic 123, 3) := by decide +kernel
theorem dX1_digest_93 : decode cX1_digest 93 = .ok (.lstore_n 1, 1) := by decide +kernel
theorem dX1_digest_94 : decode cX1_digest 94 = .ok (.lload_n 1, 1) := by decide +kernel
theorem dX1_digest_95 : decode cX1_digest 95 = .ok (.aload_n 0, 1) := by decide +kernel
theorem dX1_digest_96 : decode cX1_digest 96 = .ok (.invokevirtual 131, 3) := by decide +kernel
theorem dX1_digest_99 : decode cX1_digest 99 = .ok (.i2l, 1) := by decide +kernel
theorem dX1_digest_100 : decode cX1_digest 100 = .ok (.invokestatic 123, 3) := by decide +kernel
theorem dX1_digest_103 : decode cX1_digest 103 = .ok (.lstore_n 1, 1) := by decide +kernel
theorem dX1_digest_104 : decode cX1_digest 104 = .ok (.lload_n 1, 1) := by decide +kernel
theorem dX1_digest_105 : decode cX1_digest 105 = .ok (.aload_n 0, 1) := by decide +kernel
theorem dX1_digest_106 : decode cX1_digest 106 = .ok (.invokevirtual 134, 3) := by decide +kernel
theorem dX1_digest_109 : decode cX1_digest 109 = .ok (.i2l, 1) := by decide +kernel
theorem dX1_digest_110 : decode cX1_digest 110 = .ok (.invokestatic 123, 3) := by decide +kernel
theorem dX1_digest_113 : decode cX1_digest 113 = .ok (.lstore_n 1, 1) := by decide +kernel
theorem dX1_digest_114 : decode cX1_digest 114 = .ok (.lload_n 1, 1) := by decide +kernel
theorem dX1_digest_115 : decode cX1_digest 115 = .ok (.aload_n 0, 1) := by decide +kernel
theorem dX1_digest_116 : decode cX1_digest 116 = .ok (.getfield 44, 3) := by decide +kernel
theorem dX1_digest_119 : decode cX1_digest 119 = .ok (.getfield 106, 3) := by decide +kernel
theorem dX1_digest_122 : decode cX1_digest 122 = .ok (.i2l, 1) := by decide +kernel
theorem dX1_digest_123 : decode cX1_digest 123 = .ok (.invokestatic 123, 3) := by decide +kernel
theorem dX1_digest_126 : decode cX1_digest 126 = .ok (.lstore_n 1, 1) := by decide +kernel
theorem dX1_digest_127 : decode cX1_digest 127 = .ok (.lload_n 1, 1) := by decide +kernel
theorem dX1_digest_128 : decode cX1_digest 128 = .ok (.aload_n 0, 1) := by decide +kernel
theorem dX1_digest_129 : decode cX1_digest 129 = .ok (.getfield 44, 3) := by decide +kernel
theorem dX1_digest_132 : decode cX1_digest 132 = .ok (.getfield 109, 3) := by decide +kernel
theorem dX1_digest_135 : decode cX1_digest 135 = .ok (.i2l, 1) := by decide +kernel
theorem dX1_digest_136 : decode cX1_digest 136 = .ok (.invokestatic 123, 3) := by decide +kernel
theorem dX1_digest_139 : decode cX1_digest 139 = .ok (.lstore_n 1, 1) := by decide +kernel
theorem dX1_digest_140 : decode cX1_digest 140 = .ok (.lload_n 1, 1) := by decide +kernel
theorem dX1_digest_141 : decode cX1_digest 141 = .ok (.aload_n 0, 1) := by decide +kernel
theorem dX1_digest_142 : decode cX1_digest 142 = .ok (.getfield 44, 3) := by decide +kernel
theorem dX1_digest_145 : decode cX1_digest 145 = .ok (.getfield 112, 3) := by decide +kernel
theorem dX1_digest_148 : decode cX1_digest 148 = .ok (.i2l, 1) := by decide +kernel
theorem dX1_digest_149 : decode cX1_digest 149 = .ok (.invokestatic 123, 3) := by decide +kernel
theorem dX1_digest_152 : decode cX1_digest 152 = .ok (.lstore_n 1, 1) := by decide +kernel
theorem dX1_digest_153 : decode cX1_digest 153 = .ok (.lload_n 1, 1) := by decide +kernel
theorem dX1_digest_154 : decode cX1_digest 154 = .ok (.aload_n 0, 1) := by decide +kernel
theorem dX1_digest_155 : decode cX1_digest 155 = .ok (.getfield 44, 3) := by decide +kernel
theorem dX1_digest_158 : decode cX1_digest 158 = .ok (.getfield 103, 3) := by decide +kernel
theorem dX1_digest_161 : decode cX1_digest 161 = .ok (.i2l, 1) := by decide +kernel
theorem dX1_digest_162 : decode cX1_digest 162 = .ok (.invokestatic 123, 3) := by decide +kernel
theorem dX1_digest_165 : decode cX1_digest 165 = .ok (.lstore_n 1, 1) := by decide +kernel
theorem dX1_digest_166 : decode cX1_digest 166 = .ok (.lload_n 1, 1) := by decide +kernel
theorem dX1_digest_167 : decode cX1_digest 167 = .ok (.aload_n 0, 1) := by decide +kernel
theorem dX1_digest_168 : decode cX1_digest 168 = .ok (.getfield 44, 3) := by decide +kernel
theorem dX1_digest_171 : decode cX1_digest 171 = .ok (.getfield 115, 3) := by decide +kernel
theorem dX1_digest_174 : decode cX1_digest 174 = .ok (.aload_n 0, 1) := by decide +kernel
theorem dX1_digest_175 : decode cX1_digest 175 = .ok (.getfield 44, 3) := by decide +kernel
theorem dX1_digest_178 : decode cX1_digest 178 = .ok (.getfield 103, 3) := by decide +kernel
theorem dX1_digest_181 : decode cX1_digest 181 = .ok (.invokestatic 127, 3) := by decide +kernel
theorem dX1_digest_184 : decode cX1_digest 184 = .ok (.lstore_n 1, 1) := by decide +kernel
theorem dX1_digest_185 : decode cX1_digest 185 = .ok (.lload_n 1, 1) := by decide +kernel
theorem dX1_digest_186 : decode cX1_digest 186 = .ok (.aload_n 0, 1) := by decide +kernel
theorem dX1_digest_187 : decode cX1_digest 187 = .ok (.getfield 44, 3) := by decide +kernel
theorem dX1_digest_190 : decode cX1_digest 190 = .ok (.getfield 118, 3) := by decide +kernel
theorem dX1_digest_193 : decode cX1_digest 193 = .ok (.aload_n 0, 1) := by decide +kernel
theorem dX1_digest_194 : decode cX1_digest 194 = .ok (.getfield 44, 3) := by decide +kernel
theorem dX1_digest_197 : decode cX1_digest 197 = .ok (.getfield 106, 3) := by decide +kernel
theorem dX1_digest_200 : decode cX1_digest 200 = .ok (.invokestatic 127, 3) := by decide +kernel
theorem dX1_digest_203 : decode cX1_digest 203 = .ok (.lreturn, 1) := by decide +kernel
theorem dX1_isNumber_0 : decode cX1_isNumber 0 = .ok (.iload_n 0, 1) := by decide +kernel
theorem dX1_isNumber_1 : decode cX1_isNumber 1 = .ok (.ifCond .lt 13, 3) := by decide +kernel
theorem dX1_isNumber_4 : decode cX1_isNumber 4 = .ok (.iload_n 0, 1) := by decide +kernel
theorem dX1_isNumber_5 : decode cX1_isNumber 5 = .ok (.bipush 12, 2) := by decide +kernel
theorem dX1_isNumber_7 : decode cX1_isNumber 7 = .ok (.if_icmp .ge 7, 3) := by decide +kernel
theorem dX1_isNumber_10 : decode cX1_isNumber 10 = .ok (.iconst 1, 1) := by decide +kernel
theorem dX1_isNumber_11 : decode cX1_isNumber 11 = .ok (.goto 4, 3) := by decide +kernel
theorem dX1_isNumber_14 : decode cX1_isNumber 14 = .ok (.iconst 0, 1) := by decide +kernel
theorem dX1_isNumber_15 : decode cX1_isNumber 15 = .ok (.ireturn, 1) := by decide +kernel
theorem dX1_isPairOf_0 : decode cX1_isPairOf 0 = .ok (.iload_n 0, 1) := by decide +kernel
theorem dX1_isPairOf_1 : decode cX1_isPairOf 1 = .ok (.iload_n 2, 1) := by decide +kernel
theorem dX1_isPairOf_2 : decode cX1_isPairOf 2 = .ok (.if_icmp .ne 8, 3) := by decide +kernel
theorem dX1_isPairOf_5 : decode cX1_isPairOf 5 = .ok (.iload_n 1, 1) := by decide +kernel
theorem dX1_isPairOf_6 : decode cX1_isPairOf 6 = .ok (.iload_n 3, 1) := by decide +kernel
theorem dX1_isPairOf_7 : decode cX1_isPairOf 7 = .ok (.if_icmp .eq 13, 3) := by decide +kernel
theorem dX1_isPairOf_10 : decode cX1_isPairOf 10 = .ok (.iload_n 0, 1) := by decide +kernel
theorem dX1_isPairOf_11 : decode cX1_isPairOf 11 = .ok (.iload_n 3, 1) := by decide +kernel
theorem dX1_isPairOf_12 : decode cX1_isPairOf 12 = .ok (.if_icmp .ne 12, 3) := by decide +kernel
theorem dX1_isPairOf_15 : decode cX1_isPairOf 15 = .ok (.iload_n 1, 1) := by decide +kernel
theorem dX1_isPairOf_16 : decode cX1_isPairOf 16 = .ok (.iload_n 2, 1) := by decide +kernel
theorem dX1_isPairOf_17 : decode cX1_isPairOf 17 = .ok (.if_icmp .ne 7, 3) := by decide +kernel
theorem dX1_isPairOf_20 : decode cX1_isPairOf 20 = .ok (.iconst 1, 1) := by decide +kernel
theorem dX1_isPairOf_21 : decode cX1_isPairOf 21 = .ok (.goto 4, 3) := by decide +kernel
theorem dX1_isPairOf_24 : decode cX1_isPairOf 24 = .ok (.iconst 0, 1) := by decide +kernel
theorem dX1_isPairOf_25 : decode cX1_isPairOf 25 = .ok (.ireturn, 1) := by decide +kernel
theorem dX1_textIsLayout_0 : decode cX1_textIsLayout 0 = .ok (.aload_n 0, 1) := by decide +kernel
theorem dX1_textIsLayout_1 : decode cX1_textIsLayout 1 = .ok (.getfield 13, 3) := by decide +kernel
theorem dX1_textIsLayout_4 : decode cX1_textIsLayout 4 = .ok (.bipush 12, 2) := by decide +kernel
theorem dX1_textIsLayout_6 : decode cX1_textIsLayout 6 = .ok (.if_icmp .eq 5, 3) := by decide +kernel
theorem dX1_textIsLayout_9 : decode cX1_textIsLayout 9 = .ok (.iconst 0, 1) := by decide +kernel
theorem dX1_textIsLayout_10 : decode cX1_textIsLayout 10 = .ok (.ireturn, 1) := by decide +kernel
theorem dX1_textIsLayout_11 : decode cX1_textIsLayout 11 = .ok (.iconst 0, 1) := by decide +kernel
theorem dX1_textIsLayout_12 : decode cX1_textIsLayout 12 = .ok (.istore_n 1, 1) := by decide +kernel
theorem dX1_textIsLayout_13 : decode cX1_textIsLayout 13 = .ok (.iconst 0, 1) := by decide +kernel
theorem dX1_textIsLayout_14 : decode cX1_textIsLayout 14 = .ok (.istore_n 2, 1) := by decide +kernel
theorem dX1_textIsLayout_15 : decode cX1_textIsLayout 15 = .ok (.iload_n 2, 1) := by decide +kernel
theorem dX1_textIsLayout_16 : decode cX1_textIsLayout 16 = .ok (.bipush 12, 2) := by decide +kernel
theorem dX1_textIsLayout_18 : decode cX1_textIsLayout 18 = .ok (.if_icmp .ge 20, 3) := by decide +kernel
theorem dX1_textIsLayout_21 : decode cX1_textIsLayout 21 = .ok (.iload_n 1, 1) := by decide +kernel
theorem dX1_textIsLayout_22 : decode cX1_textIsLayout 22 = .ok (.iconst 1, 1) := by decide +kernel
theorem dX1_textIsLayout_23 : decode cX1_textIsLayout 23 = .ok (.aload_n 0, 1) := by decide +kernel
theorem dX1_textIsLayout_24 : decode cX1_textIsLayout 24 = .ok (.getfield 9, 3) := by decide +kernel
theorem dX1_textIsLayout_27 : decode cX1_textIsLayout 27 = .ok (.iload_n 2, 1) := by decide +kernel
theorem dX1_textIsLayout_28 : decode cX1_textIsLayout 28 = .ok (.iaload, 1) := by decide +kernel
theorem dX1_textIsLayout_29 : decode cX1_textIsLayout 29 = .ok (.ishl, 1) := by decide +kernel
theorem dX1_textIsLayout_30 : decode cX1_textIsLayout 30 = .ok (.ior, 1) := by decide +kernel
theorem dX1_textIsLayout_31 : decode cX1_textIsLayout 31 = .ok (.istore_n 1, 1) := by decide +kernel
theorem dX1_textIsLayout_32 : decode cX1_textIsLayout 32 = .ok (.iinc 2 1, 3) := by decide +kernel
theorem dX1_textIsLayout_35 : decode cX1_textIsLayout 35 = .ok (.goto (-20), 3) := by decide +kernel
theorem dX1_textIsLayout_38 : decode cX1_textIsLayout 38 = .ok (.iload_n 1, 1) := by decide +kernel
theorem dX1_textIsLayout_39 : decode cX1_textIsLayout 39 = .ok (.sipush 4095, 3) := by decide +kernel
theorem dX1_textIsLayout_42 : decode cX1_textIsLayout 42 = .ok (.if_icmp .ne 7, 3) := by decide +kernel
theorem dX1_textIsLayout_45 : decode cX1_textIsLayout 45 = .ok (.iconst 1, 1) := by decide +kernel
theorem dX1_textIsLayout_46 : decode cX1_textIsLayout 46 = .ok (.goto 4, 3) := by decide +kernel
theorem dX1_textIsLayout_49 : decode cX1_textIsLayout 49 = .ok (.iconst 0, 1) := by decide +kernel
theorem dX1_textIsLayout_50 : decode cX1_textIsLayout 50 = .ok (.ireturn, 1) := by decide +kernel
theorem dX1_place_0 : decode cX1_place 0 = .ok (.aload_n 0, 1) := by decide +kernel
theorem dX1_place_1 : decode cX1_place 1 = .ok (.getfield 26, 3) := by decide +kernel
theorem dX1_place_4 : decode cX1_place 4 = .ok (.iload_n 2, 1) := by decide +kernel
theorem dX1_place_5 : decode cX1_place 5 = .ok (.iload_n 1, 1) := by decide +kernel
theorem dX1_place_6 : decode cX1_place 6 = .ok (.iastore, 1) := by decide +kernel
theorem dX1_place_7 : decode cX1_place 7 = .ok (.aload_n 0, 1) := by decide +kernel
theorem dX1_place_8 : decode cX1_place 8 = .ok (.getfield 29, 3) := by decide +kernel
theorem dX1_place_11 : decode cX1_place 11 = .ok (.iload_n 1, 1) := by decide +kernel
theorem dX1_place_12 : decode cX1_place 12 = .ok (.iload_n 2, 1) := by decide +kernel
theorem dX1_place_13 : decode cX1_place 13 = .ok (.iastore, 1) := by decide +kernel
theorem dX1_place_14 : decode cX1_place 14 = .ok (.return_, 1) := by decide +kernel
set_option maxRecDepth 20000 in
theorem ggX1_exchange_X1_place : GoodIn wsX1_exchange wsX1_place := goodIn_r _ [6, 1, 7, 8, 9, 10, 11, 12, 13, 14, 15, 16, 17, 18, 19] (by decide +kernel) (by decide +kernel)
set_option maxRecDepth 20000 in
theorem gX1_exchange_X1_place : GoodIn wsX1_exchange (wsV RX1 67 RX1 yX1_place wsX1_place) := goodIn_app (goodIn_of _ (by decide +kernel)) ggX1_exchange_X1_place
theorem dX1_exchange_0 : decode cX1_exchange 0 = .ok (.aload_n 0, 1) := by decide +kernel
theorem dX1_exchange_1 : decode cX1_exchange 1 = .ok (.getfield 26, 3) := by decide +kernel
theorem dX1_exchange_4 : decode cX1_exchange 4 = .ok (.iload_n 1, 1) := by decide +kernel
theorem dX1_exchange_5 : decode cX1_exchange 5 = .ok (.iaload, 1) := by decide +kernel
theorem dX1_exchange_6 : decode cX1_exchange 6 = .ok (.istore_n 3, 1) := by decide +kernel
theorem dX1_exchange_7 : decode cX1_exchange 7 = .ok (.aload_n 0, 1) := by decide +kernel
theorem dX1_exchange_8 : decode cX1_exchange 8 = .ok (.aload_n 0, 1) := by decide +kernel
theorem dX1_exchange_9 : decode cX1_exchange 9 = .ok (.getfield 26, 3) := by decide +kernel
theorem dX1_exchange_12 : decode cX1_exchange 12 = .ok (.iload_n 2, 1) := by decide +kernel
theorem dX1_exchange_13 : decode cX1_exchange 13 = .ok (.iaload, 1) := by decide +kernel
theorem dX1_exchange_14 : decode cX1_exchange 14 = .ok (.iload_n 1, 1) := by decide +kernel
theorem dX1_exchange_15 : decode cX1_exchange 15 = .ok (.invokevirtual 67, 3) := by decide +kernel
theorem dX1_exchange_18 : decode cX1_exchange 18 = .ok (.aload_n 0, 1) := by decide +kernel
theorem dX1_exchange_19 : decode cX1_exchange 19 = .ok (.iload_n 3, 1) := by decide +kernel
theorem dX1_exchange_20 : decode cX1_exchange 20 = .ok (.iload_n 2, 1) := by decide +kernel
theorem dX1_exchange_21 : decode cX1_exchange 21 = .ok (.invokevirtual 67, 3) := by decide +kernel
theorem dX1_exchange_24 : decode cX1_exchange 24 = .ok (.return_, 1) := by decide +kernel
set_option maxRecDepth 20000 in
theorem ggX1_swapError_X1_isNumber : GoodIn wsX1_swapError wsX1_isNumber := goodIn_r _ [6] (by decide +kernel) (by decide +kernel)
set_option maxRecDepth 20000 in
theorem gX1_swapError_X1_isNumber : GoodIn wsX1_swapError (va_wsS RX1 53 yX1_isNumber wsX1_isNumber) := goodIn_app (goodIn_of _ (by decide +kernel)) ggX1_swapError_X1_isNumber
theorem dX1_swapError_0 : decode cX1_swapError 0 = .ok (.iload_n 0, 1) := by decide +kernel
theorem dX1_swapError_1 : decode cX1_swapError 1 = .ok (.invokestatic 53, 3) := by decide +kernel
theorem dX1_swapError_4 : decode cX1_swapError 4 = .ok (.ifCond .eq 10, 3) := by decide +kernel
theorem dX1_swapError_7 : decode cX1_swapError 7 = .ok (.iload_n 1, 1) := by decide +kernel
theorem dX1_swapError_8 : decode cX1_swapError 8 = .ok (.invokestatic 53, 3) := by decide +kernel
theorem dX1_swapError_11 : decode cX1_swapError 11 = .ok (.ifCond .ne 6, 3) := by decide +kernel
theorem dX1_swapError_14 : decode cX1_swapError 14 = .ok (.ldc 57, 2) := by decide +kernel
theorem dX1_swapError_16 : decode cX1_swapError 16 = .ok (.ireturn, 1) := by decide +kernel
theorem dX1_swapError_17 : decode cX1_swapError 17 = .ok (.iload_n 0, 1) := by decide +kernel
theorem dX1_swapError_18 : decode cX1_swapError 18 = .ok (.iload_n 1, 1) := by decide +kernel
theorem dX1_swapError_19 : decode cX1_swapError 19 = .ok (.if_icmp .ne 8, 3) := by decide +kernel
theorem dX1_swapError_22 : decode cX1_swapError 22 = .ok (.ldc 137, 2) := by decide +kernel
theorem dX1_swapError_24 : decode cX1_swapError 24 = .ok (.goto 4, 3) := by decide +kernel
theorem dX1_swapError_27 : decode cX1_swapError 27 = .ok (.iconst 0, 1) := by decide +kernel
theorem dX1_swapError_28 : decode cX1_swapError 28 = .ok (.ireturn, 1) := by decide +kernel
set_option maxRecDepth 20000 in
theorem ggX1_makeSwap_X1_exchange : GoodIn wsX1_makeSwap wsX1_exchange := goodIn_r _ [8, 9, 10, 11, 12, 7, 13, 14, 19, 20, 21, 22, 23, 24, 25, 26, 27, 28, 29, 30] (by decide +kernel) (by decide +kernel)
set_option maxRecDepth 20000 in
theorem gX1_makeSwap_X1_exchange : GoodIn wsX1_makeSwap (wsV RX1 83 RX1 yX1_exchange wsX1_exchange) := goodIn_app (goodIn_of _ (by decide +kernel)) ggX1_makeSwap_X1_exchange
set_option maxRecDepth 20000 in
theorem ggX1_makeSwap_X1_forgetOldestSwap : GoodIn wsX1_makeSwap wsX1_forgetOldestSwap := goodIn_r _ [18, 2, 3, 1, 19, 20, 21, 22, 23, 24, 25, 26, 27, 28, 29, 30] (by decide +kernel) (by decide +kernel)
set_option maxRecDepth 20000 in
theorem gX1_makeSwap_X1_forgetOldestSwap : GoodIn wsX1_makeSwap (wsV RX1 138 RX1 yX1_forgetOldestSwap wsX1_forgetOldestSwap) := goodIn_app (goodIn_of _ (by decide +kernel)) ggX1_makeSwap_X1_forgetOldestSwap
theorem dX1_makeSwap_0 : decode cX1_makeSwap 0 = .ok (.aload_n 0, 1) := by decide +kernel
theorem dX1_makeSwap_1 : decode cX1_makeSwap 1 = .ok (.iload_n 1, 1) := by decide +kernel
theorem dX1_makeSwap_2 : decode cX1_makeSwap 2 = .ok (.iload_n 2, 1) := by decide +kernel
theorem dX1_makeSwap_3 : decode cX1_makeSwap 3 = .ok (.invokevirtual 83, 3) := by decide +kernel
theorem dX1_makeSwap_6 : decode cX1_makeSwap 6 = .ok (.aload_n 0, 1) := by decide +kernel
theorem dX1_makeSwap_7 : decode cX1_makeSwap 7 = .ok (.getfield 38, 3) := by decide +kernel
theorem dX1_makeSwap_10 : decode cX1_makeSwap 10 = .ok (.bipush 30, 2) := by decide +kernel
theorem dX1_makeSwap_12 : decode cX1_makeSwap 12 = .ok (.if_icmp .lt 7, 3) := by decide +kernel
theorem dX1_makeSwap_15 : decode cX1_makeSwap 15 = .ok (.aload_n 0, 1) := by decide +kernel
theorem dX1_makeSwap_16 : decode cX1_makeSwap 16 = .ok (.invokevirtual 138, 3) := by decide +kernel
theorem dX1_makeSwap_19 : decode cX1_makeSwap 19 = .ok (.aload_n 0, 1) := by decide +kernel
theorem dX1_makeSwap_20 : decode cX1_makeSwap 20 = .ok (.getfield 32, 3) := by decide +kernel
theorem dX1_makeSwap_23 : decode cX1_makeSwap 23 = .ok (.aload_n 0, 1) := by decide +kernel
theorem dX1_makeSwap_24 : decode cX1_makeSwap 24 = .ok (.getfield 38, 3) := by decide +kernel
theorem dX1_makeSwap_27 : decode cX1_makeSwap 27 = .ok (.iload_n 1, 1) := by decide +kernel
theorem dX1_makeSwap_28 : decode cX1_makeSwap 28 = .ok (.iastore, 1) := by decide +kernel
theorem dX1_makeSwap_29 : decode cX1_makeSwap 29 = .ok (.aload_n 0, 1) := by decide +kernel
theorem dX1_makeSwap_30 : decode cX1_makeSwap 30 = .ok (.getfield 35, 3) := by decide +kernel
theorem dX1_makeSwap_33 : decode cX1_makeSwap 33 = .ok (.aload_n 0, 1) := by decide +kernel
theorem dX1_makeSwap_34 : decode cX1_makeSwap 34 = .ok (.getfield 38, 3) := by decide +kernel
theorem dX1_makeSwap_37 : decode cX1_makeSwap 37 = .ok (.iload_n 2, 1) := by decide +kernel
theorem dX1_makeSwap_38 : decode cX1_makeSwap 38 = .ok (.iastore, 1) := by decide +kernel
theorem dX1_makeSwap_39 : decode cX1_makeSwap 39 = .ok (.aload_n 0, 1) := by decide +kernel
theorem dX1_makeSwap_40 : decode cX1_makeSwap 40 = .ok (.dup, 1) := by decide +kernel
theorem dX1_makeSwap_41 : decode cX1_makeSwap 41 = .ok (.getfield 38, 3) := by decide +kernel
theorem dX1_makeSwap_44 : decode cX1_makeSwap 44 = .ok (.iconst 1, 1) := by decide +kernel
theorem dX1_makeSwap_45 : decode cX1_makeSwap 45 = .ok (.iadd, 1) := by decide +kernel
theorem dX1_makeSwap_46 : decode cX1_makeSwap 46 = .ok (.putfield 38, 3) := by decide +kernel
theorem dX1_makeSwap_49 : decode cX1_makeSwap 49 = .ok (.return_, 1) := by decide +kernel
theorem dX1_forgetOldestSwap_0 : decode cX1_forgetOldestSwap 0 = .ok (.iconst 1, 1) := by decide +kernel
theorem dX1_forgetOldestSwap_1 : decode cX1_forgetOldestSwap 1 = .ok (.istore_n 1, 1) := by decide +kernel
theorem dX1_forgetOldestSwap_2 : decode cX1_forgetOldestSwap 2 = .ok (.iload_n 1, 1) := by decide +kernel
theorem dX1_forgetOldestSwap_3 : decode cX1_forgetOldestSwap 3 = .ok (.bipush 30, 2) := by decide +kernel
theorem dX1_forgetOldestSwap_5 : decode cX1_forgetOldestSwap 5 = .ok (.if_icmp .ge 37, 3) := by decide +kernel
theorem dX1_forgetOldestSwap_8 : decode cX1_forgetOldestSwap 8 = .ok (.aload_n 0, 1) := by decide +kernel
theorem dX1_forgetOldestSwap_9 : decode cX1_forgetOldestSwap 9 = .ok (.getfield 32, 3) := by decide +kernel
theorem dX1_forgetOldestSwap_12 : decode cX1_forgetOldestSwap 12 = .ok (.iload_n 1, 1) := by decide +kernel
theorem dX1_forgetOldestSwap_13 : decode cX1_forgetOldestSwap 13 = .ok (.iconst 1, 1) := by decide +kernel
theorem dX1_forgetOldestSwap_14 : decode cX1_forgetOldestSwap 14 = .ok (.isub, 1) := by decide +kernel
theorem dX1_forgetOldestSwap_15 : decode cX1_forgetOldestSwap 15 = .ok (.aload_n 0, 1) := by decide +kernel
theorem dX1_forgetOldestSwap_16 : decode cX1_forgetOldestSwap 16 = .ok (.getfield 32, 3) := by decide +kernel
theorem dX1_forgetOldestSwap_19 : decode cX1_forgetOldestSwap 19 = .ok (.iload_n 1, 1) := by decide +kernel
theorem dX1_forgetOldestSwap_20 : decode cX1_forgetOldestSwap 20 = .ok (.iaload, 1) := by decide +kernel
theorem dX1_forgetOldestSwap_21 : decode cX1_forgetOldestSwap 21 = .ok (.iastore, 1) := by decide +kernel
theorem dX1_forgetOldestSwap_22 : decode cX1_forgetOldestSwap 22 = .ok (.aload_n 0, 1) := by decide +kernel
theorem dX1_forgetOldestSwap_23 : decode cX1_forgetOldestSwap 23 = .ok (.getfield 35, 3) := by decide +kernel
theorem dX1_forgetOldestSwap_26 : decode cX1_forgetOldestSwap 26 = .ok (.iload_n 1, 1) := by decide +kernel
theorem dX1_forgetOldestSwap_27 : decode cX1_forgetOldestSwap 27 = .ok (.iconst 1, 1) := by decide +kernel
theorem dX1_forgetOldestSwap_28 : decode cX1_forgetOldestSwap 28 = .ok (.isub, 1) := by decide +kernel
theorem dX1_forgetOldestSwap_29 : decode cX1_forgetOldestSwap 29 = .ok (.aload_n 0, 1) := by decide +kernel
theorem dX1_forgetOldestSwap_30 : decode cX1_forgetOldestSwap 30 = .ok (.getfield 35, 3) := by decide +kernel
theorem dX1_forgetOldestSwap_33 : decode cX1_forgetOldestSwap 33 = .ok (.iload_n 1, 1) := by decide +kernel
theorem dX1_forgetOldestSwap_34 : decode cX1_forgetOldestSwap 34 = .ok (.iaload, 1) := by decide +kernel
theorem dX1_forgetOldestSwap_35 : decode cX1_forgetOldestSwap 35 = .ok (.iastore, 1) := by decide +kernel
theorem dX1_forgetOldestSwap_36 : decode cX1_forgetOldestSwap 36 = .ok (.iinc 1 1, 3) := by decide +kernel
theorem dX1_forgetOldestSwap_39 : decode cX1_forgetOldestSwap 39 = .ok (.goto (-37), 3) := by decide +kernel
theorem dX1_forgetOldestSwap_42 : decode cX1_forgetOldestSwap 42 = .ok (.aload_n 0, 1) := by decide +kernel
theorem dX1_forgetOldestSwap_43 : decode cX1_forgetOldestSwap 43 = .ok (.bipush 29, 2) := by decide +kernel
theorem dX1_forgetOldestSwap_45 : decode cX1_forgetOldestSwap 45 = .ok (.putfield 38, 3) := by decide +kernel
theorem dX1_forgetOldestSwap_48 : decode cX1_forgetOldestSwap 48 = .ok (.return_, 1) := by decide +kernel
theorem dX1_closeness_0 : decode cX1_closeness 0 = .ok (.iload_n 1, 1) := by decide +kernel
theorem dX1_closeness_1 : decode cX1_closeness 1 = .ok (.iload_n 2, 1) := by decide +kernel
theorem dX1_closeness_2 : decode cX1_closeness 2 = .ok (.if_icmp .ne 5, 3) := by decide +kernel
theorem dX1_closeness_5 : decode cX1_closeness 5 = .ok (.iconst 0, 1) := by decide +kernel
theorem dX1_closeness_6 : decode cX1_closeness 6 = .ok (.ireturn, 1) := by decide +kernel
theorem dX1_closeness_7 : decode cX1_closeness 7 = .ok (.aload_n 0, 1) := by decide +kernel
theorem dX1_closeness_8 : decode cX1_closeness 8 = .ok (.getfield 29, 3) := by decide +kernel
theorem dX1_closeness_11 : decode cX1_closeness 11 = .ok (.iload_n 1, 1) := by decide +kernel
theorem dX1_closeness_12 : decode cX1_closeness 12 = .ok (.iaload, 1) := by decide +kernel
theorem dX1_closeness_13 : decode cX1_closeness 13 = .ok (.aload_n 0, 1) := by decide +kernel
theorem dX1_closeness_14 : decode cX1_closeness 14 = .ok (.getfield 29, 3) := by decide +kernel
theorem dX1_closeness_17 : decode cX1_closeness 17 = .ok (.iload_n 2, 1) := by decide +kernel
theorem dX1_closeness_18 : decode cX1_closeness 18 = .ok (.iaload, 1) := by decide +kernel
theorem dX1_closeness_19 : decode cX1_closeness 19 = .ok (.isub, 1) := by decide +kernel
theorem dX1_closeness_20 : decode cX1_closeness 20 = .ok (.invokestatic 141, 3) := by decide +kernel
theorem dX1_closeness_23 : decode cX1_closeness 23 = .ok (.istore_n 3, 1) := by decide +kernel
theorem dX1_closeness_24 : decode cX1_closeness 24 = .ok (.iconst 0, 1) := by decide +kernel
theorem dX1_closeness_25 : decode cX1_closeness 25 = .ok (.aload_n 0, 1) := by decide +kernel
theorem dX1_closeness_26 : decode cX1_closeness 26 = .ok (.getfield 20, 3) := by decide +kernel
theorem dX1_closeness_29 : decode cX1_closeness 29 = .ok (.iconst 1, 1) := by decide +kernel
theorem dX1_closeness_30 : decode cX1_closeness 30 = .ok (.iadd, 1) := by decide +kernel
theorem dX1_closeness_31 : decode cX1_closeness 31 = .ok (.iload_n 3, 1) := by decide +kernel
theorem dX1_closeness_32 : decode cX1_closeness 32 = .ok (.isub, 1) := by decide +kernel
theorem dX1_closeness_33 : decode cX1_closeness 33 = .ok (.invokestatic 146, 3) := by decide +kernel
theorem dX1_closeness_36 : decode cX1_closeness 36 = .ok (.ireturn, 1) := by decide +kernel
set_option maxRecDepth 20000 in
theorem ggX1_closenessOf_X1_closeness : GoodIn wsX1_closenessOf wsX1_closeness := goodIn_r _ [7, 8, 9, 10, 11, 12, 13, 14, 15, 16, 17, 18, 19, 20, 21, 22, 23, 24, 25, 26, 27, 28] (by decide +kernel) (by decide +kernel)
set_option maxRecDepth 20000 in
theorem gX1_closenessOf_X1_closeness : GoodIn wsX1_closenessOf (wsV RX1 86 RX1 yX1_closeness wsX1_closeness) := goodIn_app (goodIn_of _ (by decide +kernel)) ggX1_closenessOf_X1_closeness
theorem dX1_closenessOf_0 : decode cX1_closenessOf 0 = .ok (.iconst 0, 1) := by decide +kernel
theorem dX1_closenessOf_1 : decode cX1_closenessOf 1 = .ok (.istore_n 2, 1) := by decide +kernel
theorem dX1_closenessOf_2 : decode cX1_closenessOf 2 = .ok (.iconst 1, 1) := by decide +kernel
theorem dX1_closenessOf_3 : decode cX1_closenessOf 3 = .ok (.istore_n 3, 1) := by decide +kernel
theorem dX1_closenessOf_4 : decode cX1_closenessOf 4 = .ok (.iload_n 3, 1) := by decide +kernel
theorem dX1_closenessOf_5 : decode cX1_closenessOf 5 = .ok (.aload_n 0, 1) := by decide +kernel
theorem dX1_closenessOf_6 : decode cX1_closenessOf 6 = .ok (.getfield 13, 3) := by decide +kernel
theorem dX1_closenessOf_9 : decode cX1_closenessOf 9 = .ok (.if_icmp .ge 52, 3) := by decide +kernel
theorem dX1_closenessOf_12 : decode cX1_closenessOf 12 = .ok (.aload_n 0, 1) := by decide +kernel
theorem dX1_closenessOf_13 : decode cX1_closenessOf 13 = .ok (.getfield 9, 3) := by decide +kernel
theorem dX1_closenessOf_16 : decode cX1_closenessOf 16 = .ok (.iload_n 3, 1) := by decide +kernel
theorem dX1_closenessOf_17 : decode cX1_closenessOf 17 = .ok (.iconst 1, 1) := by decide +kernel
theorem dX1_closenessOf_18 : decode cX1_closenessOf 18 = .ok (.isub, 1) := by decide +kernel
theorem dX1_closenessOf_19 : decode cX1_closenessOf 19 = .ok (.iaload, 1) := by decide +kernel
theorem dX1_closenessOf_20 : decode cX1_closenessOf 20 = .ok (.iload_n 1, 1) := by decide +kernel
theorem dX1_closenessOf_21 : decode cX1_closenessOf 21 = .ok (.if_icmp .eq 13, 3) := by decide +kernel
theorem dX1_closenessOf_24 : decode cX1_closenessOf 24 = .ok (.aload_n 0, 1) := by decide +kernel
theorem dX1_closenessOf_25 : decode cX1_closenessOf 25 = .ok (.getfield 9, 3) := by decide +kernel
theorem dX1_closenessOf_28 : decode cX1_closenessOf 28 = .ok (.iload_n 3, 1) := by decide +kernel
theorem dX1_closenessOf_29 : decode cX1_closenessOf 29 = .ok (.iaload, 1) := by decide +kernel
theorem dX1_closenessOf_30 : decode cX1_closenessOf 30 = .ok (.iload_n 1, 1) := by decide +kernel
theorem dX1_closenessOf_31 : decode cX1_closenessOf 31 = .ok (.if_icmp .ne 24, 3) := by decide +kernel
theorem dX1_closenessOf_34 : decode cX1_closenessOf 34 = .ok (.iload_n 2, 1) := by decide +kernel
theorem dX1_closenessOf_35 : decode cX1_closenessOf 35 = .ok (.aload_n 0, 1) := by decide +kernel
theorem dX1_closenessOf_36 : decode cX1_closenessOf 36 = .ok (.aload_n 0, 1) := by decide +kernel
theorem dX1_closenessOf_37 : decode cX1_closenessOf 37 = .ok (.getfield 9, 3) := by decide +kernel
theorem dX1_closenessOf_40 : decode cX1_closenessOf 40 = .ok (.iload_n 3, 1) := by decide +kernel
theorem dX1_closenessOf_41 : decode cX1_closenessOf 41 = .ok (.iconst 1, 1) := by decide +kernel
theorem dX1_closenessOf_42 : decode cX1_closenessOf 42 = .ok (.isub, 1) := by decide +kernel
theorem dX1_closenessOf_43 : decode cX1_closenessOf 43 = .ok (.iaload, 1) := by decide +kernel
theorem dX1_closenessOf_44 : decode cX1_closenessOf 44 = .ok (.aload_n 0, 1) := by decide +kernel
theorem dX1_closenessOf_45 : decode cX1_closenessOf 45 = .ok (.getfield 9, 3) := by decide +kernel
theorem dX1_closenessOf_48 : decode cX1_closenessOf 48 = .ok (.iload_n 3, 1) := by decide +kernel
theorem dX1_closenessOf_49 : decode cX1_closenessOf 49 = .ok (.iaload, 1) := by decide +kernel
theorem dX1_closenessOf_50 : decode cX1_closenessOf 50 = .ok (.invokevirtual 86, 3) := by decide +kernel
theorem dX1_closenessOf_53 : decode cX1_closenessOf 53 = .ok (.iadd, 1) := by decide +kernel
theorem dX1_closenessOf_54 : decode cX1_closenessOf 54 = .ok (.istore_n 2, 1) := by decide +kernel
theorem dX1_closenessOf_55 : decode cX1_closenessOf 55 = .ok (.iinc 3 1, 3) := by decide +kernel
theorem dX1_closenessOf_58 : decode cX1_closenessOf 58 = .ok (.goto (-54), 3) := by decide +kernel
theorem dX1_closenessOf_61 : decode cX1_closenessOf 61 = .ok (.iload_n 2, 1) := by decide +kernel
theorem dX1_closenessOf_62 : decode cX1_closenessOf 62 = .ok (.ireturn, 1) := by decide +kernel
set_option maxRecDepth 20000 in
theorem ggX1_costAfterSwap_X1_exchange : GoodIn wsX1_costAfterSwap wsX1_exchange := goodIn_r _ [5, 6, 7, 8, 9, 4, 10, 11, 30, 31, 32, 33, 34, 35, 36, 37, 38, 39, 40, 41] (by decide +kernel) (by decide +kernel)
set_option maxRecDepth 20000 in
theorem gX1_costAfterSwap_X1_exchange : GoodIn wsX1_costAfterSwap (wsV RX1 83 RX1 yX1_exchange wsX1_exchange) := goodIn_app (goodIn_of _ (by decide +kernel)) ggX1_costAfterSwap_X1_exchange
set_option maxRecDepth 20000 in
theorem ggX1_costAfterSwap_X1_cost : GoodIn wsX1_costAfterSwap wsX1_cost := goodIn_r _ [15, 16, 17, 18, 19, 20, 4, 21, 11, 22, 23, 24, 25, 26, 27, 28, 29, 30, 31, 32, 33, 34, 35, 36, 37, 38, 39, 40, 41] (by decide +kernel) (by decide +kernel)
set_option maxRecDepth 20000 in
theorem gX1_costAfterSwap_X1_cost : GoodIn wsX1_costAfterSwap (wsV RX1 78 RX1 yX1_cost wsX1_cost) := goodIn_app (goodIn_of _ (by decide +kernel)) ggX1_costAfterSwap_X1_cost
theorem dX1_costAfterSwap_0 : decode cX1_costAfterSwap 0 = .ok (.aload_n 0, 1) := by decide +kernel
theorem dX1_costAfterSwap_1 : decode cX1_costAfterSwap 1 = .ok (.iload_n 1, 1) := by decide +kernel
theorem dX1_costAfterSwap_2 : decode cX1_costAfterSwap 2 = .ok (.iload_n 2, 1) := by decide +kernel
theorem dX1_costAfterSwap_3 : decode cX1_costAfterSwap 3 = .ok (.invokevirtual 83, 3) := by decide +kernel
theorem dX1_costAfterSwap_6 : decode cX1_costAfterSwap 6 = .ok (.aload_n 0, 1) := by decide +kernel
theorem dX1_costAfterSwap_7 : decode cX1_costAfterSwap 7 = .ok (.invokevirtual 78, 3) := by decide +kernel
theorem dX1_costAfterSwap_10 : decode cX1_costAfterSwap 10 = .ok (.istore_n 3, 1) := by decide +kernel
theorem dX1_costAfterSwap_11 : decode cX1_costAfterSwap 11 = .ok (.aload_n 0, 1) := by decide +kernel
theorem dX1_costAfterSwap_12 : decode cX1_costAfterSwap 12 = .ok (.iload_n 1, 1) := by decide +kernel
theorem dX1_costAfterSwap_13 : decode cX1_costAfterSwap 13 = .ok (.iload_n 2, 1) := by decide +kernel
theorem dX1_costAfterSwap_14 : decode cX1_costAfterSwap 14 = .ok (.invokevirtual 83, 3) := by decide +kernel
theorem dX1_costAfterSwap_17 : decode cX1_costAfterSwap 17 = .ok (.iload_n 3, 1) := by decide +kernel
theorem dX1_costAfterSwap_18 : decode cX1_costAfterSwap 18 = .ok (.ireturn, 1) := by decide +kernel
set_option maxRecDepth 20000 in
theorem ggX1_typeText_X0_begin : GoodIn wsX1_typeText wsX0_begin := goodIn_r _ [7, 8, 9, 10, 11, 12, 55, 56, 57, 58, 59, 60, 61] (by decide +kernel) (by decide +kernel)
set_option maxRecDepth 20000 in
theorem gX1_typeText_X0_begin_n149 : GoodIn wsX1_typeText (wsX0_begin) := ggX1_typeText_X0_begin
set_option maxRecDepth 20000 in
theorem ggX1_typeText_X1_strike : GoodIn wsX1_typeText wsX1_strike := goodIn_r _ [17, 18, 19, 20, 2, 21, 5, 22, 23, 12, 24, 25, 26, 27, 28, 29, 30, 31, 32, 33, 34, 35, 36, 37, 9, 38, 39, 40, 41, 8, 42, 43, 44, 45, 46, 47, 48, 49, 50, 51, 52, 53, 54, 55, 56, 57, 58, 59, 60, 61] (by decide +kernel) (by decide +kernel)
set_option maxRecDepth 20000 in
theorem gX1_typeText_X1_strike : GoodIn wsX1_typeText (wsV RX1 152 RX1 yX1_strike wsX1_strike) := goodIn_app (goodIn_of _ (by decide +kernel)) ggX1_typeText_X1_strike
theorem dX1_typeText_0 : decode cX1_typeText 0 = .ok (.aload_n 1, 1) := by decide +kernel
theorem dX1_typeText_1 : decode cX1_typeText 1 = .ok (.invokevirtual 149, 3) := by decide +kernel
theorem dX1_typeText_4 : decode cX1_typeText 4 = .ok (.iconst 0, 1) := by decide +kernel
theorem dX1_typeText_5 : decode cX1_typeText 5 = .ok (.istore_n 3, 1) := by decide +kernel
theorem dX1_typeText_6 : decode cX1_typeText 6 = .ok (.iconst 0, 1) := by decide +kernel
theorem dX1_typeText_7 : decode cX1_typeText 7 = .ok (.istore 4, 2) := by decide +kernel
theorem dX1_typeText_9 : decode cX1_typeText 9 = .ok (.iload 4, 2) := by decide +kernel
theorem dX1_typeText_11 : decode cX1_typeText 11 = .ok (.aload_n 0, 1) := by decide +kernel
theorem dX1_typeText_12 : decode cX1_typeText 12 = .ok (.getfield 13, 3) := by decide +kernel
theorem dX1_typeText_15 : decode cX1_typeText 15 = .ok (.if_icmp .ge 47, 3) := by decide +kernel
theorem dX1_typeText_18 : decode cX1_typeText 18 = .ok (.aload_n 0, 1) := by decide +kernel
theorem dX1_typeText_19 : decode cX1_typeText 19 = .ok (.aload_n 1, 1) := by decide +kernel
theorem dX1_typeText_20 : decode cX1_typeText 20 = .ok (.iload 4, 2) := by decide +kernel
theorem dX1_typeText_22 : decode cX1_typeText 22 = .ok (.iload_n 3, 1) := by decide +kernel
theorem dX1_typeText_23 : decode cX1_typeText 23 = .ok (.invokevirtual 152, 3) := by decide +kernel
theorem dX1_typeText_26 : decode cX1_typeText 26 = .ok (.istore 5, 2) := by decide +kernel
theorem dX1_typeText_28 : decode cX1_typeText 28 = .ok (.aload_n 1, 1) := by decide +kernel
theorem dX1_typeText_29 : decode cX1_typeText 29 = .ok (.iload_n 3, 1) := by decide +kernel
theorem dX1_typeText_30 : decode cX1_typeText 30 = .ok (.aload_n 0, 1) := by decide +kernel
theorem dX1_typeText_31 : decode cX1_typeText 31 = .ok (.getfield 17, 3) := by decide +kernel
theorem dX1_typeText_34 : decode cX1_typeText 34 = .ok (.iadd, 1) := by decide +kernel
theorem dX1_typeText_35 : decode cX1_typeText 35 = .ok (.putfield 112, 3) := by decide +kernel
theorem dX1_typeText_38 : decode cX1_typeText 38 = .ok (.iload_n 3, 1) := by decide +kernel
theorem dX1_typeText_39 : decode cX1_typeText 39 = .ok (.iload 5, 2) := by decide +kernel
theorem dX1_typeText_41 : decode cX1_typeText 41 = .ok (.ifCond .eq 12, 3) := by decide +kernel
theorem dX1_typeText_44 : decode cX1_typeText 44 = .ok (.iload_n 2, 1) := by decide +kernel
theorem dX1_typeText_45 : decode cX1_typeText 45 = .ok (.aload_n 0, 1) := by decide +kernel
theorem dX1_typeText_46 : decode cX1_typeText 46 = .ok (.getfield 23, 3) := by decide +kernel
theorem dX1_typeText_49 : decode cX1_typeText 49 = .ok (.iadd, 1) := by decide +kernel
theorem dX1_typeText_50 : decode cX1_typeText 50 = .ok (.goto 4, 3) := by decide +kernel
theorem dX1_typeText_53 : decode cX1_typeText 53 = .ok (.iload_n 2, 1) := by decide +kernel
theorem dX1_typeText_54 : decode cX1_typeText 54 = .ok (.iadd, 1) := by decide +kernel
theorem dX1_typeText_55 : decode cX1_typeText 55 = .ok (.istore_n 3, 1) := by decide +kernel
theorem dX1_typeText_56 : decode cX1_typeText 56 = .ok (.iinc 4 1, 3) := by decide +kernel
theorem dX1_typeText_59 : decode cX1_typeText 59 = .ok (.goto (-50), 3) := by decide +kernel
theorem dX1_typeText_62 : decode cX1_typeText 62 = .ok (.return_, 1) := by decide +kernel
set_option maxRecDepth 20000 in
theorem ggX1_strike_X0_inMotion : GoodIn wsX1_strike wsX0_inMotion := goodIn_r _ [8, 9, 43, 44, 45, 46, 47, 48, 49] (by decide +kernel) (by decide +kernel)
set_option maxRecDepth 20000 in
theorem gX1_strike_X0_inMotion_n156 : GoodIn wsX1_strike (wsX0_inMotion) := ggX1_strike_X0_inMotion
set_option maxRecDepth 20000 in
theorem ggX1_strike_X0_stopAround : GoodIn wsX1_strike wsX0_stopAround := goodIn_r _ [12, 13, 14, 15, 16, 17, 18, 19, 9, 20, 5, 7, 6, 8, 43, 44, 45, 46, 47, 48, 49] (by decide +kernel) (by decide +kernel)
set_option maxRecDepth 20000 in
theorem gX1_strike_X0_stopAround_n160 : GoodIn wsX1_strike (wsX0_stopAround) := ggX1_strike_X0_stopAround
set_option maxRecDepth 20000 in
theorem ggX1_strike_X0_addJammed : GoodIn wsX1_strike wsX0_addJammed := goodIn_r _ [23, 24, 25, 43, 44, 45, 46, 47, 48, 49] (by decide +kernel) (by decide +kernel)
set_option maxRecDepth 20000 in
theorem gX1_strike_X0_addJammed_n164 : GoodIn wsX1_strike (wsX0_addJammed) := ggX1_strike_X0_addJammed
set_option maxRecDepth 20000 in
theorem ggX1_strike_X0_addPrinted : GoodIn wsX1_strike wsX0_addPrinted := goodIn_r _ [28, 29, 30, 43, 44, 45, 46, 47, 48, 49] (by decide +kernel) (by decide +kernel)
set_option maxRecDepth 20000 in
theorem gX1_strike_X0_addPrinted_n168 : GoodIn wsX1_strike (wsX0_addPrinted) := ggX1_strike_X0_addPrinted
theorem dX1_strike_0 : decode cX1_strike 0 = .ok (.aload_n 0, 1) := by decide +kernel
theorem dX1_strike_1 : decode cX1_strike 1 = .ok (.getfield 9, 3) := by decide +kernel
theorem dX1_strike_4 : decode cX1_strike 4 = .ok (.iload_n 2, 1) := by decide +kernel
theorem dX1_strike_5 : decode cX1_strike 5 = .ok (.iaload, 1) := by decide +kernel
theorem dX1_strike_6 : decode cX1_strike 6 = .ok (.istore 4, 2) := by decide +kernel
theorem dX1_strike_8 : decode cX1_strike 8 = .ok (.aload_n 0, 1) := by decide +kernel
theorem dX1_strike_9 : decode cX1_strike 9 = .ok (.getfield 29, 3) := by decide +kernel
theorem dX1_strike_12 : decode cX1_strike 12 = .ok (.iload 4, 2) := by decide +kernel
theorem dX1_strike_14 : decode cX1_strike 14 = .ok (.iaload, 1) := by decide +kernel
theorem dX1_strike_15 : decode cX1_strike 15 = .ok (.istore 5, 2) := by decide +kernel
theorem dX1_strike_17 : decode cX1_strike 17 = .ok (.aload_n 1, 1) := by decide +kernel
theorem dX1_strike_18 : decode cX1_strike 18 = .ok (.iload 5, 2) := by decide +kernel
theorem dX1_strike_20 : decode cX1_strike 20 = .ok (.iload_n 3, 1) := by decide +kernel
theorem dX1_strike_21 : decode cX1_strike 21 = .ok (.invokevirtual 156, 3) := by decide +kernel
theorem dX1_strike_24 : decode cX1_strike 24 = .ok (.ifCond .eq 15, 3) := by decide +kernel
theorem dX1_strike_27 : decode cX1_strike 27 = .ok (.aload_n 1, 1) := by decide +kernel
theorem dX1_strike_28 : decode cX1_strike 28 = .ok (.dup, 1) := by decide +kernel
theorem dX1_strike_29 : decode cX1_strike 29 = .ok (.getfield 109, 3) := by decide +kernel
theorem dX1_strike_32 : decode cX1_strike 32 = .ok (.iconst 1, 1) := by decide +kernel
theorem dX1_strike_33 : decode cX1_strike 33 = .ok (.iadd, 1) := by decide +kernel
theorem dX1_strike_34 : decode cX1_strike 34 = .ok (.putfield 109, 3) := by decide +kernel
theorem dX1_strike_37 : decode cX1_strike 37 = .ok (.iconst 0, 1) := by decide +kernel
theorem dX1_strike_38 : decode cX1_strike 38 = .ok (.ireturn, 1) := by decide +kernel
theorem dX1_strike_39 : decode cX1_strike 39 = .ok (.aload_n 1, 1) := by decide +kernel
theorem dX1_strike_40 : decode cX1_strike 40 = .ok (.iload 5, 2) := by decide +kernel
theorem dX1_strike_42 : decode cX1_strike 42 = .ok (.aload_n 0, 1) := by decide +kernel
theorem dX1_strike_43 : decode cX1_strike 43 = .ok (.getfield 20, 3) := by decide +kernel
theorem dX1_strike_46 : decode cX1_strike 46 = .ok (.iload_n 3, 1) := by decide +kernel
theorem dX1_strike_47 : decode cX1_strike 47 = .ok (.invokevirtual 160, 3) := by decide +kernel
theorem dX1_strike_50 : decode cX1_strike 50 = .ok (.ifCond .eq 10, 3) := by decide +kernel
theorem dX1_strike_53 : decode cX1_strike 53 = .ok (.aload_n 1, 1) := by decide +kernel
theorem dX1_strike_54 : decode cX1_strike 54 = .ok (.iload_n 2, 1) := by decide +kernel
theorem dX1_strike_55 : decode cX1_strike 55 = .ok (.invokevirtual 164, 3) := by decide +kernel
theorem dX1_strike_58 : decode cX1_strike 58 = .ok (.iconst 1, 1) := by decide +kernel
theorem dX1_strike_59 : decode cX1_strike 59 = .ok (.ireturn, 1) := by decide +kernel
theorem dX1_strike_60 : decode cX1_strike 60 = .ok (.aload_n 1, 1) := by decide +kernel
theorem dX1_strike_61 : decode cX1_strike 61 = .ok (.iload 4, 2) := by decide +kernel
theorem dX1_strike_63 : decode cX1_strike 63 = .ok (.invokevirtual 168, 3) := by decide +kernel
theorem dX1_strike_66 : decode cX1_strike 66 = .ok (.aload_n 1, 1) := by decide +kernel
theorem dX1_strike_67 : decode cX1_strike 67 = .ok (.getfield 171, 3) := by decide +kernel
theorem dX1_strike_70 : decode cX1_strike 70 = .ok (.iload 5, 2) := by decide +kernel
theorem dX1_strike_72 : decode cX1_strike 72 = .ok (.iload_n 3, 1) := by decide +kernel
theorem dX1_strike_73 : decode cX1_strike 73 = .ok (.aload_n 0, 1) := by decide +kernel
theorem dX1_strike_74 : decode cX1_strike 74 = .ok (.getfield 17, 3) := by decide +kernel
theorem dX1_strike_77 : decode cX1_strike 77 = .ok (.iadd, 1) := by decide +kernel
theorem dX1_strike_78 : decode cX1_strike 78 = .ok (.iastore, 1) := by decide +kernel
theorem dX1_strike_79 : decode cX1_strike 79 = .ok (.iconst 0, 1) := by decide +kernel
theorem dX1_strike_80 : decode cX1_strike 80 = .ok (.ireturn, 1) := by decide +kernel
theorem dX1_mix_0 : decode cX1_mix 0 = .ok (.ldc2_w 174, 3) := by decide +kernel
theorem dX1_mix_3 : decode cX1_mix 3 = .ok (.lload_n 0, 1) := by decide +kernel
theorem dX1_mix_4 : decode cX1_mix 4 = .ok (.lmul, 1) := by decide +kernel
theorem dX1_mix_5 : decode cX1_mix 5 = .ok (.lload_n 2, 1) := by decide +kernel
theorem dX1_mix_6 : decode cX1_mix 6 = .ok (.ladd, 1) := by decide +kernel
theorem dX1_mix_7 : decode cX1_mix 7 = .ok (.lreturn, 1) := by decide +kernel
set_option maxRecDepth 20000 in
theorem ggX1_mixAll_X1_mix : GoodIn wsX1_mixAll wsX1_mix := goodIn_r _ [4, 5] (by decide +kernel) (by decide +kernel)
set_option maxRecDepth 20000 in
theorem gX1_mixAll_X1_mix : GoodIn wsX1_mixAll (va_wsS RX1 123 yX1_mix wsX1_mix) := goodIn_app (goodIn_of _ (by decide +kernel)) ggX1_mixAll_X1_mix
theorem dX1_mixAll_0 : decode cX1_mixAll 0 = .ok (.lload_n 0, 1) := by decide +kernel
theorem dX1_mixAll_1 : decode cX1_mixAll 1 = .ok (.lstore 4, 2) := by decide +kernel
theorem dX1_mixAll_3 : decode cX1_mixAll 3 = .ok (.iconst 0, 1) := by decide +kernel
theorem dX1_mixAll_4 : decode cX1_mixAll 4 = .ok (.istore 6, 2) := by decide +kernel
theorem dX1_mixAll_6 : decode cX1_mixAll 6 = .ok (.iload 6, 2) := by decide +kernel
theorem dX1_mixAll_8 : decode cX1_mixAll 8 = .ok (.iload_n 3, 1) := by decide +kernel
theorem dX1_mixAll_9 : decode cX1_mixAll 9 = .ok (.if_icmp .ge 28, 3) := by decide +kernel
theorem dX1_mixAll_12 : decode cX1_mixAll 12 = .ok (.iload 6, 2) := by decide +kernel
theorem dX1_mixAll_14 : decode cX1_mixAll 14 = .ok (.aload_n 2, 1) := by decide +kernel
theorem dX1_mixAll_15 : decode cX1_mixAll 15 = .ok (.arraylength, 1) := by decide +kernel
theorem dX1_mixAll_16 : decode cX1_mixAll 16 = .ok (.if_icmp .ge 21, 3) := by decide +kernel
theorem dX1_mixAll_19 : decode cX1_mixAll 19 = .ok (.lload 4, 2) := by decide +kernel
theorem dX1_mixAll_21 : decode cX1_mixAll 21 = .ok (.aload_n 2, 1) := by decide +kernel
theorem dX1_mixAll_22 : decode cX1_mixAll 22 = .ok (.iload 6, 2) := by decide +kernel
theorem dX1_mixAll_24 : decode cX1_mixAll 24 = .ok (.iaload, 1) := by decide +kernel
theorem dX1_mixAll_25 : decode cX1_mixAll 25 = .ok (.i2l, 1) := by decide +kernel
theorem dX1_mixAll_26 : decode cX1_mixAll 26 = .ok (.invokestatic 123, 3) := by decide +kernel
theorem dX1_mixAll_29 : decode cX1_mixAll 29 = .ok (.lstore 4, 2) := by decide +kernel
theorem dX1_mixAll_31 : decode cX1_mixAll 31 = .ok (.iinc 6 1, 3) := by decide +kernel
theorem dX1_mixAll_34 : decode cX1_mixAll 34 = .ok (.goto (-28), 3) := by decide +kernel
theorem dX1_mixAll_37 : decode cX1_mixAll 37 = .ok (.lload 4, 2) := by decide +kernel
theorem dX1_mixAll_39 : decode cX1_mixAll 39 = .ok (.lreturn, 1) := by decide +kernel
end
section
theorem dX2_init_0 : decode cX2_init 0 = .ok (.aload_n 0, 1) := by decide +kernel
theorem dX2_init_1 : decode cX2_init 1 = .ok (.invokespecial 1, 3) := by decide +kernel
theorem dX2_init_4 : decode cX2_init 4 = .ok (.aload_n 0, 1) := by decide +kernel
theorem dX2_init_5 : decode cX2_init 5 = .ok (.bipush 60, 2) := by decide +kernel
theorem dX2_init_7 : decode cX2_init 7 = .ok (.newarray .int, 2) := by decide +kernel
theorem dX2_init_9 : decode cX2_init 9 = .ok (.putfield 7, 3) := by decide +kernel
theorem dX2_init_12 : decode cX2_init 12 = .ok (.aload_n 0, 1) := by decide +kernel
theorem dX2_init_13 : decode cX2_init 13 = .ok (.iconst 4, 1) := by decide +kernel
theorem dX2_init_14 : decode cX2_init 14 = .ok (.putfield 13, 3) := by decide +kernel
theorem dX2_init_17 : decode cX2_init 17 = .ok (.aload_n 0, 1) := by decide +kernel
theorem dX2_init_18 : decode cX2_init 18 = .ok (.iconst 2, 1) := by decide +kernel
theorem dX2_init_19 : decode cX2_init 19 = .ok (.putfield 17, 3) := by decide +kernel
theorem dX2_init_22 : decode cX2_init 22 = .ok (.aload_n 0, 1) := by decide +kernel
theorem dX2_init_23 : decode cX2_init 23 = .ok (.bipush 10, 2) := by decide +kernel
theorem dX2_init_25 : decode cX2_init 25 = .ok (.putfield 20, 3) := by decide +kernel
theorem dX2_init_28 : decode cX2_init 28 = .ok (.aload_n 0, 1) := by decide +kernel
theorem dX2_init_29 : decode cX2_init 29 = .ok (.bipush 12, 2) := by decide +kernel
theorem dX2_init_31 : decode cX2_init 31 = .ok (.newarray .int, 2) := by decide +kernel
theorem dX2_init_33 : decode cX2_init 33 = .ok (.putfield 23, 3) := by decide +kernel
theorem dX2_init_36 : decode cX2_init 36 = .ok (.aload_n 0, 1) := by decide +kernel
theorem dX2_init_37 : decode cX2_init 37 = .ok (.bipush 12, 2) := by decide +kernel
theorem dX2_init_39 : decode cX2_init 39 = .ok (.newarray .int, 2) := by decide +kernel
theorem dX2_init_41 : decode cX2_init 41 = .ok (.putfield 26, 3) := by decide +kernel
theorem dX2_init_44 : decode cX2_init 44 = .ok (.aload_n 0, 1) := by decide +kernel
theorem dX2_init_45 : decode cX2_init 45 = .ok (.bipush 31, 2) := by decide +kernel
theorem dX2_init_47 : decode cX2_init 47 = .ok (.newarray .int, 2) := by decide +kernel
theorem dX2_init_49 : decode cX2_init 49 = .ok (.putfield 29, 3) := by decide +kernel
theorem dX2_init_52 : decode cX2_init 52 = .ok (.aload_n 0, 1) := by decide +kernel
theorem dX2_init_53 : decode cX2_init 53 = .ok (.bipush 31, 2) := by decide +kernel
theorem dX2_init_55 : decode cX2_init 55 = .ok (.newarray .int, 2) := by decide +kernel
theorem dX2_init_57 : decode cX2_init 57 = .ok (.putfield 32, 3) := by decide +kernel
theorem dX2_init_60 : decode cX2_init 60 = .ok (.aload_n 0, 1) := by decide +kernel
theorem dX2_init_61 : decode cX2_init 61 = .ok (.bipush 60, 2) := by decide +kernel
theorem dX2_init_63 : decode cX2_init 63 = .ok (.newarray .int, 2) := by decide +kernel
theorem dX2_init_65 : decode cX2_init 65 = .ok (.putfield 35, 3) := by decide +kernel
theorem dX2_init_68 : decode cX2_init 68 = .ok (.aload_n 0, 1) := by decide +kernel
theorem dX2_init_69 : decode cX2_init 69 = .ok (.bipush 60, 2) := by decide +kernel
theorem dX2_init_71 : decode cX2_init 71 = .ok (.newarray .int, 2) := by decide +kernel
theorem dX2_init_73 : decode cX2_init 73 = .ok (.putfield 38, 3) := by decide +kernel
theorem dX2_init_76 : decode cX2_init 76 = .ok (.aload_n 0, 1) := by decide +kernel
theorem dX2_init_77 : decode cX2_init 77 = .ok (.bipush 12, 2) := by decide +kernel
theorem dX2_init_79 : decode cX2_init 79 = .ok (.newarray .int, 2) := by decide +kernel
theorem dX2_init_81 : decode cX2_init 81 = .ok (.putfield 41, 3) := by decide +kernel
theorem dX2_init_84 : decode cX2_init 84 = .ok (.aload_n 0, 1) := by decide +kernel
theorem dX2_init_85 : decode cX2_init 85 = .ok (.bipush 60, 2) := by decide +kernel
theorem dX2_init_87 : decode cX2_init 87 = .ok (.newarray .int, 2) := by decide +kernel
theorem dX2_init_89 : decode cX2_init 89 = .ok (.putfield 44, 3) := by decide +kernel
theorem dX2_init_92 : decode cX2_init 92 = .ok (.iconst 0, 1) := by decide +kernel
theorem dX2_init_93 : decode cX2_init 93 = .ok (.istore_n 1, 1) := by decide +kernel
theorem dX2_init_94 : decode cX2_init 94 = .ok (.iload_n 1, 1) := by decide +kernel
theorem dX2_init_95 : decode cX2_init 95 = .ok (.bipush 12, 2) := by decide +kernel
theorem dX2_init_97 : decode cX2_init 97 = .ok (.if_icmp .ge 23, 3) := by decide +kernel
theorem dX2_init_100 : decode cX2_init 100 = .ok (.aload_n 0, 1) := by decide +kernel
theorem dX2_init_101 : decode cX2_init 101 = .ok (.getfield 23, 3) := by decide +kernel
theorem dX2_init_104 : decode cX2_init 104 = .ok (.iload_n 1, 1) := by decide +kernel
theorem dX2_init_105 : decode cX2_init 105 = .ok (.iload_n 1, 1) := by decide +kernel
theorem dX2_init_106 : decode cX2_init 106 = .ok (.iastore, 1) := by decide +kernel
theorem dX2_init_107 : decode cX2_init 107 = .ok (.aload_n 0, 1) := by decide +kernel
theorem dX2_init_108 : decode cX2_init 108 = .ok (.getfield 26, 3) := by decide +kernel
theorem dX2_init_111 : decode cX2_init 111 = .ok (.iload_n 1, 1) := by decide +kernel
theorem dX2_init_112 : decode cX2_init 112 = .ok (.iload_n 1, 1) := by decide +kernel
theorem dX2_init_113 : decode cX2_init 113 = .ok (.iastore, 1) := by decide +kernel
theorem dX2_init_114 : decode cX2_init 114 = .ok (.iinc 1 1, 3) := by decide +kernel
theorem dX2_init_117 : decode cX2_init 117 = .ok (.goto (-23), 3) := by decide +kernel
theorem dX2_init_120 : decode cX2_init 120 = .ok (.return_, 1) := by decide +kernel
theorem dX2_within_0 : decode cX2_within 0 = .ok (.iload_n 0, 1) := by decide +kernel
theorem dX2_within_1 : decode cX2_within 1 = .ok (.iload_n 1, 1) := by decide +kernel
theorem dX2_within_2 : decode cX2_within 2 = .ok (.if_icmp .lt 12, 3) := by decide +kernel
theorem dX2_within_5 : decode cX2_within 5 = .ok (.iload_n 0, 1) := by decide +kernel
theorem dX2_within_6 : decode cX2_within 6 = .ok (.iload_n 2, 1) := by decide +kernel
theorem dX2_within_7 : decode cX2_within 7 = .ok (.if_icmp .gt 7, 3) := by decide +kernel
theorem dX2_within_10 : decode cX2_within 10 = .ok (.iconst 1, 1) := by decide +kernel
theorem dX2_within_11 : decode cX2_within 11 = .ok (.goto 4, 3) := by decide +kernel
theorem dX2_within_14 : decode cX2_within 14 = .ok (.iconst 0, 1) := by decide +kernel
theorem dX2_within_15 : decode cX2_within 15 = .ok (.ireturn, 1) := by decide +kernel
theorem dX2_apart_0 : decode cX2_apart 0 = .ok (.iload_n 0, 1) := by decide +kernel
theorem dX2_apart_1 : decode cX2_apart 1 = .ok (.iload_n 1, 1) := by decide +kernel
theorem dX2_apart_2 : decode cX2_apart 2 = .ok (.if_icmp .ge 9, 3) := by decide +kernel
theorem dX2_apart_5 : decode cX2_apart 5 = .ok (.iload_n 1, 1) := by decide +kernel
theorem dX2_apart_6 : decode cX2_apart 6 = .ok (.iload_n 0, 1) := by decide +kernel
theorem dX2_apart_7 : decode cX2_apart 7 = .ok (.isub, 1) := by decide +kernel
theorem dX2_apart_8 : decode cX2_apart 8 = .ok (.goto 6, 3) := by decide +kernel
theorem dX2_apart_11 : decode cX2_apart 11 = .ok (.iload_n 0, 1) := by decide +kernel
theorem dX2_apart_12 : decode cX2_apart 12 = .ok (.iload_n 1, 1) := by decide +kernel
theorem dX2_apart_13 : decode cX2_apart 13 = .ok (.isub, 1) := by decide +kernel
theorem dX2_apart_14 : decode cX2_apart 14 = .ok (.ireturn, 1) := by decide +kernel
set_option maxRecDepth 20000 in
theorem ggX2_append_X2_within : GoodIn wsX2_append wsX2_within := goodIn_r _ [8] (by decide +kernel) (by decide +kernel)
set_option maxRecDepth 20000 in
theorem gX2_append_X2_within : GoodIn wsX2_append (va_wsS RX2 47 yX2_within wsX2_within) := goodIn_app (goodIn_of _ (by decide +kernel)) ggX2_append_X2_within
theorem dX2_append_0 : decode cX2_append 0 = .ok (.iload_n 1, 1) := by decide +kernel
theorem dX2_append_1 : decode cX2_append 1 = .ok (.bipush 97, 2) := by decide +kernel
theorem dX2_append_3 : decode cX2_append 3 = .ok (.bipush 108, 2) := by decide +kernel
theorem dX2_append_5 : decode cX2_append 5 = .ok (.invokestatic 47, 3) := by decide +kernel
theorem dX2_append_8 : decode cX2_append 8 = .ok (.ifCond .ne 6, 3) := by decide +kernel
theorem dX2_append_11 : decode cX2_append 11 = .ok (.ldc 51, 2) := by decide +kernel
theorem dX2_append_13 : decode cX2_append 13 = .ok (.ireturn, 1) := by decide +kernel
theorem dX2_append_14 : decode cX2_append 14 = .ok (.aload_n 0, 1) := by decide +kernel
theorem dX2_append_15 : decode cX2_append 15 = .ok (.getfield 52, 3) := by decide +kernel
theorem dX2_append_18 : decode cX2_append 18 = .ok (.bipush 60, 2) := by decide +kernel
theorem dX2_append_20 : decode cX2_append 20 = .ok (.if_icmp .ne 6, 3) := by decide +kernel
theorem dX2_append_23 : decode cX2_append 23 = .ok (.ldc 55, 2) := by decide +kernel
theorem dX2_append_25 : decode cX2_append 25 = .ok (.ireturn, 1) := by decide +kernel
theorem dX2_append_26 : decode cX2_append 26 = .ok (.aload_n 0, 1) := by decide +kernel
theorem dX2_append_27 : decode cX2_append 27 = .ok (.getfield 7, 3) := by decide +kernel
theorem dX2_append_30 : decode cX2_append 30 = .ok (.aload_n 0, 1) := by decide +kernel
theorem dX2_append_31 : decode cX2_append 31 = .ok (.getfield 52, 3) := by decide +kernel
theorem dX2_append_34 : decode cX2_append 34 = .ok (.iload_n 1, 1) := by decide +kernel
theorem dX2_append_35 : decode cX2_append 35 = .ok (.bipush 97, 2) := by decide +kernel
theorem dX2_append_37 : decode cX2_append 37 = .ok (.isub, 1) := by decide +kernel
theorem dX2_append_38 : decode cX2_append 38 = .ok (.iastore, 1) := by decide +kernel
theorem dX2_append_39 : decode cX2_append 39 = .ok (.aload_n 0, 1) := by decide +kernel
theorem dX2_append_40 : decode cX2_append 40 = .ok (.dup, 1) := by decide +kernel
theorem dX2_append_41 : decode cX2_append 41 = .ok (.getfield 52, 3) := by decide +kernel
theorem dX2_append_44 : decode cX2_append 44 = .ok (.iconst 1, 1) := by decide +kernel
theorem dX2_append_45 : decode cX2_append 45 = .ok (.iadd, 1) := by decide +kernel
theorem dX2_append_46 : decode cX2_append 46 = .ok (.putfield 52, 3) := by decide +kernel
theorem dX2_append_49 : decode cX2_append 49 = .ok (.aload_n 0, 1) := by decide +kernel
theorem dX2_append_50 : decode cX2_append 50 = .ok (.getfield 52, 3) := by decide +kernel
theorem dX2_append_53 : decode cX2_append 53 = .ok (.ireturn, 1) := by decide +kernel
theorem dX2_clearText_0 : decode cX2_clearText 0 = .ok (.aload_n 0, 1) := by decide +kernel
theorem dX2_clearText_1 : decode cX2_clearText 1 = .ok (.getfield 52, 3) := by decide +kernel
theorem dX2_clearText_4 : decode cX2_clearText 4 = .ok (.istore_n 1, 1) := by decide +kernel
theorem dX2_clearText_5 : decode cX2_clearText 5 = .ok (.aload_n 0, 1) := by decide +kernel
theorem dX2_clearText_6 : decode cX2_clearText 6 = .ok (.iconst 0, 1) := by decide +kernel
theorem dX2_clearText_7 : decode cX2_clearText 7 = .ok (.putfield 52, 3) := by decide +kernel
theorem dX2_clearText_10 : decode cX2_clearText 10 = .ok (.iload_n 1, 1) := by decide +kernel
theorem dX2_clearText_11 : decode cX2_clearText 11 = .ok (.ireturn, 1) := by decide +kernel
set_option maxRecDepth 20000 in
theorem ggX2_isLetter_X2_within : GoodIn wsX2_isLetter wsX2_within := goodIn_r _ [4] (by decide +kernel) (by decide +kernel)
set_option maxRecDepth 20000 in
theorem gX2_isLetter_X2_within : GoodIn wsX2_isLetter (va_wsS RX2 47 yX2_within wsX2_within) := goodIn_app (goodIn_of _ (by decide +kernel)) ggX2_isLetter_X2_within
theorem dX2_isLetter_0 : decode cX2_isLetter 0 = .ok (.iload_n 0, 1) := by decide +kernel
theorem dX2_isLetter_1 : decode cX2_isLetter 1 = .ok (.iconst 0, 1) := by decide +kernel
theorem dX2_isLetter_2 : decode cX2_isLetter 2 = .ok (.bipush 11, 2) := by decide +kernel
theorem dX2_isLetter_4 : decode cX2_isLetter 4 = .ok (.invokestatic 47, 3) := by decide +kernel
theorem dX2_isLetter_7 : decode cX2_isLetter 7 = .ok (.ireturn, 1) := by decide +kernel
set_option maxRecDepth 20000 in
theorem ggX2_pairCount_X2_isLetter : GoodIn wsX2_pairCount wsX2_isLetter := goodIn_r _ [7, 8, 9, 6, 10] (by decide +kernel) (by decide +kernel)
set_option maxRecDepth 20000 in
theorem gX2_pairCount_X2_isLetter : GoodIn wsX2_pairCount (va_wsS RX2 56 yX2_isLetter wsX2_isLetter) := goodIn_app (goodIn_of _ (by decide +kernel)) ggX2_pairCount_X2_isLetter
theorem dX2_pairCount_0 : decode cX2_pairCount 0 = .ok (.iload_n 1, 1) := by decide +kernel
theorem dX2_pairCount_1 : decode cX2_pairCount 1 = .ok (.invokestatic 56, 3) := by decide +kernel
theorem dX2_pairCount_4 : decode cX2_pairCount 4 = .ok (.ifCond .eq 10, 3) := by decide +kernel
theorem dX2_pairCount_7 : decode cX2_pairCount 7 = .ok (.iload_n 2, 1) := by decide +kernel
theorem dX2_pairCount_8 : decode cX2_pairCount 8 = .ok (.invokestatic 56, 3) := by decide +kernel
theorem dX2_pairCount_11 : decode cX2_pairCount 11 = .ok (.ifCond .ne 6, 3) := by decide +kernel
theorem dX2_pairCount_14 : decode cX2_pairCount 14 = .ok (.ldc 60, 2) := by decide +kernel
theorem dX2_pairCount_16 : decode cX2_pairCount 16 = .ok (.ireturn, 1) := by decide +kernel
theorem dX2_pairCount_17 : decode cX2_pairCount 17 = .ok (.iconst 0, 1) := by decide +kernel
theorem dX2_pairCount_18 : decode cX2_pairCount 18 = .ok (.istore_n 3, 1) := by decide +kernel
theorem dX2_pairCount_19 : decode cX2_pairCount 19 = .ok (.iconst 1, 1) := by decide +kernel
theorem dX2_pairCount_20 : decode cX2_pairCount 20 = .ok (.istore 4, 2) := by decide +kernel
theorem dX2_pairCount_22 : decode cX2_pairCount 22 = .ok (.iload 4, 2) := by decide +kernel
theorem dX2_pairCount_24 : decode cX2_pairCount 24 = .ok (.aload_n 0, 1) := by decide +kernel
theorem dX2_pairCount_25 : decode cX2_pairCount 25 = .ok (.getfield 52, 3) := by decide +kernel
theorem dX2_pairCount_28 : decode cX2_pairCount 28 = .ok (.if_icmp .ge 89, 3) := by decide +kernel
theorem dX2_pairCount_31 : decode cX2_pairCount 31 = .ok (.aload_n 0, 1) := by decide +kernel
theorem dX2_pairCount_32 : decode cX2_pairCount 32 = .ok (.getfield 7, 3) := by decide +kernel
theorem dX2_pairCount_35 : decode cX2_pairCount 35 = .ok (.iload 4, 2) := by decide +kernel
theorem dX2_pairCount_37 : decode cX2_pairCount 37 = .ok (.iconst 1, 1) := by decide +kernel
theorem dX2_pairCount_38 : decode cX2_pairCount 38 = .ok (.isub, 1) := by decide +kernel
theorem dX2_pairCount_39 : decode cX2_pairCount 39 = .ok (.iaload, 1) := by decide +kernel
theorem dX2_pairCount_40 : decode cX2_pairCount 40 = .ok (.iload_n 1, 1) := by decide +kernel
theorem dX2_pairCount_41 : decode cX2_pairCount 41 = .ok (.if_icmp .ne 18, 3) := by decide +kernel
theorem dX2_pairCount_44 : decode cX2_pairCount 44 = .ok (.aload_n 0, 1) := by decide +kernel
theorem dX2_pairCount_45 : decode cX2_pairCount 45 = .ok (.getfield 7, 3) := by decide +kernel
theorem dX2_pairCount_48 : decode cX2_pairCount 48 = .ok (.iload 4, 2) := by decide +kernel
theorem dX2_pairCount_50 : decode cX2_pairCount 50 = .ok (.iaload, 1) := by decide +kernel
theorem dX2_pairCount_51 : decode cX2_pairCount 51 = .ok (.iload_n 2, 1) := by decide +kernel
theorem dX2_pairCount_52 : decode cX2_pairCount 52 = .ok (.if_icmp .ne 7, 3) := by decide +kernel
theorem dX2_pairCount_55 : decode cX2_pairCount 55 = .ok (.iconst 1, 1) := by decide +kernel
theorem dX2_pairCount_56 : decode cX2_pairCount 56 = .ok (.goto 4, 3) := by decide +kernel
theorem dX2_pairCount_59 : decode cX2_pairCount 59 = .ok (.iconst 0, 1) := by decide +kernel
theorem dX2_pairCount_60 : decode cX2_pairCount 60 = .ok (.istore 5, 2) := by decide +kernel
theorem dX2_pairCount_62 : decode cX2_pairCount 62 = .ok (.aload_n 0, 1) := by decide +kernel
theorem dX2_pairCount_63 : decode cX2_pairCount 63 = .ok (.getfield 7, 3) := by decide +kernel
theorem dX2_pairCount_66 : decode cX2_pairCount 66 = .ok (.iload 4, 2) := by decide +kernel
theorem dX2_pairCount_68 : decode cX2_pairCount 68 = .ok (.iconst 1, 1) := by decide +kernel
theorem dX2_pairCount_69 : decode cX2_pairCount 69 = .ok (.isub, 1) := by decide +kernel
theorem dX2_pairCount_70 : decode cX2_pairCount 70 = .ok (.iaload, 1) := by decide +kernel
theorem dX2_pairCount_71 : decode cX2_pairCount 71 = .ok (.iload_n 2, 1) := by decide +kernel
theorem dX2_pairCount_72 : decode cX2_pairCount 72 = .ok (.if_icmp .ne 18, 3) := by decide +kernel
theorem dX2_pairCount_75 : decode cX2_pairCount 75 = .ok (.aload_n 0, 1) := by decide +kernel
theorem dX2_pairCount_76 : decode cX2_pairCount 76 = .ok (.getfield 7, 3) := by decide +kernel
theorem dX2_pairCount_79 : decode cX2_pairCount 79 = .ok (.iload 4, 2) := by decide +kernel
theorem dX2_pairCount_81 : decode cX2_pairCount 81 = .ok (.iaload, 1) := by decide +kernel
theorem dX2_pairCount_82 : decode cX2_pairCount 82 = .ok (.iload_n 1, 1) := by decide +kernel
theorem dX2_pairCount_83 : decode cX2_pairCount 83 = .ok (.if_icmp .ne 7, 3) := by decide +kernel
theorem dX2_pairCount_86 : decode cX2_pairCount 86 = .ok (.iconst 1, 1) := by decide +kernel
theorem dX2_pairCount_87 : decode cX2_pairCount 87 = .ok (.goto 4, 3) := by decide +kernel
theorem dX2_pairCount_90 : decode cX2_pairCount 90 = .ok (.iconst 0, 1) := by decide +kernel
theorem dX2_pairCount_91 : decode cX2_pairCount 91 = .ok (.istore 6, 2) := by decide +kernel
theorem dX2_pairCount_93 : decode cX2_pairCount 93 = .ok (.iload_n 3, 1) := by decide +kernel
theorem dX2_pairCount_94 : decode cX2_pairCount 94 = .ok (.iload 5, 2) := by decide +kernel
theorem dX2_pairCount_96 : decode cX2_pairCount 96 = .ok (.ifCond .ne 8, 3) := by decide +kernel
theorem dX2_pairCount_99 : decode cX2_pairCount 99 = .ok (.iload 6, 2) := by decide +kernel
theorem dX2_pairCount_101 : decode cX2_pairCount 101 = .ok (.ifCond .eq 7, 3) := by decide +kernel
theorem dX2_pairCount_104 : decode cX2_pairCount 104 = .ok (.iconst 1, 1) := by decide +kernel
theorem dX2_pairCount_105 : decode cX2_pairCount 105 = .ok (.goto 4, 3) := by decide +kernel
theorem dX2_pairCount_108 : decode cX2_pairCount 108 = .ok (.iconst 0, 1) := by decide +kernel
theorem dX2_pairCount_109 : decode cX2_pairCount 109 = .ok (.iadd, 1) := by decide +kernel
theorem dX2_pairCount_110 : decode cX2_pairCount 110 = .ok (.istore_n 3, 1) := by decide +kernel
theorem dX2_pairCount_111 : decode cX2_pairCount 111 = .ok (.iinc 4 1, 3) := by decide +kernel
theorem dX2_pairCount_114 : decode cX2_pairCount 114 = .ok (.goto (-92), 3) := by decide +kernel
theorem dX2_pairCount_117 : decode cX2_pairCount 117 = .ok (.iload_n 3, 1) := by decide +kernel
theorem dX2_pairCount_118 : decode cX2_pairCount 118 = .ok (.ireturn, 1) := by decide +kernel
set_option maxRecDepth 20000 in
theorem ggX2_setTravelTime_X2_within : GoodIn wsX2_setTravelTime wsX2_within := goodIn_r _ [6] (by decide +kernel) (by decide +kernel)
set_option maxRecDepth 20000 in
theorem gX2_setTravelTime_X2_within : GoodIn wsX2_setTravelTime (va_wsS RX2 47 yX2_within wsX2_within) := goodIn_app (goodIn_of _ (by decide +kernel)) ggX2_setTravelTime_X2_within
theorem dX2_setTravelTime_0 : decode cX2_setTravelTime 0 = .ok (.iload_n 1, 1) := by decide +kernel
theorem dX2_setTravelTime_1 : decode cX2_setTravelTime 1 = .ok (.iconst 1, 1) := by decide +kernel
theorem dX2_setTravelTime_2 : decode cX2_setTravelTime 2 = .ok (.bipush 20, 2) := by decide +kernel
theorem dX2_setTravelTime_4 : decode cX2_setTravelTime 4 = .ok (.invokestatic 47, 3) := by decide +kernel
theorem dX2_setTravelTime_7 : decode cX2_setTravelTime 7 = .ok (.ifCond .ne 6, 3) := by decide +kernel
theorem dX2_setTravelTime_10 : decode cX2_setTravelTime 10 = .ok (.ldc 60, 2) := by decide +kernel
theorem dX2_setTravelTime_12 : decode cX2_setTravelTime 12 = .ok (.ireturn, 1) := by decide +kernel
theorem dX2_setTravelTime_13 : decode cX2_setTravelTime 13 = .ok (.aload_n 0, 1) := by decide +kernel
theorem dX2_setTravelTime_14 : decode cX2_setTravelTime 14 = .ok (.getfield 13, 3) := by decide +kernel
theorem dX2_setTravelTime_17 : decode cX2_setTravelTime 17 = .ok (.istore_n 2, 1) := by decide +kernel
theorem dX2_setTravelTime_18 : decode cX2_setTravelTime 18 = .ok (.aload_n 0, 1) := by decide +kernel
theorem dX2_setTravelTime_19 : decode cX2_setTravelTime 19 = .ok (.iload_n 1, 1) := by decide +kernel
theorem dX2_setTravelTime_20 : decode cX2_setTravelTime 20 = .ok (.putfield 13, 3) := by decide +kernel
theorem dX2_setTravelTime_23 : decode cX2_setTravelTime 23 = .ok (.iload_n 2, 1) := by decide +kernel
theorem dX2_setTravelTime_24 : decode cX2_setTravelTime 24 = .ok (.ireturn, 1) := by decide +kernel
set_option maxRecDepth 20000 in
theorem ggX2_setClashDistance_X2_within : GoodIn wsX2_setClashDistance wsX2_within := goodIn_r _ [6] (by decide +kernel) (by decide +kernel)
set_option maxRecDepth 20000 in
theorem gX2_setClashDistance_X2_within : GoodIn wsX2_setClashDistance (va_wsS RX2 47 yX2_within wsX2_within) := goodIn_app (goodIn_of _ (by decide +kernel)) ggX2_setClashDistance_X2_within
theorem dX2_setClashDistance_0 : decode cX2_setClashDistance 0 = .ok (.iload_n 1, 1) := by decide +kernel
theorem dX2_setClashDistance_1 : decode cX2_setClashDistance 1 = .ok (.iconst 1, 1) := by decide +kernel
theorem dX2_setClashDistance_2 : decode cX2_setClashDistance 2 = .ok (.iconst 5, 1) := by decide +kernel
theorem dX2_setClashDistance_3 : decode cX2_setClashDistance 3 = .ok (.invokestatic 47, 3) := by decide +kernel
theorem dX2_setClashDistance_6 : decode cX2_setClashDistance 6 = .ok (.ifCond .ne 6, 3) := by decide +kernel
theorem dX2_setClashDistance_9 : decode cX2_setClashDistance 9 = .ok (.ldc 60, 2) := by decide +kernel
theorem dX2_setClashDistance_11 : decode cX2_setClashDistance 11 = .ok (.ireturn, 1) := by decide +kernel
theorem dX2_setClashDistance_12 : decode cX2_setClashDistance 12 = .ok (.aload_n 0, 1) := by decide +kernel
theorem dX2_setClashDistance_13 : decode cX2_setClashDistance 13 = .ok (.getfield 17, 3) := by decide +kernel
theorem dX2_setClashDistance_16 : decode cX2_setClashDistance 16 = .ok (.istore_n 2, 1) := by decide +kernel
theorem dX2_setClashDistance_17 : decode cX2_setClashDistance 17 = .ok (.aload_n 0, 1) := by decide +kernel
theorem dX2_setClashDistance_18 : decode cX2_setClashDistance 18 = .ok (.iload_n 1, 1) := by decide +kernel
theorem dX2_setClashDistance_19 : decode cX2_setClashDistance 19 = .ok (.putfield 17, 3) := by decide +kernel
theorem dX2_setClashDistance_22 : decode cX2_setClashDistance 22 = .ok (.iload_n 2, 1) := by decide +kernel
theorem dX2_setClashDistance_23 : decode cX2_setClashDistance 23 = .ok (.ireturn, 1) := by decide +kernel
set_option maxRecDepth 20000 in
theorem ggX2_setClearingTime_X2_within : GoodIn wsX2_setClearingTime wsX2_within := goodIn_r _ [6] (by decide +kernel) (by decide +kernel)
set_option maxRecDepth 20000 in
theorem gX2_setClearingTime_X2_within : GoodIn wsX2_setClearingTime (va_wsS RX2 47 yX2_within wsX2_within) := goodIn_app (goodIn_of _ (by decide +kernel)) ggX2_setClearingTime_X2_within
theorem dX2_setClearingTime_0 : decode cX2_setClearingTime 0 = .ok (.iload_n 1, 1) := by decide +kernel
theorem dX2_setClearingTime_1 : decode cX2_setClearingTime 1 = .ok (.iconst 0, 1) := by decide +kernel
theorem dX2_setClearingTime_2 : decode cX2_setClearingTime 2 = .ok (.bipush 50, 2) := by decide +kernel
theorem dX2_setClearingTime_4 : decode cX2_setClearingTime 4 = .ok (.invokestatic 47, 3) := by decide +kernel
theorem dX2_setClearingTime_7 : decode cX2_setClearingTime 7 = .ok (.ifCond .ne 6, 3) := by decide +kernel
theorem dX2_setClearingTime_10 : decode cX2_setClearingTime 10 = .ok (.ldc 60, 2) := by decide +kernel
theorem dX2_setClearingTime_12 : decode cX2_setClearingTime 12 = .ok (.ireturn, 1) := by decide +kernel
theorem dX2_setClearingTime_13 : decode cX2_setClearingTime 13 = .ok (.aload_n 0, 1) := by decide +kernel
theorem dX2_setClearingTime_14 : decode cX2_setClearingTime 14 = .ok (.getfield 20, 3) := by decide +kernel
theorem dX2_setClearingTime_17 : decode cX2_setClearingTime 17 = .ok (.istore_n 2, 1) := by decide +kernel
theorem dX2_setClearingTime_18 : decode cX2_setClearingTime 18 = .ok (.aload_n 0, 1) := by decide +kernel
theorem dX2_setClearingTime_19 : decode cX2_setClearingTime 19 = .ok (.iload_n 1, 1) := by decide +kernel
theorem dX2_setClearingTime_20 : decode cX2_setClearingTime 20 = .ok (.putfield 20, 3) := by decide +kernel
theorem dX2_setClearingTime_23 : decode cX2_setClearingTime 23 = .ok (.iload_n 2, 1) := by decide +kernel
theorem dX2_setClearingTime_24 : decode cX2_setClearingTime 24 = .ok (.ireturn, 1) := by decide +kernel
theorem dX2_isLayout_0 : decode cX2_isLayout 0 = .ok (.iconst 0, 1) := by decide +kernel
theorem dX2_isLayout_1 : decode cX2_isLayout 1 = .ok (.istore_n 1, 1) := by decide +kernel
theorem dX2_isLayout_2 : decode cX2_isLayout 2 = .ok (.iconst 0, 1) := by decide +kernel
theorem dX2_isLayout_3 : decode cX2_isLayout 3 = .ok (.istore_n 2, 1) := by decide +kernel
theorem dX2_isLayout_4 : decode cX2_isLayout 4 = .ok (.iload_n 2, 1) := by decide +kernel
theorem dX2_isLayout_5 : decode cX2_isLayout 5 = .ok (.aload_n 0, 1) := by decide +kernel
theorem dX2_isLayout_6 : decode cX2_isLayout 6 = .ok (.getfield 52, 3) := by decide +kernel
theorem dX2_isLayout_9 : decode cX2_isLayout 9 = .ok (.if_icmp .ge 20, 3) := by decide +kernel
theorem dX2_isLayout_12 : decode cX2_isLayout 12 = .ok (.iload_n 1, 1) := by decide +kernel
theorem dX2_isLayout_13 : decode cX2_isLayout 13 = .ok (.iconst 1, 1) := by decide +kernel
theorem dX2_isLayout_14 : decode cX2_isLayout 14 = .ok (.aload_n 0, 1) := by decide +kernel
theorem dX2_isLayout_15 : decode cX2_isLayout 15 = .ok (.getfield 7, 3) := by decide +kernel
theorem dX2_isLayout_18 : decode cX2_isLayout 18 = .ok (.iload_n 2, 1) := by decide +kernel
theorem dX2_isLayout_19 : decode cX2_isLayout 19 = .ok (.iaload, 1) := by decide +kernel
theorem dX2_isLayout_20 : decode cX2_isLayout 20 = .ok (.ishl, 1) := by decide +kernel
theorem dX2_isLayout_21 : decode cX2_isLayout 21 = .ok (.ior, 1) := by decide +kernel
theorem dX2_isLayout_22 : decode cX2_isLayout 22 = .ok (.istore_n 1, 1) := by decide +kernel
theorem dX2_isLayout_23 : decode cX2_isLayout 23 = .ok (.iinc 2 1, 3) := by decide +kernel
theorem dX2_isLayout_26 : decode cX2_isLayout 26 = .ok (.goto (-22), 3) := by decide +kernel
theorem dX2_isLayout_29 : decode cX2_isLayout 29 = .ok (.aload_n 0, 1) := by decide +kernel
theorem dX2_isLayout_30 : decode cX2_isLayout 30 = .ok (.getfield 52, 3) := by decide +kernel
theorem dX2_isLayout_33 : decode cX2_isLayout 33 = .ok (.bipush 12, 2) := by decide +kernel
theorem dX2_isLayout_35 : decode cX2_isLayout 35 = .ok (.if_icmp .ne 14, 3) := by decide +kernel
theorem dX2_isLayout_38 : decode cX2_isLayout 38 = .ok (.iload_n 1, 1) := by decide +kernel
theorem dX2_isLayout_39 : decode cX2_isLayout 39 = .ok (.sipush 4095, 3) := by decide +kernel
theorem dX2_isLayout_42 : decode cX2_isLayout 42 = .ok (.if_icmp .ne 7, 3) := by decide +kernel
theorem dX2_isLayout_45 : decode cX2_isLayout 45 = .ok (.iconst 1, 1) := by decide +kernel
theorem dX2_isLayout_46 : decode cX2_isLayout 46 = .ok (.goto 4, 3) := by decide +kernel
theorem dX2_isLayout_49 : decode cX2_isLayout 49 = .ok (.iconst 0, 1) := by decide +kernel
theorem dX2_isLayout_50 : decode cX2_isLayout 50 = .ok (.ireturn, 1) := by decide +kernel
set_option maxRecDepth 20000 in
theorem ggX2_loadLayout_X2_isLayout : GoodIn wsX2_loadLayout wsX2_isLayout := goodIn_r _ [11, 5, 3, 12, 13, 14, 15, 16, 17, 18, 19, 20, 21, 22, 23, 24, 25, 26, 27, 28, 29, 30, 31] (by decide +kernel) (by decide +kernel)
set_option maxRecDepth 20000 in
theorem gX2_loadLayout_X2_isLayout : GoodIn wsX2_loadLayout (wsV RX2 61 RX2 yX2_isLayout wsX2_isLayout) := goodIn_app (goodIn_of _ (by decide +kernel)) ggX2_loadLayout_X2_isLayout
theorem dX2_loadLayout_0 : decode cX2_loadLayout 0 = .ok (.aload_n 0, 1) := by decide +kernel
theorem dX2_loadLayout_1 : decode cX2_loadLayout 1 = .ok (.invokevirtual 61, 3) := by decide +kernel
theorem dX2_loadLayout_4 : decode cX2_loadLayout 4 = .ok (.ifCond .ne 6, 3) := by decide +kernel
theorem dX2_loadLayout_7 : decode cX2_loadLayout 7 = .ok (.ldc 65, 2) := by decide +kernel
theorem dX2_loadLayout_9 : decode cX2_loadLayout 9 = .ok (.ireturn, 1) := by decide +kernel
theorem dX2_loadLayout_10 : decode cX2_loadLayout 10 = .ok (.iconst 0, 1) := by decide +kernel
theorem dX2_loadLayout_11 : decode cX2_loadLayout 11 = .ok (.istore_n 1, 1) := by decide +kernel
theorem dX2_loadLayout_12 : decode cX2_loadLayout 12 = .ok (.iload_n 1, 1) := by decide +kernel
theorem dX2_loadLayout_13 : decode cX2_loadLayout 13 = .ok (.bipush 12, 2) := by decide +kernel
theorem dX2_loadLayout_15 : decode cX2_loadLayout 15 = .ok (.if_icmp .ge 33, 3) := by decide +kernel
theorem dX2_loadLayout_18 : decode cX2_loadLayout 18 = .ok (.aload_n 0, 1) := by decide +kernel
theorem dX2_loadLayout_19 : decode cX2_loadLayout 19 = .ok (.getfield 26, 3) := by decide +kernel
theorem dX2_loadLayout_22 : decode cX2_loadLayout 22 = .ok (.iload_n 1, 1) := by decide +kernel
theorem dX2_loadLayout_23 : decode cX2_loadLayout 23 = .ok (.aload_n 0, 1) := by decide +kernel
theorem dX2_loadLayout_24 : decode cX2_loadLayout 24 = .ok (.getfield 7, 3) := by decide +kernel
theorem dX2_loadLayout_27 : decode cX2_loadLayout 27 = .ok (.iload_n 1, 1) := by decide +kernel
theorem dX2_loadLayout_28 : decode cX2_loadLayout 28 = .ok (.iaload, 1) := by decide +kernel
theorem dX2_loadLayout_29 : decode cX2_loadLayout 29 = .ok (.iastore, 1) := by decide +kernel
theorem dX2_loadLayout_30 : decode cX2_loadLayout 30 = .ok (.aload_n 0, 1) := by decide +kernel
theorem dX2_loadLayout_31 : decode cX2_loadLayout 31 = .ok (.getfield 23, 3) := by decide +kernel
theorem dX2_loadLayout_34 : decode cX2_loadLayout 34 = .ok (.aload_n 0, 1) := by decide +kernel
theorem dX2_loadLayout_35 : decode cX2_loadLayout 35 = .ok (.getfield 7, 3) := by decide +kernel
theorem dX2_loadLayout_38 : decode cX2_loadLayout 38 = .ok (.iload_n 1, 1) := by decide +kernel
theorem dX2_loadLayout_39 : decode cX2_loadLayout 39 = .ok (.iaload, 1) := by decide +kernel
theorem dX2_loadLayout_40 : decode cX2_loadLayout 40 = .ok (.iload_n 1, 1) := by decide +kernel
theorem dX2_loadLayout_41 : decode cX2_loadLayout 41 = .ok (.iastore, 1) := by decide +kernel
theorem dX2_loadLayout_42 : decode cX2_loadLayout 42 = .ok (.iinc 1 1, 3) := by decide +kernel
theorem dX2_loadLayout_45 : decode cX2_loadLayout 45 = .ok (.goto (-33), 3) := by decide +kernel
theorem dX2_loadLayout_48 : decode cX2_loadLayout 48 = .ok (.aload_n 0, 1) := by decide +kernel
theorem dX2_loadLayout_49 : decode cX2_loadLayout 49 = .ok (.iconst 0, 1) := by decide +kernel
theorem dX2_loadLayout_50 : decode cX2_loadLayout 50 = .ok (.putfield 52, 3) := by decide +kernel
theorem dX2_loadLayout_53 : decode cX2_loadLayout 53 = .ok (.aload_n 0, 1) := by decide +kernel
theorem dX2_loadLayout_54 : decode cX2_loadLayout 54 = .ok (.iconst 0, 1) := by decide +kernel
theorem dX2_loadLayout_55 : decode cX2_loadLayout 55 = .ok (.putfield 66, 3) := by decide +kernel
theorem dX2_loadLayout_58 : decode cX2_loadLayout 58 = .ok (.bipush 12, 2) := by decide +kernel
theorem dX2_loadLayout_60 : decode cX2_loadLayout 60 = .ok (.ireturn, 1) := by decide +kernel
set_option maxRecDepth 20000 in
theorem ggX2_letterAt_X2_within : GoodIn wsX2_letterAt wsX2_within := goodIn_r _ [6] (by decide +kernel) (by decide +kernel)
set_option maxRecDepth 20000 in
theorem gX2_letterAt_X2_within : GoodIn wsX2_letterAt (va_wsS RX2 47 yX2_within wsX2_within) := goodIn_app (goodIn_of _ (by decide +kernel)) ggX2_letterAt_X2_within
theorem dX2_letterAt_0 : decode cX2_letterAt 0 = .ok (.iload_n 1, 1) := by decide +kernel
theorem dX2_letterAt_1 : decode cX2_letterAt 1 = .ok (.iconst 0, 1) := by decide +kernel
theorem dX2_letterAt_2 : decode cX2_letterAt 2 = .ok (.bipush 11, 2) := by decide +kernel
theorem dX2_letterAt_4 : decode cX2_letterAt 4 = .ok (.invokestatic 47, 3) := by decide +kernel
theorem dX2_letterAt_7 : decode cX2_letterAt 7 = .ok (.ifCond .eq 12, 3) := by decide +kernel
theorem dX2_letterAt_10 : decode cX2_letterAt 10 = .ok (.aload_n 0, 1) := by decide +kernel
theorem dX2_letterAt_11 : decode cX2_letterAt 11 = .ok (.getfield 26, 3) := by decide +kernel
theorem dX2_letterAt_14 : decode cX2_letterAt 14 = .ok (.iload_n 1, 1) := by decide +kernel
theorem dX2_letterAt_15 : decode cX2_letterAt 15 = .ok (.iaload, 1) := by decide +kernel
theorem dX2_letterAt_16 : decode cX2_letterAt 16 = .ok (.goto 5, 3) := by decide +kernel
theorem dX2_letterAt_19 : decode cX2_letterAt 19 = .ok (.ldc 60, 2) := by decide +kernel
theorem dX2_letterAt_21 : decode cX2_letterAt 21 = .ok (.ireturn, 1) := by decide +kernel
set_option maxRecDepth 20000 in
theorem ggX2_positionOf_X2_isLetter : GoodIn wsX2_positionOf wsX2_isLetter := goodIn_r _ [6, 7, 8, 5, 9] (by decide +kernel) (by decide +kernel)
set_option maxRecDepth 20000 in
theorem gX2_positionOf_X2_isLetter : GoodIn wsX2_positionOf (va_wsS RX2 56 yX2_isLetter wsX2_isLetter) := goodIn_app (goodIn_of _ (by decide +kernel)) ggX2_positionOf_X2_isLetter
theorem dX2_positionOf_0 : decode cX2_positionOf 0 = .ok (.iload_n 1, 1) := by decide +kernel
theorem dX2_positionOf_1 : decode cX2_positionOf 1 = .ok (.invokestatic 56, 3) := by decide +kernel
theorem dX2_positionOf_4 : decode cX2_positionOf 4 = .ok (.ifCond .eq 12, 3) := by decide +kernel
theorem dX2_positionOf_7 : decode cX2_positionOf 7 = .ok (.aload_n 0, 1) := by decide +kernel
theorem dX2_positionOf_8 : decode cX2_positionOf 8 = .ok (.getfield 23, 3) := by decide +kernel
theorem dX2_positionOf_11 : decode cX2_positionOf 11 = .ok (.iload_n 1, 1) := by decide +kernel
theorem dX2_positionOf_12 : decode cX2_positionOf 12 = .ok (.iaload, 1) := by decide +kernel
theorem dX2_positionOf_13 : decode cX2_positionOf 13 = .ok (.goto 5, 3) := by decide +kernel
theorem dX2_positionOf_16 : decode cX2_positionOf 16 = .ok (.ldc 60, 2) := by decide +kernel
theorem dX2_positionOf_18 : decode cX2_positionOf 18 = .ok (.ireturn, 1) := by decide +kernel
theorem dX2_exchange_0 : decode cX2_exchange 0 = .ok (.aload_n 0, 1) := by decide +kernel
theorem dX2_exchange_1 : decode cX2_exchange 1 = .ok (.getfield 26, 3) := by decide +kernel
theorem dX2_exchange_4 : decode cX2_exchange 4 = .ok (.iload_n 1, 1) := by decide +kernel
theorem dX2_exchange_5 : decode cX2_exchange 5 = .ok (.iaload, 1) := by decide +kernel
theorem dX2_exchange_6 : decode cX2_exchange 6 = .ok (.istore_n 3, 1) := by decide +kernel
theorem dX2_exchange_7 : decode cX2_exchange 7 = .ok (.aload_n 0, 1) := by decide +kernel
theorem dX2_exchange_8 : decode cX2_exchange 8 = .ok (.getfield 26, 3) := by decide +kernel
theorem dX2_exchange_11 : decode cX2_exchange 11 = .ok (.iload_n 1, 1) := by decide +kernel
theorem dX2_exchange_12 : decode cX2_exchange 12 = .ok (.aload_n 0, 1) := by decide +kernel
theorem dX2_exchange_13 : decode cX2_exchange 13 = .ok (.getfield 26, 3) := by decide +kernel
theorem dX2_exchange_16 : decode cX2_exchange 16 = .ok (.iload_n 2, 1) := by decide +kernel
theorem dX2_exchange_17 : decode cX2_exchange 17 = .ok (.iaload, 1) := by decide +kernel
theorem dX2_exchange_18 : decode cX2_exchange 18 = .ok (.iastore, 1) := by decide +kernel
theorem dX2_exchange_19 : decode cX2_exchange 19 = .ok (.aload_n 0, 1) := by decide +kernel
theorem dX2_exchange_20 : decode cX2_exchange 20 = .ok (.getfield 26, 3) := by decide +kernel
theorem dX2_exchange_23 : decode cX2_exchange 23 = .ok (.iload_n 2, 1) := by decide +kernel
theorem dX2_exchange_24 : decode cX2_exchange 24 = .ok (.iload_n 3, 1) := by decide +kernel
theorem dX2_exchange_25 : decode cX2_exchange 25 = .ok (.iastore, 1) := by decide +kernel
theorem dX2_exchange_26 : decode cX2_exchange 26 = .ok (.aload_n 0, 1) := by decide +kernel
theorem dX2_exchange_27 : decode cX2_exchange 27 = .ok (.getfield 23, 3) := by decide +kernel
theorem dX2_exchange_30 : decode cX2_exchange 30 = .ok (.aload_n 0, 1) := by decide +kernel
theorem dX2_exchange_31 : decode cX2_exchange 31 = .ok (.getfield 26, 3) := by decide +kernel
theorem dX2_exchange_34 : decode cX2_exchange 34 = .ok (.iload_n 1, 1) := by decide +kernel
theorem dX2_exchange_35 : decode cX2_exchange 35 = .ok (.iaload, 1) := by decide +kernel
theorem dX2_exchange_36 : decode cX2_exchange 36 = .ok (.iload_n 1, 1) := by decide +kernel
theorem dX2_exchange_37 : decode cX2_exchange 37 = .ok (.iastore, 1) := by decide +kernel
theorem dX2_exchange_38 : decode cX2_exchange 38 = .ok (.aload_n 0, 1) := by decide +kernel
theorem dX2_exchange_39 : decode cX2_exchange 39 = .ok (.getfield 23, 3) := by decide +kernel
theorem dX2_exchange_42 : decode cX2_exchange 42 = .ok (.aload_n 0, 1) := by decide +kernel
theorem dX2_exchange_43 : decode cX2_exchange 43 = .ok (.getfield 26, 3) := by decide +kernel
theorem dX2_exchange_46 : decode cX2_exchange 46 = .ok (.iload_n 2, 1) := by decide +kernel
theorem dX2_exchange_47 : decode cX2_exchange 47 = .ok (.iaload, 1) := by decide +kernel
theorem dX2_exchange_48 : decode cX2_exchange 48 = .ok (.iload_n 2, 1) := by decide +kernel
theorem dX2_exchange_49 : decode cX2_exchange 49 = .ok (.iastore, 1) := by decide +kernel
theorem dX2_exchange_50 : decode cX2_exchange 50 = .ok (.return_, 1) := by decide +kernel
set_option maxRecDepth 20000 in
theorem ggX2_swapNow_X2_exchange : GoodIn wsX2_swapNow wsX2_exchange := goodIn_r _ [8, 9, 10, 11, 12, 13, 14, 15, 16, 17, 18, 19, 20, 21, 22, 23, 24, 25, 26, 27, 28, 29, 30] (by decide +kernel) (by decide +kernel)
set_option maxRecDepth 20000 in
theorem gX2_swapNow_X2_exchange : GoodIn wsX2_swapNow (wsV RX2 69 RX2 yX2_exchange wsX2_exchange) := goodIn_app (goodIn_of _ (by decide +kernel)) ggX2_swapNow_X2_exchange
theorem dX2_swapNow_0 : decode cX2_swapNow 0 = .ok (.aload_n 0, 1) := by decide +kernel
theorem dX2_swapNow_1 : decode cX2_swapNow 1 = .ok (.iload_n 1, 1) := by decide +kernel
theorem dX2_swapNow_2 : decode cX2_swapNow 2 = .ok (.iload_n 2, 1) := by decide +kernel
theorem dX2_swapNow_3 : decode cX2_swapNow 3 = .ok (.invokevirtual 69, 3) := by decide +kernel
theorem dX2_swapNow_6 : decode cX2_swapNow 6 = .ok (.aload_n 0, 1) := by decide +kernel
theorem dX2_swapNow_7 : decode cX2_swapNow 7 = .ok (.getfield 29, 3) := by decide +kernel
theorem dX2_swapNow_10 : decode cX2_swapNow 10 = .ok (.aload_n 0, 1) := by decide +kernel
theorem dX2_swapNow_11 : decode cX2_swapNow 11 = .ok (.getfield 66, 3) := by decide +kernel
theorem dX2_swapNow_14 : decode cX2_swapNow 14 = .ok (.iload_n 1, 1) := by decide +kernel
theorem dX2_swapNow_15 : decode cX2_swapNow 15 = .ok (.iastore, 1) := by decide +kernel
theorem dX2_swapNow_16 : decode cX2_swapNow 16 = .ok (.aload_n 0, 1) := by decide +kernel
theorem dX2_swapNow_17 : decode cX2_swapNow 17 = .ok (.getfield 32, 3) := by decide +kernel
theorem dX2_swapNow_20 : decode cX2_swapNow 20 = .ok (.aload_n 0, 1) := by decide +kernel
theorem dX2_swapNow_21 : decode cX2_swapNow 21 = .ok (.getfield 66, 3) := by decide +kernel
theorem dX2_swapNow_24 : decode cX2_swapNow 24 = .ok (.iload_n 2, 1) := by decide +kernel
theorem dX2_swapNow_25 : decode cX2_swapNow 25 = .ok (.iastore, 1) := by decide +kernel
theorem dX2_swapNow_26 : decode cX2_swapNow 26 = .ok (.aload_n 0, 1) := by decide +kernel
theorem dX2_swapNow_27 : decode cX2_swapNow 27 = .ok (.dup, 1) := by decide +kernel
theorem dX2_swapNow_28 : decode cX2_swapNow 28 = .ok (.getfield 66, 3) := by decide +kernel
theorem dX2_swapNow_31 : decode cX2_swapNow 31 = .ok (.iconst 1, 1) := by decide +kernel
theorem dX2_swapNow_32 : decode cX2_swapNow 32 = .ok (.iadd, 1) := by decide +kernel
theorem dX2_swapNow_33 : decode cX2_swapNow 33 = .ok (.putfield 66, 3) := by decide +kernel
theorem dX2_swapNow_36 : decode cX2_swapNow 36 = .ok (.aload_n 0, 1) := by decide +kernel
theorem dX2_swapNow_37 : decode cX2_swapNow 37 = .ok (.getfield 66, 3) := by decide +kernel
theorem dX2_swapNow_40 : decode cX2_swapNow 40 = .ok (.bipush 30, 2) := by decide +kernel
theorem dX2_swapNow_42 : decode cX2_swapNow 42 = .ok (.if_icmp .le 57, 3) := by decide +kernel
theorem dX2_swapNow_45 : decode cX2_swapNow 45 = .ok (.aload_n 0, 1) := by decide +kernel
theorem dX2_swapNow_46 : decode cX2_swapNow 46 = .ok (.dup, 1) := by decide +kernel
theorem dX2_swapNow_47 : decode cX2_swapNow 47 = .ok (.getfield 66, 3) := by decide +kernel
theorem dX2_swapNow_50 : decode cX2_swapNow 50 = .ok (.iconst 1, 1) := by decide +kernel
theorem dX2_swapNow_51 : decode cX2_swapNow 51 = .ok (.isub, 1) := by decide +kernel
theorem dX2_swapNow_52 : decode cX2_swapNow 52 = .ok (.putfield 66, 3) := by decide +kernel
theorem dX2_swapNow_55 : decode cX2_swapNow 55 = .ok (.iconst 0, 1) := by decide +kernel
theorem dX2_swapNow_56 : decode cX2_swapNow 56 = .ok (.istore_n 3, 1) := by decide +kernel
theorem dX2_swapNow_57 : decode cX2_swapNow 57 = .ok (.iload_n 3, 1) := by decide +kernel
theorem dX2_swapNow_58 : decode cX2_swapNow 58 = .ok (.aload_n 0, 1) := by decide +kernel
theorem dX2_swapNow_59 : decode cX2_swapNow 59 = .ok (.getfield 66, 3) := by decide +kernel
theorem dX2_swapNow_62 : decode cX2_swapNow 62 = .ok (.if_icmp .ge 37, 3) := by decide +kernel
theorem dX2_swapNow_65 : decode cX2_swapNow 65 = .ok (.aload_n 0, 1) := by decide +kernel
theorem dX2_swapNow_66 : decode cX2_swapNow 66 = .ok (.getfield 29, 3) := by decide +kernel
theorem dX2_swapNow_69 : decode cX2_swapNow 69 = .ok (.iload_n 3, 1) := by decide +kernel
theorem dX2_swapNow_70 : decode cX2_swapNow 70 = .ok (.aload_n 0, 1) := by decide +kernel
theorem dX2_swapNow_71 : decode cX2_swapNow 71 = .ok (.getfield 29, 3) := by decide +kernel
theorem dX2_swapNow_74 : decode cX2_swapNow 74 = .ok (.iload_n 3, 1) := by decide +kernel
theorem dX2_swapNow_75 : decode cX2_swapNow 75 = .ok (.iconst 1, 1) := by decide +kernel
theorem dX2_swapNow_76 : decode cX2_swapNow 76 = .ok (.iadd, 1) := by decide +kernel
theorem dX2_swapNow_77 : decode cX2_swapNow 77 = .ok (.iaload, 1) := by decide +kernel
theorem dX2_swapNow_78 : decode cX2_swapNow 78 = .ok (.iastore, 1) := by decide +kernel
theorem dX2_swapNow_79 : decode cX2_swapNow 79 = .ok (.aload_n 0, 1) := by decide +kernel
theorem dX2_swapNow_80 : decode cX2_swapNow 80 = .ok (.getfield 32, 3) := by decide +kernel
theorem dX2_swapNow_83 : decode cX2_swapNow 83 = .ok (.iload_n 3, 1) := by decide +kernel
theorem dX2_swapNow_84 : decode cX2_swapNow 84 = .ok (.aload_n 0, 1) := by decide +kernel
theorem dX2_swapNow_85 : decode cX2_swapNow 85 = .ok (.getfield 32, 3) := by decide +kernel
theorem dX2_swapNow_88 : decode cX2_swapNow 88 = .ok (.iload_n 3, 1) := by decide +kernel
theorem dX2_swapNow_89 : decode cX2_swapNow 89 = .ok (.iconst 1, 1) := by decide +kernel
theorem dX2_swapNow_90 : decode cX2_swapNow 90 = .ok (.iadd, 1) := by decide +kernel
theorem dX2_swapNow_91 : decode cX2_swapNow 91 = .ok (.iaload, 1) := by decide +kernel
theorem dX2_swapNow_92 : decode cX2_swapNow 92 = .ok (.iastore, 1) := by decide +kernel
theorem dX2_swapNow_93 : decode cX2_swapNow 93 = .ok (.iinc 3 1, 3) := by decide +kernel
theorem dX2_swapNow_96 : decode cX2_swapNow 96 = .ok (.goto (-39), 3) := by decide +kernel
theorem dX2_swapNow_99 : decode cX2_swapNow 99 = .ok (.return_, 1) := by decide +kernel
set_option maxRecDepth 20000 in
theorem ggX2_refusal_X2_isLetter : GoodIn wsX2_refusal wsX2_isLetter := goodIn_r _ [6, 7, 8, 5, 9] (by decide +kernel) (by decide +kernel)
set_option maxRecDepth 20000 in
theorem gX2_refusal_X2_isLetter : GoodIn wsX2_refusal (va_wsS RX2 56 yX2_isLetter wsX2_isLetter) := goodIn_app (goodIn_of _ (by decide +kernel)) ggX2_refusal_X2_isLetter
theorem dX2_refusal_0 : decode cX2_refusal 0 = .ok (.iload_n 0, 1) := by decide +kernel
theorem dX2_refusal_1 : decode cX2_refusal 1 = .ok (.invokestatic 56, 3) := by decide +kernel
theorem dX2_refusal_4 : decode cX2_refusal 4 = .ok (.ifCond .eq 10, 3) := by decide +kernel
theorem dX2_refusal_7 : decode cX2_refusal 7 = .ok (.iload_n 1, 1) := by decide +kernel
theorem dX2_refusal_8 : decode cX2_refusal 8 = .ok (.invokestatic 56, 3) := by decide +kernel
theorem dX2_refusal_11 : decode cX2_refusal 11 = .ok (.ifCond .ne 6, 3) := by decide +kernel
theorem dX2_refusal_14 : decode cX2_refusal 14 = .ok (.ldc 60, 2) := by decide +kernel
theorem dX2_refusal_16 : decode cX2_refusal 16 = .ok (.ireturn, 1) := by decide +kernel
theorem dX2_refusal_17 : decode cX2_refusal 17 = .ok (.iload_n 0, 1) := by decide +kernel
theorem dX2_refusal_18 : decode cX2_refusal 18 = .ok (.iload_n 1, 1) := by decide +kernel
theorem dX2_refusal_19 : decode cX2_refusal 19 = .ok (.if_icmp .ne 8, 3) := by decide +kernel
theorem dX2_refusal_22 : decode cX2_refusal 22 = .ok (.ldc 73, 2) := by decide +kernel
theorem dX2_refusal_24 : decode cX2_refusal 24 = .ok (.goto 4, 3) := by decide +kernel
theorem dX2_refusal_27 : decode cX2_refusal 27 = .ok (.iconst 0, 1) := by decide +kernel
theorem dX2_refusal_28 : decode cX2_refusal 28 = .ok (.ireturn, 1) := by decide +kernel
set_option maxRecDepth 20000 in
theorem ggX2_swap_X2_refusal : GoodIn wsX2_swap wsX2_refusal := goodIn_r _ [4, 5, 6, 7, 8, 3, 9, 10, 11, 12] (by decide +kernel) (by decide +kernel)
set_option maxRecDepth 20000 in
theorem gX2_swap_X2_refusal : GoodIn wsX2_swap (va_wsS RX2 74 yX2_refusal wsX2_refusal) := goodIn_app (goodIn_of _ (by decide +kernel)) ggX2_swap_X2_refusal
set_option maxRecDepth 20000 in
theorem ggX2_swap_X2_swapNow : GoodIn wsX2_swap wsX2_swapNow := goodIn_r _ [16, 17, 18, 19, 20, 21, 22, 3, 23, 24, 25, 40, 41, 42, 43, 44, 45, 46, 47, 48, 49, 50, 51, 52, 53, 54, 55, 56, 57, 58, 59] (by decide +kernel) (by decide +kernel)
set_option maxRecDepth 20000 in
theorem gX2_swap_X2_swapNow : GoodIn wsX2_swap (wsV RX2 78 RX2 yX2_swapNow wsX2_swapNow) := goodIn_app (goodIn_of _ (by decide +kernel)) ggX2_swap_X2_swapNow
set_option maxRecDepth 20000 in
theorem ggX2_swap_X2_costNow : GoodIn wsX2_swap wsX2_costNow := goodIn_r _ [29, 30, 31, 32, 33, 34, 3, 35, 36, 25, 37, 38, 39, 40, 41, 42, 43, 44, 45, 46, 47, 48, 49, 50, 51, 52, 53, 54, 55, 56, 57, 58, 59] (by decide +kernel) (by decide +kernel)
set_option maxRecDepth 20000 in
theorem gX2_swap_X2_costNow : GoodIn wsX2_swap (wsV RX2 81 RX2 yX2_costNow wsX2_costNow) := goodIn_app (goodIn_of _ (by decide +kernel)) ggX2_swap_X2_costNow
theorem dX2_swap_0 : decode cX2_swap 0 = .ok (.iload_n 1, 1) := by decide +kernel
theorem dX2_swap_1 : decode cX2_swap 1 = .ok (.iload_n 2, 1) := by decide +kernel
theorem dX2_swap_2 : decode cX2_swap 2 = .ok (.invokestatic 74, 3) := by decide +kernel
theorem dX2_swap_5 : decode cX2_swap 5 = .ok (.istore_n 3, 1) := by decide +kernel
theorem dX2_swap_6 : decode cX2_swap 6 = .ok (.iload_n 3, 1) := by decide +kernel
theorem dX2_swap_7 : decode cX2_swap 7 = .ok (.ifCond .eq 5, 3) := by decide +kernel
theorem dX2_swap_10 : decode cX2_swap 10 = .ok (.iload_n 3, 1) := by decide +kernel
theorem dX2_swap_11 : decode cX2_swap 11 = .ok (.ireturn, 1) := by decide +kernel
theorem dX2_swap_12 : decode cX2_swap 12 = .ok (.aload_n 0, 1) := by decide +kernel
theorem dX2_swap_13 : decode cX2_swap 13 = .ok (.iload_n 1, 1) := by decide +kernel
theorem dX2_swap_14 : decode cX2_swap 14 = .ok (.iload_n 2, 1) := by decide +kernel
theorem dX2_swap_15 : decode cX2_swap 15 = .ok (.invokevirtual 78, 3) := by decide +kernel
theorem dX2_swap_18 : decode cX2_swap 18 = .ok (.aload_n 0, 1) := by decide +kernel
theorem dX2_swap_19 : decode cX2_swap 19 = .ok (.invokevirtual 81, 3) := by decide +kernel
theorem dX2_swap_22 : decode cX2_swap 22 = .ok (.ireturn, 1) := by decide +kernel
set_option maxRecDepth 20000 in
theorem ggX2_undo_X2_exchange : GoodIn wsX2_undo wsX2_exchange := goodIn_r _ [9, 10, 11, 26, 27, 28, 29, 30, 31, 32, 33, 34, 35, 36, 37, 38, 39, 40, 41, 42, 43, 44, 45] (by decide +kernel) (by decide +kernel)
set_option maxRecDepth 20000 in
theorem gX2_undo_X2_exchange : GoodIn wsX2_undo (wsV RX2 69 RX2 yX2_exchange wsX2_exchange) := goodIn_app (goodIn_of _ (by decide +kernel)) ggX2_undo_X2_exchange
set_option maxRecDepth 20000 in
theorem ggX2_undo_X2_costNow : GoodIn wsX2_undo wsX2_costNow := goodIn_r _ [15, 16, 17, 18, 19, 20, 8, 21, 22, 11, 23, 24, 25, 26, 27, 28, 29, 30, 31, 32, 33, 34, 35, 36, 37, 38, 39, 40, 41, 42, 43, 44, 45] (by decide +kernel) (by decide +kernel)
set_option maxRecDepth 20000 in
theorem gX2_undo_X2_costNow : GoodIn wsX2_undo (wsV RX2 81 RX2 yX2_costNow wsX2_costNow) := goodIn_app (goodIn_of _ (by decide +kernel)) ggX2_undo_X2_costNow
theorem dX2_undo_0 : decode cX2_undo 0 = .ok (.aload_n 0, 1) := by decide +kernel
theorem dX2_undo_1 : decode cX2_undo 1 = .ok (.getfield 66, 3) := by decide +kernel
theorem dX2_undo_4 : decode cX2_undo 4 = .ok (.ifCond .ne 6, 3) := by decide +kernel
theorem dX2_undo_7 : decode cX2_undo 7 = .ok (.ldc 85, 2) := by decide +kernel
theorem dX2_undo_9 : decode cX2_undo 9 = .ok (.ireturn, 1) := by decide +kernel
theorem dX2_undo_10 : decode cX2_undo 10 = .ok (.aload_n 0, 1) := by decide +kernel
theorem dX2_undo_11 : decode cX2_undo 11 = .ok (.dup, 1) := by decide +kernel
theorem dX2_undo_12 : decode cX2_undo 12 = .ok (.getfield 66, 3) := by decide +kernel
theorem dX2_undo_15 : decode cX2_undo 15 = .ok (.iconst 1, 1) := by decide +kernel
theorem dX2_undo_16 : decode cX2_undo 16 = .ok (.isub, 1) := by decide +kernel
theorem dX2_undo_17 : decode cX2_undo 17 = .ok (.putfield 66, 3) := by decide +kernel
theorem dX2_undo_20 : decode cX2_undo 20 = .ok (.aload_n 0, 1) := by decide +kernel
theorem dX2_undo_21 : decode cX2_undo 21 = .ok (.aload_n 0, 1) := by decide +kernel
theorem dX2_undo_22 : decode cX2_undo 22 = .ok (.getfield 29, 3) := by decide +kernel
theorem dX2_undo_25 : decode cX2_undo 25 = .ok (.aload_n 0, 1) := by decide +kernel
theorem dX2_undo_26 : decode cX2_undo 26 = .ok (.getfield 66, 3) := by decide +kernel
theorem dX2_undo_29 : decode cX2_undo 29 = .ok (.iaload, 1) := by decide +kernel
theorem dX2_undo_30 : decode cX2_undo 30 = .ok (.aload_n 0, 1) := by decide +kernel
theorem dX2_undo_31 : decode cX2_undo 31 = .ok (.getfield 32, 3) := by decide +kernel
theorem dX2_undo_34 : decode cX2_undo 34 = .ok (.aload_n 0, 1) := by decide +kernel
theorem dX2_undo_35 : decode cX2_undo 35 = .ok (.getfield 66, 3) := by decide +kernel
theorem dX2_undo_38 : decode cX2_undo 38 = .ok (.iaload, 1) := by decide +kernel
theorem dX2_undo_39 : decode cX2_undo 39 = .ok (.invokevirtual 69, 3) := by decide +kernel
theorem dX2_undo_42 : decode cX2_undo 42 = .ok (.aload_n 0, 1) := by decide +kernel
theorem dX2_undo_43 : decode cX2_undo 43 = .ok (.invokevirtual 81, 3) := by decide +kernel
theorem dX2_undo_46 : decode cX2_undo 46 = .ok (.ireturn, 1) := by decide +kernel
theorem dX2_undoCount_0 : decode cX2_undoCount 0 = .ok (.aload_n 0, 1) := by decide +kernel
theorem dX2_undoCount_1 : decode cX2_undoCount 1 = .ok (.getfield 66, 3) := by decide +kernel
theorem dX2_undoCount_4 : decode cX2_undoCount 4 = .ok (.ireturn, 1) := by decide +kernel
set_option maxRecDepth 20000 in
theorem ggX2_mirror_X2_exchange : GoodIn wsX2_mirror wsX2_exchange := goodIn_r _ [6, 7, 8, 23, 24, 25, 26, 27, 28, 29, 30, 31, 32, 33, 34, 35, 36, 37, 38, 39, 40, 41, 42] (by decide +kernel) (by decide +kernel)
set_option maxRecDepth 20000 in
theorem gX2_mirror_X2_exchange : GoodIn wsX2_mirror (wsV RX2 69 RX2 yX2_exchange wsX2_exchange) := goodIn_app (goodIn_of _ (by decide +kernel)) ggX2_mirror_X2_exchange
set_option maxRecDepth 20000 in
theorem ggX2_mirror_X2_costNow : GoodIn wsX2_mirror wsX2_costNow := goodIn_r _ [12, 13, 14, 15, 16, 17, 5, 18, 19, 8, 20, 21, 22, 23, 24, 25, 26, 27, 28, 29, 30, 31, 32, 33, 34, 35, 36, 37, 38, 39, 40, 41, 42] (by decide +kernel) (by decide +kernel)
set_option maxRecDepth 20000 in
theorem gX2_mirror_X2_costNow : GoodIn wsX2_mirror (wsV RX2 81 RX2 yX2_costNow wsX2_costNow) := goodIn_app (goodIn_of _ (by decide +kernel)) ggX2_mirror_X2_costNow
theorem dX2_mirror_0 : decode cX2_mirror 0 = .ok (.iconst 0, 1) := by decide +kernel
theorem dX2_mirror_1 : decode cX2_mirror 1 = .ok (.istore_n 1, 1) := by decide +kernel
theorem dX2_mirror_2 : decode cX2_mirror 2 = .ok (.iload_n 1, 1) := by decide +kernel
theorem dX2_mirror_3 : decode cX2_mirror 3 = .ok (.bipush 6, 2) := by decide +kernel
theorem dX2_mirror_5 : decode cX2_mirror 5 = .ok (.if_icmp .ge 18, 3) := by decide +kernel
theorem dX2_mirror_8 : decode cX2_mirror 8 = .ok (.aload_n 0, 1) := by decide +kernel
theorem dX2_mirror_9 : decode cX2_mirror 9 = .ok (.iload_n 1, 1) := by decide +kernel
theorem dX2_mirror_10 : decode cX2_mirror 10 = .ok (.bipush 11, 2) := by decide +kernel
theorem dX2_mirror_12 : decode cX2_mirror 12 = .ok (.iload_n 1, 1) := by decide +kernel
theorem dX2_mirror_13 : decode cX2_mirror 13 = .ok (.isub, 1) := by decide +kernel
theorem dX2_mirror_14 : decode cX2_mirror 14 = .ok (.invokevirtual 69, 3) := by decide +kernel
theorem dX2_mirror_17 : decode cX2_mirror 17 = .ok (.iinc 1 1, 3) := by decide +kernel
theorem dX2_mirror_20 : decode cX2_mirror 20 = .ok (.goto (-18), 3) := by decide +kernel
theorem dX2_mirror_23 : decode cX2_mirror 23 = .ok (.aload_n 0, 1) := by decide +kernel
theorem dX2_mirror_24 : decode cX2_mirror 24 = .ok (.iconst 0, 1) := by decide +kernel
theorem dX2_mirror_25 : decode cX2_mirror 25 = .ok (.putfield 66, 3) := by decide +kernel
theorem dX2_mirror_28 : decode cX2_mirror 28 = .ok (.aload_n 0, 1) := by decide +kernel
theorem dX2_mirror_29 : decode cX2_mirror 29 = .ok (.invokevirtual 81, 3) := by decide +kernel
theorem dX2_mirror_32 : decode cX2_mirror 32 = .ok (.ireturn, 1) := by decide +kernel
set_option maxRecDepth 20000 in
theorem ggX2_closeness_X2_apart : GoodIn wsX2_closeness wsX2_apart := goodIn_r _ [6] (by decide +kernel) (by decide +kernel)
set_option maxRecDepth 20000 in
theorem gX2_closeness_X2_apart : GoodIn wsX2_closeness (va_wsS RX2 86 yX2_apart wsX2_apart) := goodIn_app (goodIn_of _ (by decide +kernel)) ggX2_closeness_X2_apart
theorem dX2_closeness_0 : decode cX2_closeness 0 = .ok (.aload_n 0, 1) := by decide +kernel
theorem dX2_closeness_1 : decode cX2_closeness 1 = .ok (.getfield 17, 3) := by decide +kernel
theorem dX2_closeness_4 : decode cX2_closeness 4 = .ok (.iconst 1, 1) := by decide +kernel
theorem dX2_closeness_5 : decode cX2_closeness 5 = .ok (.iadd, 1) := by decide +kernel
theorem dX2_closeness_6 : decode cX2_closeness 6 = .ok (.aload_n 0, 1) := by decide +kernel
theorem dX2_closeness_7 : decode cX2_closeness 7 = .ok (.getfield 23, 3) := by decide +kernel
theorem dX2_closeness_10 : decode cX2_closeness 10 = .ok (.iload_n 1, 1) := by decide +kernel
theorem dX2_closeness_11 : decode cX2_closeness 11 = .ok (.iaload, 1) := by decide +kernel
theorem dX2_closeness_12 : decode cX2_closeness 12 = .ok (.aload_n 0, 1) := by decide +kernel
theorem dX2_closeness_13 : decode cX2_closeness 13 = .ok (.getfield 23, 3) := by decide +kernel
theorem dX2_closeness_16 : decode cX2_closeness 16 = .ok (.iload_n 2, 1) := by decide +kernel
theorem dX2_closeness_17 : decode cX2_closeness 17 = .ok (.iaload, 1) := by decide +kernel
theorem dX2_closeness_18 : decode cX2_closeness 18 = .ok (.invokestatic 86, 3) := by decide +kernel
theorem dX2_closeness_21 : decode cX2_closeness 21 = .ok (.isub, 1) := by decide +kernel
theorem dX2_closeness_22 : decode cX2_closeness 22 = .ok (.istore_n 3, 1) := by decide +kernel
theorem dX2_closeness_23 : decode cX2_closeness 23 = .ok (.iload_n 1, 1) := by decide +kernel
theorem dX2_closeness_24 : decode cX2_closeness 24 = .ok (.iload_n 2, 1) := by decide +kernel
theorem dX2_closeness_25 : decode cX2_closeness 25 = .ok (.if_icmp .eq 7, 3) := by decide +kernel
theorem dX2_closeness_28 : decode cX2_closeness 28 = .ok (.iload_n 3, 1) := by decide +kernel
theorem dX2_closeness_29 : decode cX2_closeness 29 = .ok (.ifCond .ge 7, 3) := by decide +kernel
theorem dX2_closeness_32 : decode cX2_closeness 32 = .ok (.iconst 0, 1) := by decide +kernel
theorem dX2_closeness_33 : decode cX2_closeness 33 = .ok (.goto 4, 3) := by decide +kernel
theorem dX2_closeness_36 : decode cX2_closeness 36 = .ok (.iload_n 3, 1) := by decide +kernel
theorem dX2_closeness_37 : decode cX2_closeness 37 = .ok (.ireturn, 1) := by decide +kernel
set_option maxRecDepth 20000 in
theorem ggX2_costNow_X2_closeness : GoodIn wsX2_costNow wsX2_closeness := goodIn_r _ [7, 8, 9, 10, 11, 6, 12, 13, 14, 15, 16, 17, 18, 19, 20, 21, 22, 23, 24, 25, 26, 27, 28, 29, 30, 31, 32] (by decide +kernel) (by decide +kernel)
set_option maxRecDepth 20000 in
theorem gX2_costNow_X2_closeness : GoodIn wsX2_costNow (wsV RX2 89 RX2 yX2_closeness wsX2_closeness) := goodIn_app (goodIn_of _ (by decide +kernel)) ggX2_costNow_X2_closeness
theorem dX2_costNow_0 : decode cX2_costNow 0 = .ok (.iconst 0, 1) := by decide +kernel
theorem dX2_costNow_1 : decode cX2_costNow 1 = .ok (.istore_n 1, 1) := by decide +kernel
theorem dX2_costNow_2 : decode cX2_costNow 2 = .ok (.iconst 1, 1) := by decide +kernel
theorem dX2_costNow_3 : decode cX2_costNow 3 = .ok (.istore_n 2, 1) := by decide +kernel
theorem dX2_costNow_4 : decode cX2_costNow 4 = .ok (.iload_n 2, 1) := by decide +kernel
theorem dX2_costNow_5 : decode cX2_costNow 5 = .ok (.aload_n 0, 1) := by decide +kernel
theorem dX2_costNow_6 : decode cX2_costNow 6 = .ok (.getfield 52, 3) := by decide +kernel
theorem dX2_costNow_9 : decode cX2_costNow 9 = .ok (.if_icmp .ge 30, 3) := by decide +kernel
theorem dX2_costNow_12 : decode cX2_costNow 12 = .ok (.iload_n 1, 1) := by decide +kernel
theorem dX2_costNow_13 : decode cX2_costNow 13 = .ok (.aload_n 0, 1) := by decide +kernel
theorem dX2_costNow_14 : decode cX2_costNow 14 = .ok (.aload_n 0, 1) := by decide +kernel
theorem dX2_costNow_15 : decode cX2_costNow 15 = .ok (.getfield 7, 3) := by decide +kernel
theorem dX2_costNow_18 : decode cX2_costNow 18 = .ok (.iload_n 2, 1) := by decide +kernel
theorem dX2_costNow_19 : decode cX2_costNow 19 = .ok (.iconst 1, 1) := by decide +kernel
theorem dX2_costNow_20 : decode cX2_costNow 20 = .ok (.isub, 1) := by decide +kernel
theorem dX2_costNow_21 : decode cX2_costNow 21 = .ok (.iaload, 1) := by decide +kernel
theorem dX2_costNow_22 : decode cX2_costNow 22 = .ok (.aload_n 0, 1) := by decide +kernel
theorem dX2_costNow_23 : decode cX2_costNow 23 = .ok (.getfield 7, 3) := by decide +kernel
theorem dX2_costNow_26 : decode cX2_costNow 26 = .ok (.iload_n 2, 1) := by decide +kernel
theorem dX2_costNow_27 : decode cX2_costNow 27 = .ok (.iaload, 1) := by decide +kernel
theorem dX2_costNow_28 : decode cX2_costNow 28 = .ok (.invokevirtual 89, 3) := by decide +kernel
theorem dX2_costNow_31 : decode cX2_costNow 31 = .ok (.iadd, 1) := by decide +kernel
theorem dX2_costNow_32 : decode cX2_costNow 32 = .ok (.istore_n 1, 1) := by decide +kernel
theorem dX2_costNow_33 : decode cX2_costNow 33 = .ok (.iinc 2 1, 3) := by decide +kernel
theorem dX2_costNow_36 : decode cX2_costNow 36 = .ok (.goto (-32), 3) := by decide +kernel
theorem dX2_costNow_39 : decode cX2_costNow 39 = .ok (.iload_n 1, 1) := by decide +kernel
theorem dX2_costNow_40 : decode cX2_costNow 40 = .ok (.ireturn, 1) := by decide +kernel
set_option maxRecDepth 20000 in
theorem ggX2_cost_X2_costNow : GoodIn wsX2_cost wsX2_costNow := goodIn_r _ [5, 6, 7, 8, 9, 10, 4, 11, 12, 13, 14, 15, 16, 17, 18, 19, 20, 21, 22, 23, 24, 25, 26, 27, 28, 29, 30, 31, 32, 33, 34, 35, 36] (by decide +kernel) (by decide +kernel)
set_option maxRecDepth 20000 in
theorem gX2_cost_X2_costNow : GoodIn wsX2_cost (wsV RX2 81 RX2 yX2_costNow wsX2_costNow) := goodIn_app (goodIn_of _ (by decide +kernel)) ggX2_cost_X2_costNow
theorem dX2_cost_0 : decode cX2_cost 0 = .ok (.aload_n 0, 1) := by decide +kernel
theorem dX2_cost_1 : decode cX2_cost 1 = .ok (.invokevirtual 81, 3) := by decide +kernel
theorem dX2_cost_4 : decode cX2_cost 4 = .ok (.ireturn, 1) := by decide +kernel
set_option maxRecDepth 20000 in
theorem ggX2_gainNow_X2_costNow : GoodIn wsX2_gainNow wsX2_costNow := goodIn_r _ [5, 6, 7, 8, 9, 10, 4, 11, 12, 13, 14, 15, 16, 22, 23, 24, 25, 26, 27, 28, 29, 30, 31, 32, 33, 34, 35, 36, 37, 38, 39, 40, 41] (by decide +kernel) (by decide +kernel)
set_option maxRecDepth 20000 in
theorem gX2_gainNow_X2_costNow : GoodIn wsX2_gainNow (wsV RX2 81 RX2 yX2_costNow wsX2_costNow) := goodIn_app (goodIn_of _ (by decide +kernel)) ggX2_gainNow_X2_costNow
set_option maxRecDepth 20000 in
theorem ggX2_gainNow_X2_exchange : GoodIn wsX2_gainNow wsX2_exchange := goodIn_r _ [20, 21, 13, 22, 23, 24, 25, 26, 27, 28, 29, 30, 31, 32, 33, 34, 35, 36, 37, 38, 39, 40, 41] (by decide +kernel) (by decide +kernel)
set_option maxRecDepth 20000 in
theorem gX2_gainNow_X2_exchange : GoodIn wsX2_gainNow (wsV RX2 69 RX2 yX2_exchange wsX2_exchange) := goodIn_app (goodIn_of _ (by decide +kernel)) ggX2_gainNow_X2_exchange
theorem dX2_gainNow_0 : decode cX2_gainNow 0 = .ok (.aload_n 0, 1) := by decide +kernel
theorem dX2_gainNow_1 : decode cX2_gainNow 1 = .ok (.invokevirtual 81, 3) := by decide +kernel
theorem dX2_gainNow_4 : decode cX2_gainNow 4 = .ok (.istore_n 3, 1) := by decide +kernel
theorem dX2_gainNow_5 : decode cX2_gainNow 5 = .ok (.aload_n 0, 1) := by decide +kernel
theorem dX2_gainNow_6 : decode cX2_gainNow 6 = .ok (.iload_n 1, 1) := by decide +kernel
theorem dX2_gainNow_7 : decode cX2_gainNow 7 = .ok (.iload_n 2, 1) := by decide +kernel
theorem dX2_gainNow_8 : decode cX2_gainNow 8 = .ok (.invokevirtual 69, 3) := by decide +kernel
theorem dX2_gainNow_11 : decode cX2_gainNow 11 = .ok (.aload_n 0, 1) := by decide +kernel
theorem dX2_gainNow_12 : decode cX2_gainNow 12 = .ok (.invokevirtual 81, 3) := by decide +kernel
theorem dX2_gainNow_15 : decode cX2_gainNow 15 = .ok (.istore 4, 2) := by decide +kernel
theorem dX2_gainNow_17 : decode cX2_gainNow 17 = .ok (.aload_n 0, 1) := by decide +kernel
theorem dX2_gainNow_18 : decode cX2_gainNow 18 = .ok (.iload_n 1, 1) := by decide +kernel
theorem dX2_gainNow_19 : decode cX2_gainNow 19 = .ok (.iload_n 2, 1) := by decide +kernel
theorem dX2_gainNow_20 : decode cX2_gainNow 20 = .ok (.invokevirtual 69, 3) := by decide +kernel
theorem dX2_gainNow_23 : decode cX2_gainNow 23 = .ok (.iload_n 3, 1) := by decide +kernel
theorem dX2_gainNow_24 : decode cX2_gainNow 24 = .ok (.iload 4, 2) := by decide +kernel
theorem dX2_gainNow_26 : decode cX2_gainNow 26 = .ok (.isub, 1) := by decide +kernel
theorem dX2_gainNow_27 : decode cX2_gainNow 27 = .ok (.ireturn, 1) := by decide +kernel
set_option maxRecDepth 20000 in
theorem ggX2_gain_X2_refusal : GoodIn wsX2_gain wsX2_refusal := goodIn_r _ [4, 5, 6, 7, 8, 3, 9, 10, 11, 12] (by decide +kernel) (by decide +kernel)
set_option maxRecDepth 20000 in
theorem gX2_gain_X2_refusal : GoodIn wsX2_gain (va_wsS RX2 74 yX2_refusal wsX2_refusal) := goodIn_app (goodIn_of _ (by decide +kernel)) ggX2_gain_X2_refusal
set_option maxRecDepth 20000 in
theorem ggX2_gain_X2_gainNow : GoodIn wsX2_gain wsX2_gainNow := goodIn_r _ [16, 17, 18, 19, 3, 20, 21, 22, 23, 24, 25, 26, 27, 28, 29, 30, 31, 32, 33, 34, 35, 36, 37, 38, 39, 40, 41, 42, 43, 44, 45, 46, 47, 48, 49, 50, 51, 52, 53, 54, 55, 56] (by decide +kernel) (by decide +kernel)
set_option maxRecDepth 20000 in
theorem gX2_gain_X2_gainNow : GoodIn wsX2_gain (wsV RX2 92 RX2 yX2_gainNow wsX2_gainNow) := goodIn_app (goodIn_of _ (by decide +kernel)) ggX2_gain_X2_gainNow
theorem dX2_gain_0 : decode cX2_gain 0 = .ok (.iload_n 1, 1) := by decide +kernel
theorem dX2_gain_1 : decode cX2_gain 1 = .ok (.iload_n 2, 1) := by decide +kernel
theorem dX2_gain_2 : decode cX2_gain 2 = .ok (.invokestatic 74, 3) := by decide +kernel
theorem dX2_gain_5 : decode cX2_gain 5 = .ok (.istore_n 3, 1) := by decide +kernel
theorem dX2_gain_6 : decode cX2_gain 6 = .ok (.iload_n 3, 1) := by decide +kernel
theorem dX2_gain_7 : decode cX2_gain 7 = .ok (.ifCond .eq 7, 3) := by decide +kernel
theorem dX2_gain_10 : decode cX2_gain 10 = .ok (.iload_n 3, 1) := by decide +kernel
theorem dX2_gain_11 : decode cX2_gain 11 = .ok (.goto 9, 3) := by decide +kernel
theorem dX2_gain_14 : decode cX2_gain 14 = .ok (.aload_n 0, 1) := by decide +kernel
theorem dX2_gain_15 : decode cX2_gain 15 = .ok (.iload_n 1, 1) := by decide +kernel
theorem dX2_gain_16 : decode cX2_gain 16 = .ok (.iload_n 2, 1) := by decide +kernel
theorem dX2_gain_17 : decode cX2_gain 17 = .ok (.invokevirtual 92, 3) := by decide +kernel
theorem dX2_gain_20 : decode cX2_gain 20 = .ok (.ireturn, 1) := by decide +kernel
set_option maxRecDepth 20000 in
theorem ggX2_bestNow_X2_gainNow : GoodIn wsX2_bestNow wsX2_gainNow := goodIn_r _ [6, 7, 8, 9, 5, 10, 11, 12, 13, 14, 15, 16, 17, 18, 19, 20, 21, 22, 23, 24, 25, 26, 27, 28, 29, 30, 31, 32, 33, 34, 35, 36, 37, 38, 39, 40, 41, 42, 43, 44, 45, 46] (by decide +kernel) (by decide +kernel)
set_option maxRecDepth 20000 in
theorem gX2_bestNow_X2_gainNow : GoodIn wsX2_bestNow (wsV RX2 92 RX2 yX2_gainNow wsX2_gainNow) := goodIn_app (goodIn_of _ (by decide +kernel)) ggX2_bestNow_X2_gainNow
theorem dX2_bestNow_0 : decode cX2_bestNow 0 = .ok (.ldc 85, 2) := by decide +kernel
theorem dX2_bestNow_2 : decode cX2_bestNow 2 = .ok (.istore_n 1, 1) := by decide +kernel
theorem dX2_bestNow_3 : decode cX2_bestNow 3 = .ok (.iconst 0, 1) := by decide +kernel
theorem dX2_bestNow_4 : decode cX2_bestNow 4 = .ok (.istore_n 2, 1) := by decide +kernel
theorem dX2_bestNow_5 : decode cX2_bestNow 5 = .ok (.iconst 0, 1) := by decide +kernel
theorem dX2_bestNow_6 : decode cX2_bestNow 6 = .ok (.istore_n 3, 1) := by decide +kernel
theorem dX2_bestNow_7 : decode cX2_bestNow 7 = .ok (.iload_n 3, 1) := by decide +kernel
theorem dX2_bestNow_8 : decode cX2_bestNow 8 = .ok (.bipush 12, 2) := by decide +kernel
theorem dX2_bestNow_10 : decode cX2_bestNow 10 = .ok (.if_icmp .ge 67, 3) := by decide +kernel
theorem dX2_bestNow_13 : decode cX2_bestNow 13 = .ok (.iload_n 3, 1) := by decide +kernel
theorem dX2_bestNow_14 : decode cX2_bestNow 14 = .ok (.iconst 1, 1) := by decide +kernel
theorem dX2_bestNow_15 : decode cX2_bestNow 15 = .ok (.iadd, 1) := by decide +kernel
theorem dX2_bestNow_16 : decode cX2_bestNow 16 = .ok (.istore 4, 2) := by decide +kernel
theorem dX2_bestNow_18 : decode cX2_bestNow 18 = .ok (.iload 4, 2) := by decide +kernel
theorem dX2_bestNow_20 : decode cX2_bestNow 20 = .ok (.bipush 12, 2) := by decide +kernel
theorem dX2_bestNow_22 : decode cX2_bestNow 22 = .ok (.if_icmp .ge 49, 3) := by decide +kernel
theorem dX2_bestNow_25 : decode cX2_bestNow 25 = .ok (.aload_n 0, 1) := by decide +kernel
theorem dX2_bestNow_26 : decode cX2_bestNow 26 = .ok (.iload_n 3, 1) := by decide +kernel
theorem dX2_bestNow_27 : decode cX2_bestNow 27 = .ok (.iload 4, 2) := by decide +kernel
theorem dX2_bestNow_29 : decode cX2_bestNow 29 = .ok (.invokevirtual 92, 3) := by decide +kernel
theorem dX2_bestNow_32 : decode cX2_bestNow 32 = .ok (.istore 5, 2) := by decide +kernel
theorem dX2_bestNow_34 : decode cX2_bestNow 34 = .ok (.iload 5, 2) := by decide +kernel
theorem dX2_bestNow_36 : decode cX2_bestNow 36 = .ok (.iload_n 2, 1) := by decide +kernel
theorem dX2_bestNow_37 : decode cX2_bestNow 37 = .ok (.if_icmp .le 13, 3) := by decide +kernel
theorem dX2_bestNow_40 : decode cX2_bestNow 40 = .ok (.bipush 100, 2) := by decide +kernel
theorem dX2_bestNow_42 : decode cX2_bestNow 42 = .ok (.iload_n 3, 1) := by decide +kernel
theorem dX2_bestNow_43 : decode cX2_bestNow 43 = .ok (.imul, 1) := by decide +kernel
theorem dX2_bestNow_44 : decode cX2_bestNow 44 = .ok (.iload 4, 2) := by decide +kernel
theorem dX2_bestNow_46 : decode cX2_bestNow 46 = .ok (.iadd, 1) := by decide +kernel
theorem dX2_bestNow_47 : decode cX2_bestNow 47 = .ok (.goto 4, 3) := by decide +kernel
theorem dX2_bestNow_50 : decode cX2_bestNow 50 = .ok (.iload_n 1, 1) := by decide +kernel
theorem dX2_bestNow_51 : decode cX2_bestNow 51 = .ok (.istore_n 1, 1) := by decide +kernel
theorem dX2_bestNow_52 : decode cX2_bestNow 52 = .ok (.iload 5, 2) := by decide +kernel
theorem dX2_bestNow_54 : decode cX2_bestNow 54 = .ok (.iload_n 2, 1) := by decide +kernel
theorem dX2_bestNow_55 : decode cX2_bestNow 55 = .ok (.if_icmp .le 8, 3) := by decide +kernel
theorem dX2_bestNow_58 : decode cX2_bestNow 58 = .ok (.iload 5, 2) := by decide +kernel
theorem dX2_bestNow_60 : decode cX2_bestNow 60 = .ok (.goto 4, 3) := by decide +kernel
theorem dX2_bestNow_63 : decode cX2_bestNow 63 = .ok (.iload_n 2, 1) := by decide +kernel
theorem dX2_bestNow_64 : decode cX2_bestNow 64 = .ok (.istore_n 2, 1) := by decide +kernel
theorem dX2_bestNow_65 : decode cX2_bestNow 65 = .ok (.iinc 4 1, 3) := by decide +kernel
theorem dX2_bestNow_68 : decode cX2_bestNow 68 = .ok (.goto (-50), 3) := by decide +kernel
theorem dX2_bestNow_71 : decode cX2_bestNow 71 = .ok (.iinc 3 1, 3) := by decide +kernel
theorem dX2_bestNow_74 : decode cX2_bestNow 74 = .ok (.goto (-67), 3) := by decide +kernel
theorem dX2_bestNow_77 : decode cX2_bestNow 77 = .ok (.iload_n 1, 1) := by decide +kernel
theorem dX2_bestNow_78 : decode cX2_bestNow 78 = .ok (.ireturn, 1) := by decide +kernel
set_option maxRecDepth 20000 in
theorem ggX2_bestSwap_X2_bestNow : GoodIn wsX2_bestSwap wsX2_bestNow := goodIn_r _ [5, 6, 7, 8, 9, 4, 10, 11, 12, 13, 14, 15, 16, 17, 18, 19, 20, 21, 22, 23, 24, 25, 26, 27, 28, 29, 30, 31, 32, 33, 34, 35, 36, 37, 38, 39, 40, 41, 42, 43, 44, 45, 46, 47, 48, 49, 50] (by decide +kernel) (by decide +kernel)
set_option maxRecDepth 20000 in
theorem gX2_bestSwap_X2_bestNow : GoodIn wsX2_bestSwap (wsV RX2 95 RX2 yX2_bestNow wsX2_bestNow) := goodIn_app (goodIn_of _ (by decide +kernel)) ggX2_bestSwap_X2_bestNow
theorem dX2_bestSwap_0 : decode cX2_bestSwap 0 = .ok (.aload_n 0, 1) := by decide +kernel
theorem dX2_bestSwap_1 : decode cX2_bestSwap 1 = .ok (.invokevirtual 95, 3) := by decide +kernel
theorem dX2_bestSwap_4 : decode cX2_bestSwap 4 = .ok (.ireturn, 1) := by decide +kernel
set_option maxRecDepth 20000 in
theorem ggX2_improve_X2_within : GoodIn wsX2_improve wsX2_within := goodIn_r _ [6] (by decide +kernel) (by decide +kernel)
set_option maxRecDepth 20000 in
theorem gX2_improve_X2_within : GoodIn wsX2_improve (va_wsS RX2 47 yX2_within wsX2_within) := goodIn_app (goodIn_of _ (by decide +kernel)) ggX2_improve_X2_within
set_option maxRecDepth 20000 in
theorem ggX2_improve_X2_bestNow : GoodIn wsX2_improve wsX2_bestNow := goodIn_r _ [10, 2, 11, 12, 13, 5, 14, 15, 16, 17, 18, 19, 20, 21, 22, 23, 24, 25, 26, 27, 28, 29, 30, 31, 32, 33, 34, 42, 43, 44, 45, 46, 47, 48, 49, 50, 51, 52, 53, 54, 55, 56, 57, 58, 59, 60, 61] (by decide +kernel) (by decide +kernel)
set_option maxRecDepth 20000 in
theorem gX2_improve_X2_bestNow : GoodIn wsX2_improve (wsV RX2 95 RX2 yX2_bestNow wsX2_bestNow) := goodIn_app (goodIn_of _ (by decide +kernel)) ggX2_improve_X2_bestNow
set_option maxRecDepth 20000 in
theorem ggX2_improve_X2_swapNow : GoodIn wsX2_improve wsX2_swapNow := goodIn_r _ [38, 39, 40, 41, 30, 31, 32, 5, 33, 34, 26, 42, 43, 44, 45, 46, 47, 48, 49, 50, 51, 52, 53, 54, 55, 56, 57, 58, 59, 60, 61] (by decide +kernel) (by decide +kernel)
set_option maxRecDepth 20000 in
theorem gX2_improve_X2_swapNow : GoodIn wsX2_improve (wsV RX2 78 RX2 yX2_swapNow wsX2_swapNow) := goodIn_app (goodIn_of _ (by decide +kernel)) ggX2_improve_X2_swapNow
theorem dX2_improve_0 : decode cX2_improve 0 = .ok (.iload_n 1, 1) := by decide +kernel
theorem dX2_improve_1 : decode cX2_improve 1 = .ok (.iconst 0, 1) := by decide +kernel
theorem dX2_improve_2 : decode cX2_improve 2 = .ok (.bipush 100, 2) := by decide +kernel
theorem dX2_improve_4 : decode cX2_improve 4 = .ok (.invokestatic 47, 3) := by decide +kernel
theorem dX2_improve_7 : decode cX2_improve 7 = .ok (.ifCond .ne 6, 3) := by decide +kernel
theorem dX2_improve_10 : decode cX2_improve 10 = .ok (.ldc 60, 2) := by decide +kernel
theorem dX2_improve_12 : decode cX2_improve 12 = .ok (.ireturn, 1) := by decide +kernel
theorem dX2_improve_13 : decode cX2_improve 13 = .ok (.iconst 0, 1) := by decide +kernel
theorem dX2_improve_14 : decode cX2_improve 14 = .ok (.istore_n 2, 1) := by decide +kernel
theorem dX2_improve_15 : decode cX2_improve 15 = .ok (.iload_n 1, 1) := by decide +kernel
theorem dX2_improve_16 : decode cX2_improve 16 = .ok (.ifCond .ne 8, 3) := by decide +kernel
theorem dX2_improve_19 : decode cX2_improve 19 = .ok (.ldc 85, 2) := by decide +kernel
theorem dX2_improve_21 : decode cX2_improve 21 = .ok (.goto 7, 3) := by decide +kernel
theorem dX2_improve_24 : decode cX2_improve 24 = .ok (.aload_n 0, 1) := by decide +kernel
theorem dX2_improve_25 : decode cX2_improve 25 = .ok (.invokevirtual 95, 3) := by decide +kernel
theorem dX2_improve_28 : decode cX2_improve 28 = .ok (.istore_n 3, 1) := by decide +kernel
theorem dX2_improve_29 : decode cX2_improve 29 = .ok (.iload_n 3, 1) := by decide +kernel
theorem dX2_improve_30 : decode cX2_improve 30 = .ok (.ldc 85, 2) := by decide +kernel
theorem dX2_improve_32 : decode cX2_improve 32 = .ok (.if_icmp .eq 36, 3) := by decide +kernel
theorem dX2_improve_35 : decode cX2_improve 35 = .ok (.aload_n 0, 1) := by decide +kernel
theorem dX2_improve_36 : decode cX2_improve 36 = .ok (.iload_n 3, 1) := by decide +kernel
theorem dX2_improve_37 : decode cX2_improve 37 = .ok (.bipush 100, 2) := by decide +kernel
theorem dX2_improve_39 : decode cX2_improve 39 = .ok (.idiv, 1) := by decide +kernel
theorem dX2_improve_40 : decode cX2_improve 40 = .ok (.iload_n 3, 1) := by decide +kernel
theorem dX2_improve_41 : decode cX2_improve 41 = .ok (.bipush 100, 2) := by decide +kernel
theorem dX2_improve_43 : decode cX2_improve 43 = .ok (.irem, 1) := by decide +kernel
theorem dX2_improve_44 : decode cX2_improve 44 = .ok (.invokevirtual 78, 3) := by decide +kernel
theorem dX2_improve_47 : decode cX2_improve 47 = .ok (.iinc 2 1, 3) := by decide +kernel
theorem dX2_improve_50 : decode cX2_improve 50 = .ok (.iload_n 2, 1) := by decide +kernel
theorem dX2_improve_51 : decode cX2_improve 51 = .ok (.iload_n 1, 1) := by decide +kernel
theorem dX2_improve_52 : decode cX2_improve 52 = .ok (.if_icmp .ne 8, 3) := by decide +kernel
theorem dX2_improve_55 : decode cX2_improve 55 = .ok (.ldc 85, 2) := by decide +kernel
theorem dX2_improve_57 : decode cX2_improve 57 = .ok (.goto 7, 3) := by decide +kernel
theorem dX2_improve_60 : decode cX2_improve 60 = .ok (.aload_n 0, 1) := by decide +kernel
theorem dX2_improve_61 : decode cX2_improve 61 = .ok (.invokevirtual 95, 3) := by decide +kernel
theorem dX2_improve_64 : decode cX2_improve 64 = .ok (.istore_n 3, 1) := by decide +kernel
theorem dX2_improve_65 : decode cX2_improve 65 = .ok (.goto (-36), 3) := by decide +kernel
theorem dX2_improve_68 : decode cX2_improve 68 = .ok (.iload_n 2, 1) := by decide +kernel
theorem dX2_improve_69 : decode cX2_improve 69 = .ok (.ireturn, 1) := by decide +kernel
set_option maxRecDepth 20000 in
theorem ggX2_partOf_X2_closeness : GoodIn wsX2_partOf wsX2_closeness := goodIn_r _ [7, 8, 9, 10, 11, 6, 12, 13, 14, 15, 16, 17, 18, 19, 20, 21, 22, 23, 24, 25, 26, 27, 28, 29, 30, 31, 32] (by decide +kernel) (by decide +kernel)
set_option maxRecDepth 20000 in
theorem gX2_partOf_X2_closeness : GoodIn wsX2_partOf (wsV RX2 89 RX2 yX2_closeness wsX2_closeness) := goodIn_app (goodIn_of _ (by decide +kernel)) ggX2_partOf_X2_closeness
theorem dX2_partOf_0 : decode cX2_partOf 0 = .ok (.iconst 0, 1) := by decide +kernel
theorem dX2_partOf_1 : decode cX2_partOf 1 = .ok (.istore_n 2, 1) := by decide +kernel
theorem dX2_partOf_2 : decode cX2_partOf 2 = .ok (.iconst 1, 1) := by decide +kernel
theorem dX2_partOf_3 : decode cX2_partOf 3 = .ok (.istore_n 3, 1) := by decide +kernel
theorem dX2_partOf_4 : decode cX2_partOf 4 = .ok (.iload_n 3, 1) := by decide +kernel
theorem dX2_partOf_5 : decode cX2_partOf 5 = .ok (.aload_n 0, 1) := by decide +kernel
theorem dX2_partOf_6 : decode cX2_partOf 6 = .ok (.getfield 52, 3) := by decide +kernel
theorem dX2_partOf_9 : decode cX2_partOf 9 = .ok (.if_icmp .ge 56, 3) := by decide +kernel
theorem dX2_partOf_12 : decode cX2_partOf 12 = .ok (.iload_n 2, 1) := by decide +kernel
theorem dX2_partOf_13 : decode cX2_partOf 13 = .ok (.aload_n 0, 1) := by decide +kernel
theorem dX2_partOf_14 : decode cX2_partOf 14 = .ok (.getfield 7, 3) := by decide +kernel
theorem dX2_partOf_17 : decode cX2_partOf 17 = .ok (.iload_n 3, 1) := by decide +kernel
theorem dX2_partOf_18 : decode cX2_partOf 18 = .ok (.iconst 1, 1) := by decide +kernel
theorem dX2_partOf_19 : decode cX2_partOf 19 = .ok (.isub, 1) := by decide +kernel
theorem dX2_partOf_20 : decode cX2_partOf 20 = .ok (.iaload, 1) := by decide +kernel
theorem dX2_partOf_21 : decode cX2_partOf 21 = .ok (.iload_n 1, 1) := by decide +kernel
theorem dX2_partOf_22 : decode cX2_partOf 22 = .ok (.if_icmp .eq 13, 3) := by decide +kernel
theorem dX2_partOf_25 : decode cX2_partOf 25 = .ok (.aload_n 0, 1) := by decide +kernel
theorem dX2_partOf_26 : decode cX2_partOf 26 = .ok (.getfield 7, 3) := by decide +kernel
theorem dX2_partOf_29 : decode cX2_partOf 29 = .ok (.iload_n 3, 1) := by decide +kernel
theorem dX2_partOf_30 : decode cX2_partOf 30 = .ok (.iaload, 1) := by decide +kernel
theorem dX2_partOf_31 : decode cX2_partOf 31 = .ok (.iload_n 1, 1) := by decide +kernel
theorem dX2_partOf_32 : decode cX2_partOf 32 = .ok (.if_icmp .ne 24, 3) := by decide +kernel
theorem dX2_partOf_35 : decode cX2_partOf 35 = .ok (.aload_n 0, 1) := by decide +kernel
theorem dX2_partOf_36 : decode cX2_partOf 36 = .ok (.aload_n 0, 1) := by decide +kernel
theorem dX2_partOf_37 : decode cX2_partOf 37 = .ok (.getfield 7, 3) := by decide +kernel
theorem dX2_partOf_40 : decode cX2_partOf 40 = .ok (.iload_n 3, 1) := by decide +kernel
theorem dX2_partOf_41 : decode cX2_partOf 41 = .ok (.iconst 1, 1) := by decide +kernel
theorem dX2_partOf_42 : decode cX2_partOf 42 = .ok (.isub, 1) := by decide +kernel
theorem dX2_partOf_43 : decode cX2_partOf 43 = .ok (.iaload, 1) := by decide +kernel
theorem dX2_partOf_44 : decode cX2_partOf 44 = .ok (.aload_n 0, 1) := by decide +kernel
theorem dX2_partOf_45 : decode cX2_partOf 45 = .ok (.getfield 7, 3) := by decide +kernel
theorem dX2_partOf_48 : decode cX2_partOf 48 = .ok (.iload_n 3, 1) := by decide +kernel
theorem dX2_partOf_49 : decode cX2_partOf 49 = .ok (.iaload, 1) := by decide +kernel
theorem dX2_partOf_50 : decode cX2_partOf 50 = .ok (.invokevirtual 89, 3) := by decide +kernel
theorem dX2_partOf_53 : decode cX2_partOf 53 = .ok (.goto 4, 3) := by decide +kernel
theorem dX2_partOf_56 : decode cX2_partOf 56 = .ok (.iconst 0, 1) := by decide +kernel
theorem dX2_partOf_57 : decode cX2_partOf 57 = .ok (.iadd, 1) := by decide +kernel
theorem dX2_partOf_58 : decode cX2_partOf 58 = .ok (.istore_n 2, 1) := by decide +kernel
theorem dX2_partOf_59 : decode cX2_partOf 59 = .ok (.iinc 3 1, 3) := by decide +kernel
theorem dX2_partOf_62 : decode cX2_partOf 62 = .ok (.goto (-58), 3) := by decide +kernel
theorem dX2_partOf_65 : decode cX2_partOf 65 = .ok (.iload_n 2, 1) := by decide +kernel
theorem dX2_partOf_66 : decode cX2_partOf 66 = .ok (.ireturn, 1) := by decide +kernel
set_option maxRecDepth 20000 in
theorem ggX2_worstNow_X2_partOf : GoodIn wsX2_worstNow wsX2_partOf := goodIn_r _ [6, 7, 8, 9, 10, 11, 5, 12, 13, 14, 15, 16, 17, 18, 19, 20, 21, 22, 23, 24, 25, 26, 27, 28, 29, 30, 31, 32, 33, 34, 35, 36, 37] (by decide +kernel) (by decide +kernel)
set_option maxRecDepth 20000 in
theorem gX2_worstNow_X2_partOf : GoodIn wsX2_worstNow (wsV RX2 98 RX2 yX2_partOf wsX2_partOf) := goodIn_app (goodIn_of _ (by decide +kernel)) ggX2_worstNow_X2_partOf
theorem dX2_worstNow_0 : decode cX2_worstNow 0 = .ok (.ldc 85, 2) := by decide +kernel
theorem dX2_worstNow_2 : decode cX2_worstNow 2 = .ok (.istore_n 1, 1) := by decide +kernel
theorem dX2_worstNow_3 : decode cX2_worstNow 3 = .ok (.iconst 0, 1) := by decide +kernel
theorem dX2_worstNow_4 : decode cX2_worstNow 4 = .ok (.istore_n 2, 1) := by decide +kernel
theorem dX2_worstNow_5 : decode cX2_worstNow 5 = .ok (.iconst 0, 1) := by decide +kernel
theorem dX2_worstNow_6 : decode cX2_worstNow 6 = .ok (.istore_n 3, 1) := by decide +kernel
theorem dX2_worstNow_7 : decode cX2_worstNow 7 = .ok (.iload_n 3, 1) := by decide +kernel
theorem dX2_worstNow_8 : decode cX2_worstNow 8 = .ok (.bipush 12, 2) := by decide +kernel
theorem dX2_worstNow_10 : decode cX2_worstNow 10 = .ok (.if_icmp .ge 41, 3) := by decide +kernel
theorem dX2_worstNow_13 : decode cX2_worstNow 13 = .ok (.aload_n 0, 1) := by decide +kernel
theorem dX2_worstNow_14 : decode cX2_worstNow 14 = .ok (.iload_n 3, 1) := by decide +kernel
theorem dX2_worstNow_15 : decode cX2_worstNow 15 = .ok (.invokevirtual 98, 3) := by decide +kernel
theorem dX2_worstNow_18 : decode cX2_worstNow 18 = .ok (.istore 4, 2) := by decide +kernel
theorem dX2_worstNow_20 : decode cX2_worstNow 20 = .ok (.iload 4, 2) := by decide +kernel
theorem dX2_worstNow_22 : decode cX2_worstNow 22 = .ok (.iload_n 2, 1) := by decide +kernel
theorem dX2_worstNow_23 : decode cX2_worstNow 23 = .ok (.if_icmp .le 7, 3) := by decide +kernel
theorem dX2_worstNow_26 : decode cX2_worstNow 26 = .ok (.iload_n 3, 1) := by decide +kernel
theorem dX2_worstNow_27 : decode cX2_worstNow 27 = .ok (.goto 4, 3) := by decide +kernel
theorem dX2_worstNow_30 : decode cX2_worstNow 30 = .ok (.iload_n 1, 1) := by decide +kernel
theorem dX2_worstNow_31 : decode cX2_worstNow 31 = .ok (.istore_n 1, 1) := by decide +kernel
theorem dX2_worstNow_32 : decode cX2_worstNow 32 = .ok (.iload 4, 2) := by decide +kernel
theorem dX2_worstNow_34 : decode cX2_worstNow 34 = .ok (.iload_n 2, 1) := by decide +kernel
theorem dX2_worstNow_35 : decode cX2_worstNow 35 = .ok (.if_icmp .le 8, 3) := by decide +kernel
theorem dX2_worstNow_38 : decode cX2_worstNow 38 = .ok (.iload 4, 2) := by decide +kernel
theorem dX2_worstNow_40 : decode cX2_worstNow 40 = .ok (.goto 4, 3) := by decide +kernel
theorem dX2_worstNow_43 : decode cX2_worstNow 43 = .ok (.iload_n 2, 1) := by decide +kernel
theorem dX2_worstNow_44 : decode cX2_worstNow 44 = .ok (.istore_n 2, 1) := by decide +kernel
theorem dX2_worstNow_45 : decode cX2_worstNow 45 = .ok (.iinc 3 1, 3) := by decide +kernel
theorem dX2_worstNow_48 : decode cX2_worstNow 48 = .ok (.goto (-41), 3) := by decide +kernel
theorem dX2_worstNow_51 : decode cX2_worstNow 51 = .ok (.iload_n 1, 1) := by decide +kernel
theorem dX2_worstNow_52 : decode cX2_worstNow 52 = .ok (.ireturn, 1) := by decide +kernel
set_option maxRecDepth 20000 in
theorem ggX2_worstLetter_X2_worstNow : GoodIn wsX2_worstLetter wsX2_worstNow := goodIn_r _ [5, 6, 7, 8, 9, 4, 10, 11, 12, 13, 14, 15, 16, 17, 18, 19, 20, 21, 22, 23, 24, 25, 26, 27, 28, 29, 30, 31, 32, 33, 34, 35, 36, 37, 38, 39, 40, 41] (by decide +kernel) (by decide +kernel)
set_option maxRecDepth 20000 in
theorem gX2_worstLetter_X2_worstNow : GoodIn wsX2_worstLetter (wsV RX2 102 RX2 yX2_worstNow wsX2_worstNow) := goodIn_app (goodIn_of _ (by decide +kernel)) ggX2_worstLetter_X2_worstNow
theorem dX2_worstLetter_0 : decode cX2_worstLetter 0 = .ok (.aload_n 0, 1) := by decide +kernel
theorem dX2_worstLetter_1 : decode cX2_worstLetter 1 = .ok (.invokevirtual 102, 3) := by decide +kernel
theorem dX2_worstLetter_4 : decode cX2_worstLetter 4 = .ok (.ireturn, 1) := by decide +kernel
set_option maxRecDepth 20000 in
theorem ggX2_stroke_X2_apart : GoodIn wsX2_stroke wsX2_apart := goodIn_r _ [8] (by decide +kernel) (by decide +kernel)
set_option maxRecDepth 20000 in
theorem gX2_stroke_X2_apart : GoodIn wsX2_stroke (va_wsS RX2 86 yX2_apart wsX2_apart) := goodIn_app (goodIn_of _ (by decide +kernel)) ggX2_stroke_X2_apart
theorem dX2_stroke_0 : decode cX2_stroke 0 = .ok (.aload_n 0, 1) := by decide +kernel
theorem dX2_stroke_1 : decode cX2_stroke 1 = .ok (.getfield 41, 3) := by decide +kernel
theorem dX2_stroke_4 : decode cX2_stroke 4 = .ok (.iload_n 1, 1) := by decide +kernel
theorem dX2_stroke_5 : decode cX2_stroke 5 = .ok (.iaload, 1) := by decide +kernel
theorem dX2_stroke_6 : decode cX2_stroke 6 = .ok (.iload_n 2, 1) := by decide +kernel
theorem dX2_stroke_7 : decode cX2_stroke 7 = .ok (.if_icmp .le 5, 3) := by decide +kernel
theorem dX2_stroke_10 : decode cX2_stroke 10 = .ok (.iconst 2, 1) := by decide +kernel
theorem dX2_stroke_11 : decode cX2_stroke 11 = .ok (.ireturn, 1) := by decide +kernel
theorem dX2_stroke_12 : decode cX2_stroke 12 = .ok (.iconst 0, 1) := by decide +kernel
theorem dX2_stroke_13 : decode cX2_stroke 13 = .ok (.istore_n 3, 1) := by decide +kernel
theorem dX2_stroke_14 : decode cX2_stroke 14 = .ok (.iconst 0, 1) := by decide +kernel
theorem dX2_stroke_15 : decode cX2_stroke 15 = .ok (.istore 4, 2) := by decide +kernel
theorem dX2_stroke_17 : decode cX2_stroke 17 = .ok (.iload 4, 2) := by decide +kernel
theorem dX2_stroke_19 : decode cX2_stroke 19 = .ok (.bipush 12, 2) := by decide +kernel
theorem dX2_stroke_21 : decode cX2_stroke 21 = .ok (.if_icmp .ge 53, 3) := by decide +kernel
theorem dX2_stroke_24 : decode cX2_stroke 24 = .ok (.aload_n 0, 1) := by decide +kernel
theorem dX2_stroke_25 : decode cX2_stroke 25 = .ok (.getfield 41, 3) := by decide +kernel
theorem dX2_stroke_28 : decode cX2_stroke 28 = .ok (.iload 4, 2) := by decide +kernel
theorem dX2_stroke_30 : decode cX2_stroke 30 = .ok (.iaload, 1) := by decide +kernel
theorem dX2_stroke_31 : decode cX2_stroke 31 = .ok (.iload_n 2, 1) := by decide +kernel
theorem dX2_stroke_32 : decode cX2_stroke 32 = .ok (.if_icmp .le 36, 3) := by decide +kernel
theorem dX2_stroke_35 : decode cX2_stroke 35 = .ok (.aload_n 0, 1) := by decide +kernel
theorem dX2_stroke_36 : decode cX2_stroke 36 = .ok (.getfield 23, 3) := by decide +kernel
theorem dX2_stroke_39 : decode cX2_stroke 39 = .ok (.iload 4, 2) := by decide +kernel
theorem dX2_stroke_41 : decode cX2_stroke 41 = .ok (.iaload, 1) := by decide +kernel
theorem dX2_stroke_42 : decode cX2_stroke 42 = .ok (.aload_n 0, 1) := by decide +kernel
theorem dX2_stroke_43 : decode cX2_stroke 43 = .ok (.getfield 23, 3) := by decide +kernel
theorem dX2_stroke_46 : decode cX2_stroke 46 = .ok (.iload_n 1, 1) := by decide +kernel
theorem dX2_stroke_47 : decode cX2_stroke 47 = .ok (.iaload, 1) := by decide +kernel
theorem dX2_stroke_48 : decode cX2_stroke 48 = .ok (.invokestatic 86, 3) := by decide +kernel
theorem dX2_stroke_51 : decode cX2_stroke 51 = .ok (.aload_n 0, 1) := by decide +kernel
theorem dX2_stroke_52 : decode cX2_stroke 52 = .ok (.getfield 17, 3) := by decide +kernel
theorem dX2_stroke_55 : decode cX2_stroke 55 = .ok (.if_icmp .gt 13, 3) := by decide +kernel
theorem dX2_stroke_58 : decode cX2_stroke 58 = .ok (.aload_n 0, 1) := by decide +kernel
theorem dX2_stroke_59 : decode cX2_stroke 59 = .ok (.getfield 41, 3) := by decide +kernel
theorem dX2_stroke_62 : decode cX2_stroke 62 = .ok (.iload 4, 2) := by decide +kernel
theorem dX2_stroke_64 : decode cX2_stroke 64 = .ok (.iload_n 2, 1) := by decide +kernel
theorem dX2_stroke_65 : decode cX2_stroke 65 = .ok (.iastore, 1) := by decide +kernel
theorem dX2_stroke_66 : decode cX2_stroke 66 = .ok (.iconst 1, 1) := by decide +kernel
theorem dX2_stroke_67 : decode cX2_stroke 67 = .ok (.istore_n 3, 1) := by decide +kernel
theorem dX2_stroke_68 : decode cX2_stroke 68 = .ok (.iinc 4 1, 3) := by decide +kernel
theorem dX2_stroke_71 : decode cX2_stroke 71 = .ok (.goto (-54), 3) := by decide +kernel
theorem dX2_stroke_74 : decode cX2_stroke 74 = .ok (.iload_n 3, 1) := by decide +kernel
theorem dX2_stroke_75 : decode cX2_stroke 75 = .ok (.ifCond .ne 15, 3) := by decide +kernel
theorem dX2_stroke_78 : decode cX2_stroke 78 = .ok (.aload_n 0, 1) := by decide +kernel
theorem dX2_stroke_79 : decode cX2_stroke 79 = .ok (.getfield 41, 3) := by decide +kernel
theorem dX2_stroke_82 : decode cX2_stroke 82 = .ok (.iload_n 1, 1) := by decide +kernel
theorem dX2_stroke_83 : decode cX2_stroke 83 = .ok (.iload_n 2, 1) := by decide +kernel
theorem dX2_stroke_84 : decode cX2_stroke 84 = .ok (.aload_n 0, 1) := by decide +kernel
theorem dX2_stroke_85 : decode cX2_stroke 85 = .ok (.getfield 13, 3) := by decide +kernel
theorem dX2_stroke_88 : decode cX2_stroke 88 = .ok (.iadd, 1) := by decide +kernel
theorem dX2_stroke_89 : decode cX2_stroke 89 = .ok (.iastore, 1) := by decide +kernel
theorem dX2_stroke_90 : decode cX2_stroke 90 = .ok (.iload_n 3, 1) := by decide +kernel
theorem dX2_stroke_91 : decode cX2_stroke 91 = .ok (.ifCond .eq 7, 3) := by decide +kernel
theorem dX2_stroke_94 : decode cX2_stroke 94 = .ok (.iconst 1, 1) := by decide +kernel
theorem dX2_stroke_95 : decode cX2_stroke 95 = .ok (.goto 4, 3) := by decide +kernel
theorem dX2_stroke_98 : decode cX2_stroke 98 = .ok (.iconst 0, 1) := by decide +kernel
theorem dX2_stroke_99 : decode cX2_stroke 99 = .ok (.ireturn, 1) := by decide +kernel
set_option maxRecDepth 20000 in
theorem ggX2_type_X2_stroke : GoodIn wsX2_type wsX2_stroke := goodIn_r _ [11, 1, 12, 13, 14, 15, 16, 10, 17, 18, 19, 20, 21, 22, 23, 24, 25, 26, 27, 28, 29, 30, 31, 32, 33, 34, 35, 36, 37] (by decide +kernel) (by decide +kernel)
set_option maxRecDepth 20000 in
theorem gX2_type_X2_stroke : GoodIn wsX2_type (wsV RX2 105 RX2 yX2_stroke wsX2_stroke) := goodIn_app (goodIn_of _ (by decide +kernel)) ggX2_type_X2_stroke
theorem dX2_type_0 : decode cX2_type 0 = .ok (.iconst 0, 1) := by decide +kernel
theorem dX2_type_1 : decode cX2_type 1 = .ok (.istore_n 2, 1) := by decide +kernel
theorem dX2_type_2 : decode cX2_type 2 = .ok (.iload_n 2, 1) := by decide +kernel
theorem dX2_type_3 : decode cX2_type 3 = .ok (.bipush 12, 2) := by decide +kernel
theorem dX2_type_5 : decode cX2_type 5 = .ok (.if_icmp .ge 16, 3) := by decide +kernel
theorem dX2_type_8 : decode cX2_type 8 = .ok (.aload_n 0, 1) := by decide +kernel
theorem dX2_type_9 : decode cX2_type 9 = .ok (.getfield 41, 3) := by decide +kernel
theorem dX2_type_12 : decode cX2_type 12 = .ok (.iload_n 2, 1) := by decide +kernel
theorem dX2_type_13 : decode cX2_type 13 = .ok (.iconst 0, 1) := by decide +kernel
theorem dX2_type_14 : decode cX2_type 14 = .ok (.iastore, 1) := by decide +kernel
theorem dX2_type_15 : decode cX2_type 15 = .ok (.iinc 2 1, 3) := by decide +kernel
theorem dX2_type_18 : decode cX2_type 18 = .ok (.goto (-16), 3) := by decide +kernel
theorem dX2_type_21 : decode cX2_type 21 = .ok (.iconst 0, 1) := by decide +kernel
theorem dX2_type_22 : decode cX2_type 22 = .ok (.istore_n 2, 1) := by decide +kernel
theorem dX2_type_23 : decode cX2_type 23 = .ok (.iconst 0, 1) := by decide +kernel
theorem dX2_type_24 : decode cX2_type 24 = .ok (.istore_n 3, 1) := by decide +kernel
theorem dX2_type_25 : decode cX2_type 25 = .ok (.iload_n 3, 1) := by decide +kernel
theorem dX2_type_26 : decode cX2_type 26 = .ok (.aload_n 0, 1) := by decide +kernel
theorem dX2_type_27 : decode cX2_type 27 = .ok (.getfield 52, 3) := by decide +kernel
theorem dX2_type_30 : decode cX2_type 30 = .ok (.if_icmp .ge 59, 3) := by decide +kernel
theorem dX2_type_33 : decode cX2_type 33 = .ok (.iload_n 2, 1) := by decide +kernel
theorem dX2_type_34 : decode cX2_type 34 = .ok (.iload_n 3, 1) := by decide +kernel
theorem dX2_type_35 : decode cX2_type 35 = .ok (.ifCond .ne 7, 3) := by decide +kernel
theorem dX2_type_38 : decode cX2_type 38 = .ok (.iconst 0, 1) := by decide +kernel
theorem dX2_type_39 : decode cX2_type 39 = .ok (.goto 25, 3) := by decide +kernel
theorem dX2_type_42 : decode cX2_type 42 = .ok (.iload_n 1, 1) := by decide +kernel
theorem dX2_type_43 : decode cX2_type 43 = .ok (.aload_n 0, 1) := by decide +kernel
theorem dX2_type_44 : decode cX2_type 44 = .ok (.getfield 44, 3) := by decide +kernel
theorem dX2_type_47 : decode cX2_type 47 = .ok (.iload_n 3, 1) := by decide +kernel
theorem dX2_type_48 : decode cX2_type 48 = .ok (.iconst 1, 1) := by decide +kernel
theorem dX2_type_49 : decode cX2_type 49 = .ok (.isub, 1) := by decide +kernel
theorem dX2_type_50 : decode cX2_type 50 = .ok (.iaload, 1) := by decide +kernel
theorem dX2_type_51 : decode cX2_type 51 = .ok (.iconst 1, 1) := by decide +kernel
theorem dX2_type_52 : decode cX2_type 52 = .ok (.if_icmp .ne 10, 3) := by decide +kernel
theorem dX2_type_55 : decode cX2_type 55 = .ok (.aload_n 0, 1) := by decide +kernel
theorem dX2_type_56 : decode cX2_type 56 = .ok (.getfield 20, 3) := by decide +kernel
theorem dX2_type_59 : decode cX2_type 59 = .ok (.goto 4, 3) := by decide +kernel
theorem dX2_type_62 : decode cX2_type 62 = .ok (.iconst 0, 1) := by decide +kernel
theorem dX2_type_63 : decode cX2_type 63 = .ok (.iadd, 1) := by decide +kernel
theorem dX2_type_64 : decode cX2_type 64 = .ok (.iadd, 1) := by decide +kernel
theorem dX2_type_65 : decode cX2_type 65 = .ok (.istore_n 2, 1) := by decide +kernel
theorem dX2_type_66 : decode cX2_type 66 = .ok (.aload_n 0, 1) := by decide +kernel
theorem dX2_type_67 : decode cX2_type 67 = .ok (.getfield 44, 3) := by decide +kernel
theorem dX2_type_70 : decode cX2_type 70 = .ok (.iload_n 3, 1) := by decide +kernel
theorem dX2_type_71 : decode cX2_type 71 = .ok (.aload_n 0, 1) := by decide +kernel
theorem dX2_type_72 : decode cX2_type 72 = .ok (.aload_n 0, 1) := by decide +kernel
theorem dX2_type_73 : decode cX2_type 73 = .ok (.getfield 7, 3) := by decide +kernel
theorem dX2_type_76 : decode cX2_type 76 = .ok (.iload_n 3, 1) := by decide +kernel
theorem dX2_type_77 : decode cX2_type 77 = .ok (.iaload, 1) := by decide +kernel
theorem dX2_type_78 : decode cX2_type 78 = .ok (.iload_n 2, 1) := by decide +kernel
theorem dX2_type_79 : decode cX2_type 79 = .ok (.invokevirtual 105, 3) := by decide +kernel
theorem dX2_type_82 : decode cX2_type 82 = .ok (.iastore, 1) := by decide +kernel
theorem dX2_type_83 : decode cX2_type 83 = .ok (.iinc 3 1, 3) := by decide +kernel
theorem dX2_type_86 : decode cX2_type 86 = .ok (.goto (-61), 3) := by decide +kernel
theorem dX2_type_89 : decode cX2_type 89 = .ok (.aload_n 0, 1) := by decide +kernel
theorem dX2_type_90 : decode cX2_type 90 = .ok (.iload_n 2, 1) := by decide +kernel
theorem dX2_type_91 : decode cX2_type 91 = .ok (.putfield 108, 3) := by decide +kernel
theorem dX2_type_94 : decode cX2_type 94 = .ok (.return_, 1) := by decide +kernel
set_option maxRecDepth 20000 in
theorem ggX2_run_X2_within : GoodIn wsX2_run wsX2_within := goodIn_r _ [16] (by decide +kernel) (by decide +kernel)
set_option maxRecDepth 20000 in
theorem gX2_run_X2_within : GoodIn wsX2_run (va_wsS RX2 47 yX2_within wsX2_within) := goodIn_app (goodIn_of _ (by decide +kernel)) ggX2_run_X2_within
set_option maxRecDepth 20000 in
theorem ggX2_run_X2_type : GoodIn wsX2_run wsX2_type := goodIn_r _ [20, 21, 5, 6, 22, 8, 10, 23, 24, 25, 15, 26, 27, 28, 11, 29, 30, 31, 32, 33, 34, 35, 36, 37, 38, 39, 40, 41, 42, 43, 44, 45, 46, 47, 48, 49, 50, 51] (by decide +kernel) (by decide +kernel)
set_option maxRecDepth 20000 in
theorem gX2_run_X2_type : GoodIn wsX2_run (wsV RX2 111 RX2 yX2_type wsX2_type) := goodIn_app (goodIn_of _ (by decide +kernel)) ggX2_run_X2_type
theorem dX2_run_0 : decode cX2_run 0 = .ok (.iload_n 1, 1) := by decide +kernel
theorem dX2_run_1 : decode cX2_run 1 = .ok (.iconst 1, 1) := by decide +kernel
theorem dX2_run_2 : decode cX2_run 2 = .ok (.bipush 30, 2) := by decide +kernel
theorem dX2_run_4 : decode cX2_run 4 = .ok (.invokestatic 47, 3) := by decide +kernel
theorem dX2_run_7 : decode cX2_run 7 = .ok (.ifCond .ne 6, 3) := by decide +kernel
theorem dX2_run_10 : decode cX2_run 10 = .ok (.ldc 60, 2) := by decide +kernel
theorem dX2_run_12 : decode cX2_run 12 = .ok (.ireturn, 1) := by decide +kernel
theorem dX2_run_13 : decode cX2_run 13 = .ok (.aload_n 0, 1) := by decide +kernel
theorem dX2_run_14 : decode cX2_run 14 = .ok (.iload_n 1, 1) := by decide +kernel
theorem dX2_run_15 : decode cX2_run 15 = .ok (.invokevirtual 111, 3) := by decide +kernel
theorem dX2_run_18 : decode cX2_run 18 = .ok (.aload_n 0, 1) := by decide +kernel
theorem dX2_run_19 : decode cX2_run 19 = .ok (.iconst 0, 1) := by decide +kernel
theorem dX2_run_20 : decode cX2_run 20 = .ok (.putfield 115, 3) := by decide +kernel
theorem dX2_run_23 : decode cX2_run 23 = .ok (.aload_n 0, 1) := by decide +kernel
theorem dX2_run_24 : decode cX2_run 24 = .ok (.iconst 0, 1) := by decide +kernel
theorem dX2_run_25 : decode cX2_run 25 = .ok (.putfield 118, 3) := by decide +kernel
theorem dX2_run_28 : decode cX2_run 28 = .ok (.aload_n 0, 1) := by decide +kernel
theorem dX2_run_29 : decode cX2_run 29 = .ok (.iconst 0, 1) := by decide +kernel
theorem dX2_run_30 : decode cX2_run 30 = .ok (.putfield 121, 3) := by decide +kernel
theorem dX2_run_33 : decode cX2_run 33 = .ok (.iconst 0, 1) := by decide +kernel
theorem dX2_run_34 : decode cX2_run 34 = .ok (.istore_n 2, 1) := by decide +kernel
theorem dX2_run_35 : decode cX2_run 35 = .ok (.iload_n 2, 1) := by decide +kernel
theorem dX2_run_36 : decode cX2_run 36 = .ok (.aload_n 0, 1) := by decide +kernel
theorem dX2_run_37 : decode cX2_run 37 = .ok (.getfield 52, 3) := by decide +kernel
theorem dX2_run_40 : decode cX2_run 40 = .ok (.if_icmp .ge 89, 3) := by decide +kernel
theorem dX2_run_43 : decode cX2_run 43 = .ok (.aload_n 0, 1) := by decide +kernel
theorem dX2_run_44 : decode cX2_run 44 = .ok (.getfield 44, 3) := by decide +kernel
theorem dX2_run_47 : decode cX2_run 47 = .ok (.iload_n 2, 1) := by decide +kernel
theorem dX2_run_48 : decode cX2_run 48 = .ok (.iaload, 1) := by decide +kernel
theorem dX2_run_49 : decode cX2_run 49 = .ok (.ifCond .ne 31, 3) := by decide +kernel
theorem dX2_run_52 : decode cX2_run 52 = .ok (.aload_n 0, 1) := by decide +kernel
theorem dX2_run_53 : decode cX2_run 53 = .ok (.getfield 35, 3) := by decide +kernel
theorem dX2_run_56 : decode cX2_run 56 = .ok (.aload_n 0, 1) := by decide +kernel
theorem dX2_run_57 : decode cX2_run 57 = .ok (.getfield 115, 3) := by decide +kernel
theorem dX2_run_60 : decode cX2_run 60 = .ok (.aload_n 0, 1) := by decide +kernel
theorem dX2_run_61 : decode cX2_run 61 = .ok (.getfield 7, 3) := by decide +kernel
theorem dX2_run_64 : decode cX2_run 64 = .ok (.iload_n 2, 1) := by decide +kernel
theorem dX2_run_65 : decode cX2_run 65 = .ok (.iaload, 1) := by decide +kernel
theorem dX2_run_66 : decode cX2_run 66 = .ok (.iastore, 1) := by decide +kernel
theorem dX2_run_67 : decode cX2_run 67 = .ok (.aload_n 0, 1) := by decide +kernel
theorem dX2_run_68 : decode cX2_run 68 = .ok (.dup, 1) := by decide +kernel
theorem dX2_run_69 : decode cX2_run 69 = .ok (.getfield 115, 3) := by decide +kernel
theorem dX2_run_72 : decode cX2_run 72 = .ok (.iconst 1, 1) := by decide +kernel
theorem dX2_run_73 : decode cX2_run 73 = .ok (.iadd, 1) := by decide +kernel
theorem dX2_run_74 : decode cX2_run 74 = .ok (.putfield 115, 3) := by decide +kernel
theorem dX2_run_77 : decode cX2_run 77 = .ok (.goto 46, 3) := by decide +kernel
theorem dX2_run_80 : decode cX2_run 80 = .ok (.aload_n 0, 1) := by decide +kernel
theorem dX2_run_81 : decode cX2_run 81 = .ok (.getfield 44, 3) := by decide +kernel
theorem dX2_run_84 : decode cX2_run 84 = .ok (.iload_n 2, 1) := by decide +kernel
theorem dX2_run_85 : decode cX2_run 85 = .ok (.iaload, 1) := by decide +kernel
theorem dX2_run_86 : decode cX2_run 86 = .ok (.iconst 1, 1) := by decide +kernel
theorem dX2_run_87 : decode cX2_run 87 = .ok (.if_icmp .ne 26, 3) := by decide +kernel
theorem dX2_run_90 : decode cX2_run 90 = .ok (.aload_n 0, 1) := by decide +kernel
theorem dX2_run_91 : decode cX2_run 91 = .ok (.getfield 38, 3) := by decide +kernel
theorem dX2_run_94 : decode cX2_run 94 = .ok (.aload_n 0, 1) := by decide +kernel
theorem dX2_run_95 : decode cX2_run 95 = .ok (.getfield 118, 3) := by decide +kernel
theorem dX2_run_98 : decode cX2_run 98 = .ok (.iload_n 2, 1) := by decide +kernel
theorem dX2_run_99 : decode cX2_run 99 = .ok (.iastore, 1) := by decide +kernel
theorem dX2_run_100 : decode cX2_run 100 = .ok (.aload_n 0, 1) := by decide +kernel
theorem dX2_run_101 : decode cX2_run 101 = .ok (.dup, 1) := by decide +kernel
theorem dX2_run_102 : decode cX2_run 102 = .ok (.getfield 118, 3) := by decide +kernel
theorem dX2_run_105 : decode cX2_run 105 = .ok (.iconst 1, 1) := by decide +kernel
theorem dX2_run_106 : decode cX2_run 106 = .ok (.iadd, 1) := by decide +kernel
theorem dX2_run_107 : decode cX2_run 107 = .ok (.putfield 118, 3) := by decide +kernel
theorem dX2_run_110 : decode cX2_run 110 = .ok (.goto 13, 3) := by decide +kernel
theorem dX2_run_113 : decode cX2_run 113 = .ok (.aload_n 0, 1) := by decide +kernel
theorem dX2_run_114 : decode cX2_run 114 = .ok (.dup, 1) := by decide +kernel
theorem dX2_run_115 : decode cX2_run 115 = .ok (.getfield 121, 3) := by decide +kernel
theorem dX2_run_118 : decode cX2_run 118 = .ok (.iconst 1, 1) := by decide +kernel
theorem dX2_run_119 : decode cX2_run 119 = .ok (.iadd, 1) := by decide +kernel
theorem dX2_run_120 : decode cX2_run 120 = .ok (.putfield 121, 3) := by decide +kernel
theorem dX2_run_123 : decode cX2_run 123 = .ok (.iinc 2 1, 3) := by decide +kernel
theorem dX2_run_126 : decode cX2_run 126 = .ok (.goto (-91), 3) := by decide +kernel
theorem dX2_run_129 : decode cX2_run 129 = .ok (.aload_n 0, 1) := by decide +kernel
theorem dX2_run_130 : decode cX2_run 130 = .ok (.aload_n 0, 1) := by decide +kernel
theorem dX2_run_131 : decode cX2_run 131 = .ok (.getfield 52, 3) := by decide +kernel
theorem dX2_run_134 : decode cX2_run 134 = .ok (.ifCond .ne 7, 3) := by decide +kernel
theorem dX2_run_137 : decode cX2_run 137 = .ok (.iconst 0, 1) := by decide +kernel
theorem dX2_run_138 : decode cX2_run 138 = .ok (.goto 12, 3) := by decide +kernel
theorem dX2_run_141 : decode cX2_run 141 = .ok (.aload_n 0, 1) := by decide +kernel
theorem dX2_run_142 : decode cX2_run 142 = .ok (.getfield 108, 3) := by decide +kernel
theorem dX2_run_145 : decode cX2_run 145 = .ok (.aload_n 0, 1) := by decide +kernel
theorem dX2_run_146 : decode cX2_run 146 = .ok (.getfield 13, 3) := by decide +kernel
theorem dX2_run_149 : decode cX2_run 149 = .ok (.iadd, 1) := by decide +kernel
theorem dX2_run_150 : decode cX2_run 150 = .ok (.putfield 124, 3) := by decide +kernel
theorem dX2_run_153 : decode cX2_run 153 = .ok (.aload_n 0, 1) := by decide +kernel
theorem dX2_run_154 : decode cX2_run 154 = .ok (.getfield 115, 3) := by decide +kernel
theorem dX2_run_157 : decode cX2_run 157 = .ok (.ireturn, 1) := by decide +kernel
theorem dX2_jams_0 : decode cX2_jams 0 = .ok (.aload_n 0, 1) := by decide +kernel
theorem dX2_jams_1 : decode cX2_jams 1 = .ok (.getfield 118, 3) := by decide +kernel
theorem dX2_jams_4 : decode cX2_jams 4 = .ok (.ireturn, 1) := by decide +kernel
theorem dX2_lost_0 : decode cX2_lost 0 = .ok (.aload_n 0, 1) := by decide +kernel
theorem dX2_lost_1 : decode cX2_lost 1 = .ok (.getfield 121, 3) := by decide +kernel
theorem dX2_lost_4 : decode cX2_lost 4 = .ok (.ireturn, 1) := by decide +kernel
theorem dX2_duration_0 : decode cX2_duration 0 = .ok (.aload_n 0, 1) := by decide +kernel
theorem dX2_duration_1 : decode cX2_duration 1 = .ok (.getfield 124, 3) := by decide +kernel
theorem dX2_duration_4 : decode cX2_duration 4 = .ok (.ireturn, 1) := by decide +kernel
set_option maxRecDepth 20000 in
theorem ggX2_printedLetter_X2_within : GoodIn wsX2_printedLetter wsX2_within := goodIn_r _ [7] (by decide +kernel) (by decide +kernel)
set_option maxRecDepth 20000 in
theorem gX2_printedLetter_X2_within : GoodIn wsX2_printedLetter (va_wsS RX2 47 yX2_within wsX2_within) := goodIn_app (goodIn_of _ (by decide +kernel)) ggX2_printedLetter_X2_within
theorem dX2_printedLetter_0 : decode cX2_printedLetter 0 = .ok (.iload_n 1, 1) := by decide +kernel
theorem dX2_printedLetter_1 : decode cX2_printedLetter 1 = .ok (.iconst 0, 1) := by decide +kernel
theorem dX2_printedLetter_2 : decode cX2_printedLetter 2 = .ok (.aload_n 0, 1) := by decide +kernel
theorem dX2_printedLetter_3 : decode cX2_printedLetter 3 = .ok (.getfield 115, 3) := by decide +kernel
theorem dX2_printedLetter_6 : decode cX2_printedLetter 6 = .ok (.iconst 1, 1) := by decide +kernel
theorem dX2_printedLetter_7 : decode cX2_printedLetter 7 = .ok (.isub, 1) := by decide +kernel
theorem dX2_printedLetter_8 : decode cX2_printedLetter 8 = .ok (.invokestatic 47, 3) := by decide +kernel
theorem dX2_printedLetter_11 : decode cX2_printedLetter 11 = .ok (.ifCond .eq 12, 3) := by decide +kernel
theorem dX2_printedLetter_14 : decode cX2_printedLetter 14 = .ok (.aload_n 0, 1) := by decide +kernel
theorem dX2_printedLetter_15 : decode cX2_printedLetter 15 = .ok (.getfield 35, 3) := by decide +kernel
theorem dX2_printedLetter_18 : decode cX2_printedLetter 18 = .ok (.iload_n 1, 1) := by decide +kernel
theorem dX2_printedLetter_19 : decode cX2_printedLetter 19 = .ok (.iaload, 1) := by decide +kernel
theorem dX2_printedLetter_20 : decode cX2_printedLetter 20 = .ok (.goto 5, 3) := by decide +kernel
theorem dX2_printedLetter_23 : decode cX2_printedLetter 23 = .ok (.ldc 85, 2) := by decide +kernel
theorem dX2_printedLetter_25 : decode cX2_printedLetter 25 = .ok (.ireturn, 1) := by decide +kernel
set_option maxRecDepth 20000 in
theorem ggX2_jammedKeystroke_X2_within : GoodIn wsX2_jammedKeystroke wsX2_within := goodIn_r _ [7] (by decide +kernel) (by decide +kernel)
set_option maxRecDepth 20000 in
theorem gX2_jammedKeystroke_X2_within : GoodIn wsX2_jammedKeystroke (va_wsS RX2 47 yX2_within wsX2_within) := goodIn_app (goodIn_of _ (by decide +kernel)) ggX2_jammedKeystroke_X2_within
theorem dX2_jammedKeystroke_0 : decode cX2_jammedKeystroke 0 = .ok (.iload_n 1, 1) := by decide +kernel
theorem dX2_jammedKeystroke_1 : decode cX2_jammedKeystroke 1 = .ok (.iconst 0, 1) := by decide +kernel
theorem dX2_jammedKeystroke_2 : decode cX2_jammedKeystroke 2 = .ok (.aload_n 0, 1) := by decide +kernel
theorem dX2_jammedKeystroke_3 : decode cX2_jammedKeystroke 3 = .ok (.getfield 118, 3) := by decide +kernel
theorem dX2_jammedKeystroke_6 : decode cX2_jammedKeystroke 6 = .ok (.iconst 1, 1) := by decide +kernel
theorem dX2_jammedKeystroke_7 : decode cX2_jammedKeystroke 7 = .ok (.isub, 1) := by decide +kernel
theorem dX2_jammedKeystroke_8 : decode cX2_jammedKeystroke 8 = .ok (.invokestatic 47, 3) := by decide +kernel
theorem dX2_jammedKeystroke_11 : decode cX2_jammedKeystroke 11 = .ok (.ifCond .eq 12, 3) := by decide +kernel
theorem dX2_jammedKeystroke_14 : decode cX2_jammedKeystroke 14 = .ok (.aload_n 0, 1) := by decide +kernel
theorem dX2_jammedKeystroke_15 : decode cX2_jammedKeystroke 15 = .ok (.getfield 38, 3) := by decide +kernel
theorem dX2_jammedKeystroke_18 : decode cX2_jammedKeystroke 18 = .ok (.iload_n 1, 1) := by decide +kernel
theorem dX2_jammedKeystroke_19 : decode cX2_jammedKeystroke 19 = .ok (.iaload, 1) := by decide +kernel
theorem dX2_jammedKeystroke_20 : decode cX2_jammedKeystroke 20 = .ok (.goto 5, 3) := by decide +kernel
theorem dX2_jammedKeystroke_23 : decode cX2_jammedKeystroke 23 = .ok (.ldc 85, 2) := by decide +kernel
theorem dX2_jammedKeystroke_25 : decode cX2_jammedKeystroke 25 = .ok (.ireturn, 1) := by decide +kernel
set_option maxRecDepth 20000 in
theorem ggX2_isSafe_X2_type : GoodIn wsX2_isSafe wsX2_type := goodIn_r _ [7, 8, 1, 2, 9, 10, 11, 12, 13, 14, 6, 15, 16, 17, 18, 19, 20, 21, 22, 23, 24, 25, 26, 27, 28, 29, 30, 31, 32, 33, 34, 35, 36, 37, 38, 39, 40, 41] (by decide +kernel) (by decide +kernel)
set_option maxRecDepth 20000 in
theorem gX2_isSafe_X2_type : GoodIn wsX2_isSafe (wsV RX2 111 RX2 yX2_type wsX2_type) := goodIn_app (goodIn_of _ (by decide +kernel)) ggX2_isSafe_X2_type
theorem dX2_isSafe_0 : decode cX2_isSafe 0 = .ok (.aload_n 0, 1) := by decide +kernel
theorem dX2_isSafe_1 : decode cX2_isSafe 1 = .ok (.iload_n 1, 1) := by decide +kernel
theorem dX2_isSafe_2 : decode cX2_isSafe 2 = .ok (.invokevirtual 111, 3) := by decide +kernel
theorem dX2_isSafe_5 : decode cX2_isSafe 5 = .ok (.iconst 1, 1) := by decide +kernel
theorem dX2_isSafe_6 : decode cX2_isSafe 6 = .ok (.istore_n 2, 1) := by decide +kernel
theorem dX2_isSafe_7 : decode cX2_isSafe 7 = .ok (.iconst 0, 1) := by decide +kernel
theorem dX2_isSafe_8 : decode cX2_isSafe 8 = .ok (.istore_n 3, 1) := by decide +kernel
theorem dX2_isSafe_9 : decode cX2_isSafe 9 = .ok (.iload_n 3, 1) := by decide +kernel
theorem dX2_isSafe_10 : decode cX2_isSafe 10 = .ok (.aload_n 0, 1) := by decide +kernel
theorem dX2_isSafe_11 : decode cX2_isSafe 11 = .ok (.getfield 52, 3) := by decide +kernel
theorem dX2_isSafe_14 : decode cX2_isSafe 14 = .ok (.if_icmp .ge 28, 3) := by decide +kernel
theorem dX2_isSafe_17 : decode cX2_isSafe 17 = .ok (.iload_n 2, 1) := by decide +kernel
theorem dX2_isSafe_18 : decode cX2_isSafe 18 = .ok (.ifCond .eq 16, 3) := by decide +kernel
theorem dX2_isSafe_21 : decode cX2_isSafe 21 = .ok (.aload_n 0, 1) := by decide +kernel
theorem dX2_isSafe_22 : decode cX2_isSafe 22 = .ok (.getfield 44, 3) := by decide +kernel
theorem dX2_isSafe_25 : decode cX2_isSafe 25 = .ok (.iload_n 3, 1) := by decide +kernel
theorem dX2_isSafe_26 : decode cX2_isSafe 26 = .ok (.iaload, 1) := by decide +kernel
theorem dX2_isSafe_27 : decode cX2_isSafe 27 = .ok (.ifCond .ne 7, 3) := by decide +kernel
theorem dX2_isSafe_30 : decode cX2_isSafe 30 = .ok (.iconst 1, 1) := by decide +kernel
theorem dX2_isSafe_31 : decode cX2_isSafe 31 = .ok (.goto 4, 3) := by decide +kernel
theorem dX2_isSafe_34 : decode cX2_isSafe 34 = .ok (.iconst 0, 1) := by decide +kernel
theorem dX2_isSafe_35 : decode cX2_isSafe 35 = .ok (.istore_n 2, 1) := by decide +kernel
theorem dX2_isSafe_36 : decode cX2_isSafe 36 = .ok (.iinc 3 1, 3) := by decide +kernel
theorem dX2_isSafe_39 : decode cX2_isSafe 39 = .ok (.goto (-30), 3) := by decide +kernel
theorem dX2_isSafe_42 : decode cX2_isSafe 42 = .ok (.iload_n 2, 1) := by decide +kernel
theorem dX2_isSafe_43 : decode cX2_isSafe 43 = .ok (.ireturn, 1) := by decide +kernel
set_option maxRecDepth 20000 in
theorem ggX2_safeNow_X2_isSafe : GoodIn wsX2_safeNow wsX2_isSafe := goodIn_r _ [6, 7, 8, 9, 10, 11, 5, 12, 13, 14, 15, 16, 17, 18, 19, 20, 21, 22, 23, 24, 25, 26, 27, 28, 29, 30, 31, 32, 33, 34, 35, 36, 37, 38, 39, 40, 41, 42, 43, 44, 45, 46] (by decide +kernel) (by decide +kernel)
set_option maxRecDepth 20000 in
theorem gX2_safeNow_X2_isSafe : GoodIn wsX2_safeNow (wsV RX2 127 RX2 yX2_isSafe wsX2_isSafe) := goodIn_app (goodIn_of _ (by decide +kernel)) ggX2_safeNow_X2_isSafe
theorem dX2_safeNow_0 : decode cX2_safeNow 0 = .ok (.iconst 1, 1) := by decide +kernel
theorem dX2_safeNow_1 : decode cX2_safeNow 1 = .ok (.istore_n 1, 1) := by decide +kernel
theorem dX2_safeNow_2 : decode cX2_safeNow 2 = .ok (.iload_n 1, 1) := by decide +kernel
theorem dX2_safeNow_3 : decode cX2_safeNow 3 = .ok (.bipush 30, 2) := by decide +kernel
theorem dX2_safeNow_5 : decode cX2_safeNow 5 = .ok (.if_icmp .gt 19, 3) := by decide +kernel
theorem dX2_safeNow_8 : decode cX2_safeNow 8 = .ok (.aload_n 0, 1) := by decide +kernel
theorem dX2_safeNow_9 : decode cX2_safeNow 9 = .ok (.iload_n 1, 1) := by decide +kernel
theorem dX2_safeNow_10 : decode cX2_safeNow 10 = .ok (.invokevirtual 127, 3) := by decide +kernel
theorem dX2_safeNow_13 : decode cX2_safeNow 13 = .ok (.ifCond .eq 5, 3) := by decide +kernel
theorem dX2_safeNow_16 : decode cX2_safeNow 16 = .ok (.iload_n 1, 1) := by decide +kernel
theorem dX2_safeNow_17 : decode cX2_safeNow 17 = .ok (.ireturn, 1) := by decide +kernel
theorem dX2_safeNow_18 : decode cX2_safeNow 18 = .ok (.iinc 1 1, 3) := by decide +kernel
theorem dX2_safeNow_21 : decode cX2_safeNow 21 = .ok (.goto (-19), 3) := by decide +kernel
theorem dX2_safeNow_24 : decode cX2_safeNow 24 = .ok (.ldc 85, 2) := by decide +kernel
theorem dX2_safeNow_26 : decode cX2_safeNow 26 = .ok (.ireturn, 1) := by decide +kernel
set_option maxRecDepth 20000 in
theorem ggX2_safeInterval_X2_safeNow : GoodIn wsX2_safeInterval wsX2_safeNow := goodIn_r _ [5, 6, 7, 8, 9, 4, 10, 11, 12, 13, 14, 15, 16, 17, 18, 19, 20, 21, 22, 23, 24, 25, 26, 27, 28, 29, 30, 31, 32, 33, 34, 35, 36, 37, 38, 39, 40, 41, 42, 43, 44, 45, 46, 47, 48, 49, 50] (by decide +kernel) (by decide +kernel)
set_option maxRecDepth 20000 in
theorem gX2_safeInterval_X2_safeNow : GoodIn wsX2_safeInterval (wsV RX2 130 RX2 yX2_safeNow wsX2_safeNow) := goodIn_app (goodIn_of _ (by decide +kernel)) ggX2_safeInterval_X2_safeNow
theorem dX2_safeInterval_0 : decode cX2_safeInterval 0 = .ok (.aload_n 0, 1) := by decide +kernel
theorem dX2_safeInterval_1 : decode cX2_safeInterval 1 = .ok (.invokevirtual 130, 3) := by decide +kernel
theorem dX2_safeInterval_4 : decode cX2_safeInterval 4 = .ok (.ireturn, 1) := by decide +kernel
theorem dX2_mix_0 : decode cX2_mix 0 = .ok (.aload_n 0, 1) := by decide +kernel
theorem dX2_mix_1 : decode cX2_mix 1 = .ok (.ldc2_w 133, 3) := by decide +kernel
theorem dX2_mix_4 : decode cX2_mix 4 = .ok (.aload_n 0, 1) := by decide +kernel
theorem dX2_mix_5 : decode cX2_mix 5 = .ok (.getfield 135, 3) := by decide +kernel
theorem dX2_mix_8 : decode cX2_mix 8 = .ok (.lmul, 1) := by decide +kernel
theorem dX2_mix_9 : decode cX2_mix 9 = .ok (.lload_n 1, 1) := by decide +kernel
theorem dX2_mix_10 : decode cX2_mix 10 = .ok (.ladd, 1) := by decide +kernel
theorem dX2_mix_11 : decode cX2_mix 11 = .ok (.putfield 135, 3) := by decide +kernel
theorem dX2_mix_14 : decode cX2_mix 14 = .ok (.return_, 1) := by decide +kernel
set_option maxRecDepth 20000 in
theorem ggX2_digest_X2_mix : GoodIn wsX2_digest wsX2_mix := goodIn_r _ [20, 21, 2, 74, 75, 76, 77, 78, 79, 80, 81, 82, 83, 84, 85, 86, 87, 88, 89, 90, 91, 92, 93] (by decide +kernel) (by decide +kernel)
set_option maxRecDepth 20000 in
theorem gX2_digest_X2_mix : GoodIn wsX2_digest (wsV RX2 141 RX2 yX2_mix wsX2_mix) := goodIn_app (goodIn_of _ (by decide +kernel)) ggX2_digest_X2_mix
set_option maxRecDepth 20000 in
theorem ggX2_digest_X2_costNow : GoodIn wsX2_digest wsX2_costNow := goodIn_r _ [25, 3, 4, 26, 27, 28, 19, 29, 6, 30, 31, 32, 33, 74, 75, 76, 77, 78, 79, 80, 81, 82, 83, 84, 85, 86, 87, 88, 89, 90, 91, 92, 93] (by decide +kernel) (by decide +kernel)
set_option maxRecDepth 20000 in
theorem gX2_digest_X2_costNow : GoodIn wsX2_digest (wsV RX2 81 RX2 yX2_costNow wsX2_costNow) := goodIn_app (goodIn_of _ (by decide +kernel)) ggX2_digest_X2_costNow
set_option maxRecDepth 20000 in
theorem ggX2_digest_X2_bestNow : GoodIn wsX2_digest wsX2_bestNow := goodIn_r _ [37, 38, 39, 40, 41, 19, 42, 22, 23, 24, 25, 3, 4, 26, 27, 28, 29, 6, 30, 31, 32, 33, 43, 44, 45, 46, 8, 74, 75, 76, 77, 78, 79, 80, 81, 82, 83, 84, 85, 86, 87, 88, 89, 90, 91, 92, 93] (by decide +kernel) (by decide +kernel)
set_option maxRecDepth 20000 in
theorem gX2_digest_X2_bestNow : GoodIn wsX2_digest (wsV RX2 95 RX2 yX2_bestNow wsX2_bestNow) := goodIn_app (goodIn_of _ (by decide +kernel)) ggX2_digest_X2_bestNow
set_option maxRecDepth 20000 in
theorem ggX2_digest_X2_worstNow : GoodIn wsX2_digest wsX2_worstNow := goodIn_r _ [50, 38, 51, 52, 53, 19, 54, 3, 4, 26, 27, 28, 29, 6, 30, 31, 32, 33, 74, 75, 76, 77, 78, 79, 80, 81, 82, 83, 84, 85, 86, 87, 88, 89, 90, 91, 92, 93] (by decide +kernel) (by decide +kernel)
set_option maxRecDepth 20000 in
theorem gX2_digest_X2_worstNow : GoodIn wsX2_digest (wsV RX2 102 RX2 yX2_worstNow wsX2_worstNow) := goodIn_app (goodIn_of _ (by decide +kernel)) ggX2_digest_X2_worstNow
set_option maxRecDepth 20000 in
theorem ggX2_digest_X2_safeNow : GoodIn wsX2_digest wsX2_safeNow := goodIn_r _ [58, 38, 59, 60, 61, 19, 62, 3, 63, 64, 65, 66, 67, 68, 7, 4, 69, 70, 71, 72, 73, 30, 6, 5, 31, 32, 33, 74, 75, 76, 77, 78, 79, 80, 81, 82, 83, 84, 85, 86, 87, 88, 89, 90, 91, 92, 93] (by decide +kernel) (by decide +kernel)
set_option maxRecDepth 20000 in
theorem gX2_digest_X2_safeNow : GoodIn wsX2_digest (wsV RX2 130 RX2 yX2_safeNow wsX2_safeNow) := goodIn_app (goodIn_of _ (by decide +kernel)) ggX2_digest_X2_safeNow
theorem dX2_digest_0 : decode cX2_digest 0 = .ok (.aload_n 0, 1) := by decide +kernel
theorem dX2_digest_1 : decode cX2_digest 1 = .ok (.ldc2_w 139, 3) := by decide +kernel
theorem dX2_digest_4 : decode cX2_digest 4 = .ok (.putfield 135, 3) := by decide +kernel
theorem dX2_digest_7 : decode cX2_digest 7 = .ok (.aload_n 0, 1) := by decide +kernel
theorem dX2_digest_8 : decode cX2_digest 8 = .ok (.aload_n 0, 1) := by decide +kernel
theorem dX2_digest_9 : decode cX2_digest 9 = .ok (.getfield 52, 3) := by decide +kernel
theorem dX2_digest_12 : decode cX2_digest 12 = .ok (.i2l, 1) := by decide +kernel
theorem dX2_digest_13 : decode cX2_digest 13 = .ok (.invokevirtual 141, 3) := by decide +kernel
theorem dX2_digest_16 : decode cX2_digest 16 = .ok (.iconst 0, 1) := by decide +kernel
theorem dX2_digest_17 : decode cX2_digest 17 = .ok (.istore_n 1, 1) := by decide +kernel
theorem dX2_digest_18 : decode cX2_digest 18 = .ok (.iload_n 1, 1) := by decide +kernel
theorem dX2_digest_19 : decode cX2_digest 19 = .ok (.aload_n 0, 1) := by decide +kernel
theorem dX2_digest_20 : decode cX2_digest 20 = .ok (.getfield 52, 3) := by decide +kernel
theorem dX2_digest_23 : decode cX2_digest 23 = .ok (.if_icmp .ge 20, 3) := by decide +kernel
theorem dX2_digest_26 : decode cX2_digest 26 = .ok (.aload_n 0, 1) := by decide +kernel
theorem dX2_digest_27 : decode cX2_digest 27 = .ok (.aload_n 0, 1) := by decide +kernel
theorem dX2_digest_28 : decode cX2_digest 28 = .ok (.getfield 7, 3) := by decide +kernel
theorem dX2_digest_31 : decode cX2_digest 31 = .ok (.iload_n 1, 1) := by decide +kernel
theorem dX2_digest_32 : decode cX2_digest 32 = .ok (.iaload, 1) := by decide +kernel
theorem dX2_digest_33 : decode cX2_digest 33 = .ok (.i2l, 1) := by decide +kernel
theorem dX2_digest_34 : decode cX2_digest 34 = .ok (.invokevirtual 141, 3) := by decide +kernel
theorem dX2_digest_37 : decode cX2_digest 37 = .ok (.iinc 1 1, 3) := by decide +kernel
theorem dX2_digest_40 : decode cX2_digest 40 = .ok (.goto (-22), 3) := by decide +kernel
theorem dX2_digest_43 : decode cX2_digest 43 = .ok (.aload_n 0, 1) := by decide +kernel
theorem dX2_digest_44 : decode cX2_digest 44 = .ok (.aload_n 0, 1) := by decide +kernel
theorem dX2_digest_45 : decode cX2_digest 45 = .ok (.getfield 13, 3) := by decide +kernel
theorem dX2_digest_48 : decode cX2_digest 48 = .ok (.i2l, 1) := by decide +kernel
theorem dX2_digest_49 : decode cX2_digest 49 = .ok (.invokevirtual 141, 3) := by decide +kernel
theorem dX2_digest_52 : decode cX2_digest 52 = .ok (.aload_n 0, 1) := by decide +kernel
theorem dX2_digest_53 : decode cX2_digest 53 = .ok (.aload_n 0, 1) := by decide +kernel
theorem dX2_digest_54 : decode cX2_digest 54 = .ok (.getfield 17, 3) := by decide +kernel
theorem dX2_digest_57 : decode cX2_digest 57 = .ok (.i2l, 1) := by decide +kernel
theorem dX2_digest_58 : decode cX2_digest 58 = .ok (.invokevirtual 141, 3) := by decide +kernel
theorem dX2_digest_61 : decode cX2_digest 61 = .ok (.aload_n 0, 1) := by decide +kernel
theorem dX2_digest_62 : decode cX2_digest 62 = .ok (.aload_n 0, 1) := by decide +kernel
theorem dX2_digest_63 : decode cX2_digest 63 = .ok (.getfield 20, 3) := by decide +kernel
theorem dX2_digest_66 : decode cX2_digest 66 = .ok (.i2l, 1) := by decide +kernel
theorem dX2_digest_67 : decode cX2_digest 67 = .ok (.invokevirtual 141, 3) := by decide +kernel
theorem dX2_digest_70 : decode cX2_digest 70 = .ok (.iconst 0, 1) := by decide +kernel
theorem dX2_digest_71 : decode cX2_digest 71 = .ok (.istore_n 1, 1) := by decide +kernel
theorem dX2_digest_72 : decode cX2_digest 72 = .ok (.iload_n 1, 1) := by decide +kernel
theorem dX2_digest_73 : decode cX2_digest 73 = .ok (.bipush 12, 2) := by decide +kernel
theorem dX2_digest_75 : decode cX2_digest 75 = .ok (.if_icmp .ge 20, 3) := by decide +kernel
theorem dX2_digest_78 : decode cX2_digest 78 = .ok (.aload_n 0, 1) := by decide +kernel
theorem dX2_digest_79 : decode cX2_digest 79 = .ok (.aload_n 0, 1) := by decide +kernel
theorem dX2_digest_80 : decode cX2_digest 80 = .ok (.getfield 26, 3) := by decide +kernel
theorem dX2_digest_83 : decode cX2_digest 83 = .ok (.iload_n 1, 1) := by decide +kernel
theorem dX2_digest_84 : decode cX2_digest 84 = .ok (.iaload, 1) := by decide +kernel
theorem dX2_digest_85 : decode cX2_digest 85 = .ok (.i2l, 1) := by decide +kernel
theorem dX2_digest_86 : decode cX2_digest 86 = .ok (.invokevirtual 141, 3) := by decide +kernel
theorem dX2_digest_89 : decode cX2_digest 89 = .ok (.iinc 1 1, 3) := by decide +kernel
theorem dX2_digest_92 : decode cX2_digest 92 = .ok (.goto (-20), 3) := by decide +kernel
theorem dX2_digest_95 : decode cX2_digest 95 = .ok (.aload_n 0, 1) := by decide +kernel
theorem dX2_digest_96 : decode cX2_digest 96 = .ok (.aload_n 0, 1) := by decide +kernel
theorem dX2_digest_97 : decode cX2_digest 97 = .ok (.getfield 66, 3) := by decide +kernel
theorem dX2_digest_100 : decode cX2_digest 100 = .ok (.i2l, 1) := by decide +kernel
theorem dX2_digest_101 : decode cX2_digest 101 = .ok (.invokevirtual 141, 3) := by decide +kernel
theorem dX2_digest_104 : decode cX2_digest 104 = .ok (.aload_n 0, 1) := by decide +kernel
theorem dX2_digest_105 : decode cX2_digest 105 = .ok (.aload_n 0, 1) := by decide +kernel
theorem dX2_digest_106 : decode cX2_digest 106 = .ok (.invokevirtual 81, 3) := by decide +kernel
theorem dX2_digest_109 : decode cX2_digest 109 = .ok (.i2l, 1) := by decide +kernel
theorem dX2_digest_110 : decode cX2_digest 110 = .ok (.invokevirtual 141, 3) := by decide +kernel
theorem dX2_digest_113 : decode cX2_digest 113 = .ok (.aload_n 0, 1) := by decide +kernel
theorem dX2_digest_114 : decode cX2_digest 114 = .ok (.aload_n 0, 1) := by decide +kernel
theorem dX2_digest_115 : decode cX2_digest 115 = .ok (.invokevirtual 95, 3) := by decide +kernel
theorem dX2_digest_118 : decode cX2_digest 118 = .ok (.i2l, 1) := by decide +kernel
theorem dX2_digest_119 : decode cX2_digest 119 = .ok (.invokevirtual 141, 3) := by decide +kernel
theorem dX2_digest_122 : decode cX2_digest 122 = .ok (.aload_n 0, 1) := by decide +kernel
theorem dX2_digest_123 : decode cX2_digest 123 = .ok (.aload_n 0, 1) := by decide +kernel
theorem dX2_digest_124 : decode cX2_digest 124 = .ok (.invokevirtual 102, 3) := by decide +kernel
theorem dX2_digest_127 : decode cX2_digest 127 = .ok (.i2l, 1) := by decide +kernel
theorem dX2_digest_128 : decode cX2_digest 128 = .ok (.invokevirtual 141, 3) := by decide +kernel
theorem dX2_digest_131 : decode cX2_digest 131 = .ok (.aload_n 0, 1) := by decide +kernel
theorem dX2_digest_132 : decode cX2_digest 132 = .ok (.aload_n 0, 1) := by decide +kernel
theorem dX2_digest_133 : decode cX2_digest 133 = .ok (.invokevirtual 130, 3) := by decide +kernel
theorem dX2_digest_136 : decode cX2_digest 136 = .ok (.i2l, 1) := by decide +kernel
theorem dX2_digest_137 : decode cX2_digest 137 = .ok (.invokevirtual 141, 3) := by decide +kernel
theorem dX2_digest_140 : decode cX2_digest 140 = .ok (.aload_n 0, 1) := by decide +kernel
theorem dX2_digest_141 : decode cX2_digest 141 = .ok (.aload_n 0, 1) := by decide +kernel
theorem dX2_digest_142 : decode cX2_digest 142 = .ok (.getfield 118, 3) := by decide +kernel
theorem dX2_digest_145 : decode cX2_digest 145 = .ok (.i2l, 1) := by decide +kernel
theorem dX2_digest_146 : decode cX2_digest 146 = .ok (.invokevirtual 141, 3) := by decide +kernel
theorem dX2_digest_149 : decode cX2_digest 149 = .ok (.aload_n 0, 1) := by decide +kernel
theorem dX2_digest_150 : decode cX2_digest 150 = .ok (.aload_n 0, 1) := by decide +kernel
theorem dX2_digest_151 : decode cX2_digest 151 = .ok (.getfield 121, 3) := by decide +kernel
theorem dX2_digest_154 : decode cX2_digest 154 = .ok (.i2l, 1) := by decide +kernel
theorem dX2_digest_155 : decode cX2_digest 155 = .ok (.invokevirtual 141, 3) := by decide +kernel
theorem dX2_digest_158 : decode cX2_digest 158 = .ok (.aload_n 0, 1) := by decide +kernel
theorem dX2_digest_159 : decode cX2_digest 159 = .ok (.aload_n 0, 1) := by decide +kernel
theorem dX2_digest_160 : decode cX2_digest 160 = .ok (.getfield 124, 3) := by decide +kernel
theorem dX2_digest_163 : decode cX2_digest 163 = .ok (.i2l, 1) := by decide +kernel
theorem dX2_digest_164 : decode cX2_digest 164 = .ok (.invokevirtual 141, 3) := by decide +kernel
theorem dX2_digest_167 : decode cX2_digest 167 = .ok (.aload_n 0, 1) := by decide +kernel
theorem dX2_digest_168 : decode cX2_digest 168 = .ok (.aload_n 0, 1) := by decide +kernel
theorem dX2_digest_169 : decode cX2_digest 169 = .ok (.getfield 115, 3) := by decide +kernel
theorem dX2_digest_172 : decode cX2_digest 172 = .ok (.i2l, 1) := by decide +kernel
theorem dX2_digest_173 : decode cX2_digest 173 = .ok (.invokevirtual 141, 3) := by decide +kernel
theorem dX2_digest_176 : decode cX2_digest 176 = .ok (.iconst 0, 1) := by decide +kernel
theorem dX2_digest_177 : decode cX2_digest 177 = .ok (.istore_n 1, 1) := by decide +kernel
theorem dX2_digest_178 : decode cX2_digest 178 = .ok (.iload_n 1, 1) := by decide +kernel
theorem dX2_digest_179 : decode cX2_digest 179 = .ok (.aload_n 0, 1) := by decide +kernel
theorem dX2_digest_180 : decode cX2_digest 180 = .ok (.getfield 115, 3) := by decide +kernel
theorem dX2_digest_183 : decode cX2_digest 183 = .ok (.if_icmp .ge 20, 3) := by decide +kernel
theorem dX2_digest_186 : decode cX2_digest 186 = .ok (.aload_n 0, 1) := by decide +kernel
theorem dX2_digest_187 : decode cX2_digest 187 = .ok (.aload_n 0, 1) := by decide +kernel
theorem dX2_digest_188 : decode cX2_digest 188 = .ok (.getfield 35, 3) := by decide +kernel
theorem dX2_digest_191 : decode cX2_digest 191 = .ok (.iload_n 1, 1) := by decide +kernel
theorem dX2_digest_192 : decode cX2_digest 192 = .ok (.iaload, 1) := by decide +kernel
theorem dX2_digest_193 : decode cX2_digest 193 = .ok (.i2l, 1) := by decide +kernel
theorem dX2_digest_194 : decode cX2_digest 194 = .ok (.invokevirtual 141, 3) := by decide +kernel
theorem dX2_digest_197 : decode cX2_digest 197 = .ok (.iinc 1 1, 3) := by decide +kernel
theorem dX2_digest_200 : decode cX2_digest 200 = .ok (.goto (-22), 3) := by decide +kernel
theorem dX2_digest_203 : decode cX2_digest 203 = .ok (.iconst 0, 1) := by decide +kernel
theorem dX2_digest_204 : decode cX2_digest 204 = .ok (.istore_n 1, 1) := by decide +kernel
theorem dX2_digest_205 : decode cX2_digest 205 = .ok (.iload_n 1, 1) := by decide +kernel
theorem dX2_digest_206 : decode cX2_digest 206 = .ok (.aload_n 0, 1) := by decide +kernel
theorem dX2_digest_207 : decode cX2_digest 207 = .ok (.getfield 118, 3) := by decide +kernel
theorem dX2_digest_210 : decode cX2_digest 210 = .ok (.if_icmp .ge 20, 3) := by decide +kernel
theorem dX2_digest_213 : decode cX2_digest 213 = .ok (.aload_n 0, 1) := by decide +kernel
theorem dX2_digest_214 : decode cX2_digest 214 = .ok (.aload_n 0, 1) := by decide +kernel
theorem dX2_digest_215 : decode cX2_digest 215 = .ok (.getfield 38, 3) := by decide +kernel
theorem dX2_digest_218 : decode cX2_digest 218 = .ok (.iload_n 1, 1) := by decide +kernel
theorem dX2_digest_219 : decode cX2_digest 219 = .ok (.iaload, 1) := by decide +kernel
theorem dX2_digest_220 : decode cX2_digest 220 = .ok (.i2l, 1) := by decide +kernel
theorem dX2_digest_221 : decode cX2_digest 221 = .ok (.invokevirtual 141, 3) := by decide +kernel
theorem dX2_digest_224 : decode cX2_digest 224 = .ok (.iinc 1 1, 3) := by decide +kernel
theorem dX2_digest_227 : decode cX2_digest 227 = .ok (.goto (-22), 3) := by decide +kernel
theorem dX2_digest_230 : decode cX2_digest 230 = .ok (.aload_n 0, 1) := by decide +kernel
theorem dX2_digest_231 : decode cX2_digest 231 = .ok (.getfield 135, 3) := by decide +kernel
theorem dX2_digest_234 : decode cX2_digest 234 = .ok (.lreturn, 1) := by decide +kernel
theorem dJ9_abs_0f7a4_0 : decode cJ9_abs_0f7a4 0 = .ok (.iload_n 0, 1) := by decide +kernel
theorem dJ9_abs_0f7a4_1 : decode cJ9_abs_0f7a4 1 = .ok (.ifCond .ge 8, 3) := by decide +kernel
theorem dJ9_abs_0f7a4_4 : decode cJ9_abs_0f7a4 4 = .ok (.iload_n 0, 1) := by decide +kernel
theorem dJ9_abs_0f7a4_5 : decode cJ9_abs_0f7a4 5 = .ok (.ineg, 1) := by decide +kernel
theorem dJ9_abs_0f7a4_6 : decode cJ9_abs_0f7a4 6 = .ok (.goto 4, 3) := by decide +kernel
theorem dJ9_abs_0f7a4_9 : decode cJ9_abs_0f7a4 9 = .ok (.iload_n 0, 1) := by decide +kernel
theorem dJ9_abs_0f7a4_10 : decode cJ9_abs_0f7a4 10 = .ok (.ireturn, 1) := by decide +kernel
theorem dJ9_max_7cf53_0 : decode cJ9_max_7cf53 0 = .ok (.iload_n 0, 1) := by decide +kernel
theorem dJ9_max_7cf53_1 : decode cJ9_max_7cf53 1 = .ok (.iload_n 1, 1) := by decide +kernel
theorem dJ9_max_7cf53_2 : decode cJ9_max_7cf53 2 = .ok (.if_icmp .lt 7, 3) := by decide +kernel
theorem dJ9_max_7cf53_5 : decode cJ9_max_7cf53 5 = .ok (.iload_n 0, 1) := by decide +kernel
theorem dJ9_max_7cf53_6 : decode cJ9_max_7cf53 6 = .ok (.goto 4, 3) := by decide +kernel
theorem dJ9_max_7cf53_9 : decode cJ9_max_7cf53 9 = .ok (.iload_n 1, 1) := by decide +kernel
theorem dJ9_max_7cf53_10 : decode cJ9_max_7cf53 10 = .ok (.ireturn, 1) := by decide +kernel
theorem dJ9_min_7cf53_0 : decode cJ9_min_7cf53 0 = .ok (.iload_n 0, 1) := by decide +kernel
theorem dJ9_min_7cf53_1 : decode cJ9_min_7cf53 1 = .ok (.iload_n 1, 1) := by decide +kernel
theorem dJ9_min_7cf53_2 : decode cJ9_min_7cf53 2 = .ok (.if_icmp .gt 7, 3) := by decide +kernel
theorem dJ9_min_7cf53_5 : decode cJ9_min_7cf53 5 = .ok (.iload_n 0, 1) := by decide +kernel
theorem dJ9_min_7cf53_6 : decode cJ9_min_7cf53 6 = .ok (.goto 4, 3) := by decide +kernel
theorem dJ9_min_7cf53_9 : decode cJ9_min_7cf53 9 = .ok (.iload_n 1, 1) := by decide +kernel
theorem dJ9_min_7cf53_10 : decode cJ9_min_7cf53 10 = .ok (.ireturn, 1) := by decide +kernel
set_option maxRecDepth 20000 in
theorem ggL_law_X1_init : GoodIn wsL_law wsX1_init := goodIn_r _ [8, 9, 10, 11, 12, 13, 14, 15, 16, 17, 18, 19, 20, 21, 22, 23, 24, 25, 26, 27, 28, 29, 30, 31, 32, 33, 34, 35, 36, 37, 440, 441, 442, 443, 444, 445, 446, 447, 448, 449, 450, 451, 472, 473, 474, 475, 476, 477, 478] (by decide +kernel) (by decide +kernel)
set_option maxRecDepth 20000 in
theorem gL_law_X1_init : GoodIn wsL_law (wsX1_init) := ggL_law_X1_init
set_option maxRecDepth 20000 in
theorem ggL_law_X2_init : GoodIn wsL_law wsX2_init := goodIn_r _ [40, 41, 10, 11, 12, 42, 43, 44, 45, 46, 47, 48, 49, 50, 51, 52, 53, 452, 453, 454, 455, 456, 457, 458, 459, 460, 461, 462, 463, 464, 465, 466, 467, 468, 469, 470, 471] (by decide +kernel) (by decide +kernel)
set_option maxRecDepth 20000 in
theorem gL_law_X2_init : GoodIn wsL_law (wsX2_init) := ggL_law_X2_init
set_option maxRecDepth 20000 in
theorem ggL_law_X1_append : GoodIn wsL_law wsX1_append := goodIn_r _ [57, 58, 14, 59, 13, 440, 441, 442, 443, 444, 445, 446, 447, 448, 449, 450, 451] (by decide +kernel) (by decide +kernel)
set_option maxRecDepth 20000 in
theorem gL_law_X1_append : GoodIn wsL_law (wsV RL 13 RX1 yX1_append wsX1_append) := goodIn_app (goodIn_of _ (by decide +kernel)) ggL_law_X1_append
set_option maxRecDepth 20000 in
theorem ggL_law_X2_append : GoodIn wsL_law wsX2_append := goodIn_r _ [63, 64, 65, 66, 42, 67, 68, 5, 69, 452, 453, 454, 455, 456, 457, 458, 459, 460, 461, 462, 463, 464, 465, 466, 467, 468, 469, 470, 471] (by decide +kernel) (by decide +kernel)
set_option maxRecDepth 20000 in
theorem gL_law_X2_append : GoodIn wsL_law (wsV RL 17 RX2 yX2_append wsX2_append) := goodIn_app (goodIn_of _ (by decide +kernel)) ggL_law_X2_append
set_option maxRecDepth 20000 in
theorem ggL_law_X1_clearText : GoodIn wsL_law wsX1_clearText := goodIn_r _ [73, 14, 440, 441, 442, 443, 444, 445, 446, 447, 448, 449, 450, 451] (by decide +kernel) (by decide +kernel)
set_option maxRecDepth 20000 in
theorem gL_law_X1_clearText : GoodIn wsL_law (wsV RL 18 RX1 yX1_clearText wsX1_clearText) := goodIn_app (goodIn_of _ (by decide +kernel)) ggL_law_X1_clearText
set_option maxRecDepth 20000 in
theorem ggL_law_X2_clearText : GoodIn wsL_law wsX2_clearText := goodIn_r _ [77, 65, 452, 453, 454, 455, 456, 457, 458, 459, 460, 461, 462, 463, 464, 465, 466, 467, 468, 469, 470, 471] (by decide +kernel) (by decide +kernel)
set_option maxRecDepth 20000 in
theorem gL_law_X2_clearText : GoodIn wsL_law (wsV RL 22 RX2 yX2_clearText wsX2_clearText) := goodIn_app (goodIn_of _ (by decide +kernel)) ggL_law_X2_clearText
set_option maxRecDepth 20000 in
theorem ggL_law_X1_pairCount : GoodIn wsL_law wsX1_pairCount := goodIn_r _ [81, 82, 14, 13, 83, 84, 2, 85, 86, 87, 88, 440, 441, 442, 443, 444, 445, 446, 447, 448, 449, 450, 451] (by decide +kernel) (by decide +kernel)
set_option maxRecDepth 20000 in
theorem gL_law_X1_pairCount : GoodIn wsL_law (wsV RL 23 RX1 yX1_pairCount wsX1_pairCount) := goodIn_app (goodIn_of _ (by decide +kernel)) ggL_law_X1_pairCount
set_option maxRecDepth 20000 in
theorem ggL_law_X2_pairCount : GoodIn wsL_law wsX2_pairCount := goodIn_r _ [92, 93, 65, 42, 94, 95, 5, 96, 67, 68, 69, 452, 453, 454, 455, 456, 457, 458, 459, 460, 461, 462, 463, 464, 465, 466, 467, 468, 469, 470, 471] (by decide +kernel) (by decide +kernel)
set_option maxRecDepth 20000 in
theorem gL_law_X2_pairCount : GoodIn wsL_law (wsV RL 27 RX2 yX2_pairCount wsX2_pairCount) := goodIn_app (goodIn_of _ (by decide +kernel)) ggL_law_X2_pairCount
set_option maxRecDepth 20000 in
theorem ggL_law_X1_setTravelTime : GoodIn wsL_law wsX1_setTravelTime := goodIn_r _ [100, 82, 15, 440, 441, 442, 443, 444, 445, 446, 447, 448, 449, 450, 451] (by decide +kernel) (by decide +kernel)
set_option maxRecDepth 20000 in
theorem gL_law_X1_setTravelTime : GoodIn wsL_law (wsV RL 28 RX1 yX1_setTravelTime wsX1_setTravelTime) := goodIn_app (goodIn_of _ (by decide +kernel)) ggL_law_X1_setTravelTime
set_option maxRecDepth 20000 in
theorem ggL_law_X2_setTravelTime : GoodIn wsL_law wsX2_setTravelTime := goodIn_r _ [104, 93, 43, 67, 68, 5, 69, 452, 453, 454, 455, 456, 457, 458, 459, 460, 461, 462, 463, 464, 465, 466, 467, 468, 469, 470, 471] (by decide +kernel) (by decide +kernel)
set_option maxRecDepth 20000 in
theorem gL_law_X2_setTravelTime : GoodIn wsL_law (wsV RL 31 RX2 yX2_setTravelTime wsX2_setTravelTime) := goodIn_app (goodIn_of _ (by decide +kernel)) ggL_law_X2_setTravelTime
set_option maxRecDepth 20000 in
theorem ggL_law_X1_setClashDistance : GoodIn wsL_law wsX1_setClashDistance := goodIn_r _ [108, 82, 16, 440, 441, 442, 443, 444, 445, 446, 447, 448, 449, 450, 451] (by decide +kernel) (by decide +kernel)
set_option maxRecDepth 20000 in
theorem gL_law_X1_setClashDistance : GoodIn wsL_law (wsV RL 32 RX1 yX1_setClashDistance wsX1_setClashDistance) := goodIn_app (goodIn_of _ (by decide +kernel)) ggL_law_X1_setClashDistance
set_option maxRecDepth 20000 in
theorem ggL_law_X2_setClashDistance : GoodIn wsL_law wsX2_setClashDistance := goodIn_r _ [112, 93, 44, 67, 68, 5, 69, 452, 453, 454, 455, 456, 457, 458, 459, 460, 461, 462, 463, 464, 465, 466, 467, 468, 469, 470, 471] (by decide +kernel) (by decide +kernel)
set_option maxRecDepth 20000 in
theorem gL_law_X2_setClashDistance : GoodIn wsL_law (wsV RL 35 RX2 yX2_setClashDistance wsX2_setClashDistance) := goodIn_app (goodIn_of _ (by decide +kernel)) ggL_law_X2_setClashDistance
set_option maxRecDepth 20000 in
theorem ggL_law_X1_setClearingTime : GoodIn wsL_law wsX1_setClearingTime := goodIn_r _ [116, 82, 17, 440, 441, 442, 443, 444, 445, 446, 447, 448, 449, 450, 451] (by decide +kernel) (by decide +kernel)
set_option maxRecDepth 20000 in
theorem gL_law_X1_setClearingTime : GoodIn wsL_law (wsV RL 36 RX1 yX1_setClearingTime wsX1_setClearingTime) := goodIn_app (goodIn_of _ (by decide +kernel)) ggL_law_X1_setClearingTime
set_option maxRecDepth 20000 in
theorem ggL_law_X2_setClearingTime : GoodIn wsL_law wsX2_setClearingTime := goodIn_r _ [120, 93, 45, 67, 68, 5, 69, 452, 453, 454, 455, 456, 457, 458, 459, 460, 461, 462, 463, 464, 465, 466, 467, 468, 469, 470, 471] (by decide +kernel) (by decide +kernel)
set_option maxRecDepth 20000 in
theorem gL_law_X2_setClearingTime : GoodIn wsL_law (wsV RL 39 RX2 yX2_setClearingTime wsX2_setClearingTime) := goodIn_app (goodIn_of _ (by decide +kernel)) ggL_law_X2_setClearingTime
set_option maxRecDepth 20000 in
theorem ggL_law_X1_loadLayout : GoodIn wsL_law wsX1_loadLayout := goodIn_r _ [124, 125, 13, 14, 22, 126, 127, 128, 2, 129, 130, 131, 132, 133, 18, 19, 440, 441, 442, 443, 444, 445, 446, 447, 448, 449, 450, 451] (by decide +kernel) (by decide +kernel)
set_option maxRecDepth 20000 in
theorem gL_law_X1_loadLayout : GoodIn wsL_law (wsV RL 40 RX1 yX1_loadLayout wsX1_loadLayout) := goodIn_app (goodIn_of _ (by decide +kernel)) ggL_law_X1_loadLayout
set_option maxRecDepth 20000 in
theorem ggL_law_X2_loadLayout : GoodIn wsL_law wsX2_loadLayout := goodIn_r _ [137, 138, 47, 42, 46, 65, 139, 140, 141, 142, 5, 143, 452, 453, 454, 455, 456, 457, 458, 459, 460, 461, 462, 463, 464, 465, 466, 467, 468, 469, 470, 471] (by decide +kernel) (by decide +kernel)
set_option maxRecDepth 20000 in
theorem gL_law_X2_loadLayout : GoodIn wsL_law (wsV RL 43 RX2 yX2_loadLayout wsX2_loadLayout) := goodIn_app (goodIn_of _ (by decide +kernel)) ggL_law_X2_loadLayout
set_option maxRecDepth 20000 in
theorem ggL_law_X1_letterAt : GoodIn wsL_law wsX1_letterAt := goodIn_r _ [147, 18, 82, 83, 84, 2, 85, 440, 441, 442, 443, 444, 445, 446, 447, 448, 449, 450, 451] (by decide +kernel) (by decide +kernel)
set_option maxRecDepth 20000 in
theorem gL_law_X1_letterAt : GoodIn wsL_law (wsV RL 44 RX1 yX1_letterAt wsX1_letterAt) := goodIn_app (goodIn_of _ (by decide +kernel)) ggL_law_X1_letterAt
set_option maxRecDepth 20000 in
theorem ggL_law_X2_letterAt : GoodIn wsL_law wsX2_letterAt := goodIn_r _ [151, 47, 93, 67, 68, 5, 69, 452, 453, 454, 455, 456, 457, 458, 459, 460, 461, 462, 463, 464, 465, 466, 467, 468, 469, 470, 471] (by decide +kernel) (by decide +kernel)
set_option maxRecDepth 20000 in
theorem gL_law_X2_letterAt : GoodIn wsL_law (wsV RL 47 RX2 yX2_letterAt wsX2_letterAt) := goodIn_app (goodIn_of _ (by decide +kernel)) ggL_law_X2_letterAt
set_option maxRecDepth 20000 in
theorem ggL_law_X1_positionOf : GoodIn wsL_law wsX1_positionOf := goodIn_r _ [155, 19, 82, 83, 84, 2, 85, 440, 441, 442, 443, 444, 445, 446, 447, 448, 449, 450, 451] (by decide +kernel) (by decide +kernel)
set_option maxRecDepth 20000 in
theorem gL_law_X1_positionOf : GoodIn wsL_law (wsV RL 48 RX1 yX1_positionOf wsX1_positionOf) := goodIn_app (goodIn_of _ (by decide +kernel)) ggL_law_X1_positionOf
set_option maxRecDepth 20000 in
theorem ggL_law_X2_positionOf : GoodIn wsL_law wsX2_positionOf := goodIn_r _ [159, 46, 93, 94, 95, 5, 96, 67, 68, 69, 452, 453, 454, 455, 456, 457, 458, 459, 460, 461, 462, 463, 464, 465, 466, 467, 468, 469, 470, 471] (by decide +kernel) (by decide +kernel)
set_option maxRecDepth 20000 in
theorem gL_law_X2_positionOf : GoodIn wsL_law (wsV RL 51 RX2 yX2_positionOf wsX2_positionOf) := goodIn_app (goodIn_of _ (by decide +kernel)) ggL_law_X2_positionOf
set_option maxRecDepth 20000 in
theorem ggL_law_X1_swap : GoodIn wsL_law wsX1_swap := goodIn_r _ [163, 164, 165, 2, 166, 82, 167, 83, 84, 85, 168, 169, 170, 171, 22, 20, 21, 172, 173, 174, 175, 18, 130, 131, 132, 133, 19, 176, 177, 178, 179, 180, 181, 182, 183, 14, 13, 184, 185, 186, 187, 188, 189, 190, 191, 16, 192, 193, 194, 440, 441, 442, 443, 444, 445, 446, 447, 448, 449, 450, 451] (by decide +kernel) (by decide +kernel)
set_option maxRecDepth 20000 in
theorem gL_law_X1_swap : GoodIn wsL_law (wsV RL 52 RX1 yX1_swap wsX1_swap) := goodIn_app (goodIn_of _ (by decide +kernel)) ggL_law_X1_swap
set_option maxRecDepth 20000 in
theorem ggL_law_X2_swap : GoodIn wsL_law wsX2_swap := goodIn_r _ [198, 199, 200, 5, 201, 93, 202, 94, 95, 96, 67, 68, 69, 203, 204, 205, 206, 48, 139, 49, 207, 208, 209, 210, 47, 46, 211, 212, 213, 214, 65, 42, 215, 216, 217, 218, 44, 219, 220, 221, 452, 453, 454, 455, 456, 457, 458, 459, 460, 461, 462, 463, 464, 465, 466, 467, 468, 469, 470, 471] (by decide +kernel) (by decide +kernel)
set_option maxRecDepth 20000 in
theorem gL_law_X2_swap : GoodIn wsL_law (wsV RL 55 RX2 yX2_swap wsX2_swap) := goodIn_app (goodIn_of _ (by decide +kernel)) ggL_law_X2_swap
set_option maxRecDepth 20000 in
theorem ggL_law_X1_undo : GoodIn wsL_law wsX1_undo := goodIn_r _ [225, 22, 226, 20, 21, 172, 173, 174, 2, 175, 18, 130, 131, 132, 133, 19, 180, 181, 182, 183, 14, 13, 184, 185, 186, 187, 188, 189, 190, 191, 16, 192, 193, 194, 440, 441, 442, 443, 444, 445, 446, 447, 448, 449, 450, 451] (by decide +kernel) (by decide +kernel)
set_option maxRecDepth 20000 in
theorem gL_law_X1_undo : GoodIn wsL_law (wsV RL 56 RX1 yX1_undo wsX1_undo) := goodIn_app (goodIn_of _ (by decide +kernel)) ggL_law_X1_undo
set_option maxRecDepth 20000 in
theorem ggL_law_X2_undo : GoodIn wsL_law wsX2_undo := goodIn_r _ [230, 139, 231, 48, 49, 207, 208, 209, 5, 210, 47, 46, 211, 212, 213, 214, 65, 42, 215, 216, 217, 218, 44, 219, 220, 221, 452, 453, 454, 455, 456, 457, 458, 459, 460, 461, 462, 463, 464, 465, 466, 467, 468, 469, 470, 471] (by decide +kernel) (by decide +kernel)
set_option maxRecDepth 20000 in
theorem gL_law_X2_undo : GoodIn wsL_law (wsV RL 59 RX2 yX2_undo wsX2_undo) := goodIn_app (goodIn_of _ (by decide +kernel)) ggL_law_X2_undo
set_option maxRecDepth 20000 in
theorem ggL_law_X1_undoCount : GoodIn wsL_law wsX1_undoCount := goodIn_r _ [235, 22, 440, 441, 442, 443, 444, 445, 446, 447, 448, 449, 450, 451] (by decide +kernel) (by decide +kernel)
set_option maxRecDepth 20000 in
theorem gL_law_X1_undoCount : GoodIn wsL_law (wsV RL 60 RX1 yX1_undoCount wsX1_undoCount) := goodIn_app (goodIn_of _ (by decide +kernel)) ggL_law_X1_undoCount
set_option maxRecDepth 20000 in
theorem ggL_law_X2_undoCount : GoodIn wsL_law wsX2_undoCount := goodIn_r _ [239, 139, 452, 453, 454, 455, 456, 457, 458, 459, 460, 461, 462, 463, 464, 465, 466, 467, 468, 469, 470, 471] (by decide +kernel) (by decide +kernel)
set_option maxRecDepth 20000 in
theorem gL_law_X2_undoCount : GoodIn wsL_law (wsV RL 63 RX2 yX2_undoCount wsX2_undoCount) := goodIn_app (goodIn_of _ (by decide +kernel)) ggL_law_X2_undoCount
set_option maxRecDepth 20000 in
theorem ggL_law_X1_mirror : GoodIn wsL_law wsX1_mirror := goodIn_r _ [243, 22, 172, 173, 174, 2, 175, 18, 130, 131, 132, 133, 19, 180, 181, 182, 183, 14, 13, 184, 185, 186, 187, 188, 189, 190, 191, 16, 192, 193, 194, 440, 441, 442, 443, 444, 445, 446, 447, 448, 449, 450, 451] (by decide +kernel) (by decide +kernel)
set_option maxRecDepth 20000 in
theorem gL_law_X1_mirror : GoodIn wsL_law (wsV RL 64 RX1 yX1_mirror wsX1_mirror) := goodIn_app (goodIn_of _ (by decide +kernel)) ggL_law_X1_mirror
set_option maxRecDepth 20000 in
theorem ggL_law_X2_mirror : GoodIn wsL_law wsX2_mirror := goodIn_r _ [247, 139, 207, 208, 209, 5, 210, 47, 46, 211, 212, 213, 214, 65, 42, 215, 216, 217, 218, 44, 219, 220, 221, 452, 453, 454, 455, 456, 457, 458, 459, 460, 461, 462, 463, 464, 465, 466, 467, 468, 469, 470, 471] (by decide +kernel) (by decide +kernel)
set_option maxRecDepth 20000 in
theorem gL_law_X2_mirror : GoodIn wsL_law (wsV RL 67 RX2 yX2_mirror wsX2_mirror) := goodIn_app (goodIn_of _ (by decide +kernel)) ggL_law_X2_mirror
set_option maxRecDepth 20000 in
theorem ggL_law_X1_cost : GoodIn wsL_law wsX1_cost := goodIn_r _ [183, 14, 13, 184, 185, 186, 2, 187, 19, 188, 189, 190, 191, 16, 192, 193, 194, 440, 441, 442, 443, 444, 445, 446, 447, 448, 449, 450, 451] (by decide +kernel) (by decide +kernel)
set_option maxRecDepth 20000 in
theorem gL_law_X1_cost : GoodIn wsL_law (wsV RL 68 RX1 yX1_cost wsX1_cost) := goodIn_app (goodIn_of _ (by decide +kernel)) ggL_law_X1_cost
set_option maxRecDepth 20000 in
theorem ggL_law_X2_cost : GoodIn wsL_law wsX2_cost := goodIn_r _ [252, 211, 212, 213, 5, 214, 65, 42, 215, 216, 217, 218, 44, 46, 219, 220, 221, 452, 453, 454, 455, 456, 457, 458, 459, 460, 461, 462, 463, 464, 465, 466, 467, 468, 469, 470, 471] (by decide +kernel) (by decide +kernel)
set_option maxRecDepth 20000 in
theorem gL_law_X2_cost : GoodIn wsL_law (wsV RL 71 RX2 yX2_cost wsX2_cost) := goodIn_app (goodIn_of _ (by decide +kernel)) ggL_law_X2_cost
set_option maxRecDepth 20000 in
theorem ggL_law_X1_gain : GoodIn wsL_law wsX1_gain := goodIn_r _ [256, 164, 165, 2, 166, 82, 167, 83, 84, 85, 180, 181, 182, 183, 14, 13, 184, 185, 186, 187, 19, 188, 189, 190, 191, 16, 192, 193, 194, 257, 258, 259, 260, 172, 173, 174, 175, 18, 130, 131, 132, 133, 440, 441, 442, 443, 444, 445, 446, 447, 448, 449, 450, 451] (by decide +kernel) (by decide +kernel)
set_option maxRecDepth 20000 in
theorem gL_law_X1_gain : GoodIn wsL_law (wsV RL 72 RX1 yX1_gain wsX1_gain) := goodIn_app (goodIn_of _ (by decide +kernel)) ggL_law_X1_gain
set_option maxRecDepth 20000 in
theorem ggL_law_X2_gain : GoodIn wsL_law wsX2_gain := goodIn_r _ [264, 199, 200, 5, 201, 93, 202, 94, 95, 96, 67, 68, 69, 265, 266, 267, 268, 211, 212, 213, 214, 65, 42, 215, 216, 217, 218, 44, 46, 219, 220, 221, 207, 208, 209, 210, 47, 452, 453, 454, 455, 456, 457, 458, 459, 460, 461, 462, 463, 464, 465, 466, 467, 468, 469, 470, 471] (by decide +kernel) (by decide +kernel)
set_option maxRecDepth 20000 in
theorem gL_law_X2_gain : GoodIn wsL_law (wsV RL 75 RX2 yX2_gain wsX2_gain) := goodIn_app (goodIn_of _ (by decide +kernel)) ggL_law_X2_gain
set_option maxRecDepth 20000 in
theorem ggL_law_X1_bestSwap : GoodIn wsL_law wsX1_bestSwap := goodIn_r _ [272, 226, 180, 181, 182, 2, 183, 14, 13, 184, 185, 186, 187, 19, 188, 189, 190, 191, 16, 192, 193, 194, 257, 258, 259, 260, 172, 173, 174, 175, 18, 130, 131, 132, 133, 440, 441, 442, 443, 444, 445, 446, 447, 448, 449, 450, 451] (by decide +kernel) (by decide +kernel)
set_option maxRecDepth 20000 in
theorem gL_law_X1_bestSwap : GoodIn wsL_law (wsV RL 76 RX1 yX1_bestSwap wsX1_bestSwap) := goodIn_app (goodIn_of _ (by decide +kernel)) ggL_law_X1_bestSwap
set_option maxRecDepth 20000 in
theorem ggL_law_X2_bestSwap : GoodIn wsL_law wsX2_bestSwap := goodIn_r _ [276, 277, 278, 279, 5, 280, 231, 265, 266, 267, 268, 211, 212, 213, 214, 65, 42, 215, 216, 217, 218, 44, 46, 219, 220, 221, 207, 208, 209, 210, 47, 452, 453, 454, 455, 456, 457, 458, 459, 460, 461, 462, 463, 464, 465, 466, 467, 468, 469, 470, 471] (by decide +kernel) (by decide +kernel)
set_option maxRecDepth 20000 in
theorem gL_law_X2_bestSwap : GoodIn wsL_law (wsV RL 79 RX2 yX2_bestSwap wsX2_bestSwap) := goodIn_app (goodIn_of _ (by decide +kernel)) ggL_law_X2_bestSwap
set_option maxRecDepth 20000 in
theorem ggL_law_X1_improve : GoodIn wsL_law wsX1_improve := goodIn_r _ [284, 82, 226, 285, 270, 271, 2, 272, 180, 181, 182, 183, 14, 13, 184, 185, 186, 187, 19, 188, 189, 190, 191, 16, 192, 193, 194, 257, 258, 259, 260, 172, 173, 174, 175, 18, 130, 131, 132, 133, 168, 169, 170, 171, 22, 20, 21, 176, 177, 178, 179, 440, 441, 442, 443, 444, 445, 446, 447, 448, 449, 450, 451] (by decide +kernel) (by decide +kernel)
set_option maxRecDepth 20000 in
theorem gL_law_X1_improve : GoodIn wsL_law (wsV RL 80 RX1 yX1_improve wsX1_improve) := goodIn_app (goodIn_of _ (by decide +kernel)) ggL_law_X1_improve
set_option maxRecDepth 20000 in
theorem ggL_law_X2_improve : GoodIn wsL_law wsX2_improve := goodIn_r _ [289, 93, 231, 67, 68, 5, 69, 277, 278, 279, 280, 265, 266, 267, 268, 211, 212, 213, 214, 65, 42, 215, 216, 217, 218, 44, 46, 219, 220, 221, 207, 208, 209, 210, 47, 203, 204, 205, 206, 48, 139, 49, 452, 453, 454, 455, 456, 457, 458, 459, 460, 461, 462, 463, 464, 465, 466, 467, 468, 469, 470, 471] (by decide +kernel) (by decide +kernel)
set_option maxRecDepth 20000 in
theorem gL_law_X2_improve : GoodIn wsL_law (wsV RL 83 RX2 yX2_improve wsX2_improve) := goodIn_app (goodIn_of _ (by decide +kernel)) ggL_law_X2_improve
set_option maxRecDepth 20000 in
theorem ggL_law_X1_worstLetter : GoodIn wsL_law wsX1_worstLetter := goodIn_r _ [293, 226, 294, 295, 296, 2, 297, 14, 13, 184, 185, 186, 187, 19, 188, 189, 190, 191, 16, 192, 193, 194, 440, 441, 442, 443, 444, 445, 446, 447, 448, 449, 450, 451] (by decide +kernel) (by decide +kernel)
set_option maxRecDepth 20000 in
theorem gL_law_X1_worstLetter : GoodIn wsL_law (wsV RL 84 RX1 yX1_worstLetter wsX1_worstLetter) := goodIn_app (goodIn_of _ (by decide +kernel)) ggL_law_X1_worstLetter
set_option maxRecDepth 20000 in
theorem ggL_law_X2_worstLetter : GoodIn wsL_law wsX2_worstLetter := goodIn_r _ [301, 302, 303, 304, 5, 305, 231, 306, 307, 308, 309, 65, 42, 215, 216, 217, 218, 44, 46, 219, 220, 221, 452, 453, 454, 455, 456, 457, 458, 459, 460, 461, 462, 463, 464, 465, 466, 467, 468, 469, 470, 471] (by decide +kernel) (by decide +kernel)
set_option maxRecDepth 20000 in
theorem gL_law_X2_worstLetter : GoodIn wsL_law (wsV RL 87 RX2 yX2_worstLetter wsX2_worstLetter) := goodIn_app (goodIn_of _ (by decide +kernel)) ggL_law_X2_worstLetter
set_option maxRecDepth 20000 in
theorem ggL_law_X1_run : GoodIn wsL_law wsX1_run := goodIn_r _ [313, 82, 26, 314, 315, 316, 2, 317, 14, 15, 17, 318, 25, 319, 320, 32, 34, 35, 36, 37, 321, 322, 323, 324, 13, 19, 16, 325, 326, 327, 328, 329, 330, 331, 193, 190, 194, 332, 333, 334, 335, 336, 337, 338, 33, 339, 340, 341, 31, 440, 441, 442, 443, 444, 445, 446, 447, 448, 449, 450, 451, 472, 473, 474, 475, 476, 477, 478] (by decide +kernel) (by decide +kernel)
set_option maxRecDepth 20000 in
theorem gL_law_X1_run : GoodIn wsL_law (wsV RL 88 RX1 yX1_run wsX1_run) := goodIn_app (goodIn_of _ (by decide +kernel)) ggL_law_X1_run
set_option maxRecDepth 20000 in
theorem ggL_law_X2_run : GoodIn wsL_law wsX2_run := goodIn_r _ [345, 93, 346, 347, 348, 65, 53, 50, 42, 51, 349, 43, 350, 67, 68, 5, 69, 351, 352, 353, 354, 52, 45, 355, 356, 357, 358, 46, 44, 219, 220, 221, 452, 453, 454, 455, 456, 457, 458, 459, 460, 461, 462, 463, 464, 465, 466, 467, 468, 469, 470, 471] (by decide +kernel) (by decide +kernel)
set_option maxRecDepth 20000 in
theorem gL_law_X2_run : GoodIn wsL_law (wsV RL 91 RX2 yX2_run wsX2_run) := goodIn_app (goodIn_of _ (by decide +kernel)) ggL_law_X2_run
set_option maxRecDepth 20000 in
theorem ggL_law_X1_jams : GoodIn wsL_law wsX1_jams := goodIn_r _ [362, 26, 440, 441, 442, 443, 444, 445, 446, 447, 448, 449, 450, 451, 472, 473, 474, 475, 476, 477, 478] (by decide +kernel) (by decide +kernel)
set_option maxRecDepth 20000 in
theorem gL_law_X1_jams : GoodIn wsL_law (wsV RL 92 RX1 yX1_jams wsX1_jams) := goodIn_app (goodIn_of _ (by decide +kernel)) ggL_law_X1_jams
set_option maxRecDepth 20000 in
theorem ggL_law_X2_jams : GoodIn wsL_law wsX2_jams := goodIn_r _ [366, 347, 452, 453, 454, 455, 456, 457, 458, 459, 460, 461, 462, 463, 464, 465, 466, 467, 468, 469, 470, 471] (by decide +kernel) (by decide +kernel)
set_option maxRecDepth 20000 in
theorem gL_law_X2_jams : GoodIn wsL_law (wsV RL 95 RX2 yX2_jams wsX2_jams) := goodIn_app (goodIn_of _ (by decide +kernel)) ggL_law_X2_jams
set_option maxRecDepth 20000 in
theorem ggL_law_X1_lost : GoodIn wsL_law wsX1_lost := goodIn_r _ [370, 26, 440, 441, 442, 443, 444, 445, 446, 447, 448, 449, 450, 451, 472, 473, 474, 475, 476, 477, 478] (by decide +kernel) (by decide +kernel)
set_option maxRecDepth 20000 in
theorem gL_law_X1_lost : GoodIn wsL_law (wsV RL 96 RX1 yX1_lost wsX1_lost) := goodIn_app (goodIn_of _ (by decide +kernel)) ggL_law_X1_lost
set_option maxRecDepth 20000 in
theorem ggL_law_X2_lost : GoodIn wsL_law wsX2_lost := goodIn_r _ [374, 348, 452, 453, 454, 455, 456, 457, 458, 459, 460, 461, 462, 463, 464, 465, 466, 467, 468, 469, 470, 471] (by decide +kernel) (by decide +kernel)
set_option maxRecDepth 20000 in
theorem gL_law_X2_lost : GoodIn wsL_law (wsV RL 99 RX2 yX2_lost wsX2_lost) := goodIn_app (goodIn_of _ (by decide +kernel)) ggL_law_X2_lost
set_option maxRecDepth 20000 in
theorem ggL_law_X1_duration : GoodIn wsL_law wsX1_duration := goodIn_r _ [378, 26, 440, 441, 442, 443, 444, 445, 446, 447, 448, 449, 450, 451, 472, 473, 474, 475, 476, 477, 478] (by decide +kernel) (by decide +kernel)
set_option maxRecDepth 20000 in
theorem gL_law_X1_duration : GoodIn wsL_law (wsV RL 100 RX1 yX1_duration wsX1_duration) := goodIn_app (goodIn_of _ (by decide +kernel)) ggL_law_X1_duration
set_option maxRecDepth 20000 in
theorem ggL_law_X2_duration : GoodIn wsL_law wsX2_duration := goodIn_r _ [382, 350, 452, 453, 454, 455, 456, 457, 458, 459, 460, 461, 462, 463, 464, 465, 466, 467, 468, 469, 470, 471] (by decide +kernel) (by decide +kernel)
set_option maxRecDepth 20000 in
theorem gL_law_X2_duration : GoodIn wsL_law (wsV RL 103 RX2 yX2_duration wsX2_duration) := goodIn_app (goodIn_of _ (by decide +kernel)) ggL_law_X2_duration
set_option maxRecDepth 20000 in
theorem ggL_law_X1_printedLetter : GoodIn wsL_law wsX1_printedLetter := goodIn_r _ [386, 26, 226, 440, 441, 442, 443, 444, 445, 446, 447, 448, 449, 450, 451, 472, 473, 474, 475, 476, 477, 478] (by decide +kernel) (by decide +kernel)
set_option maxRecDepth 20000 in
theorem gL_law_X1_printedLetter : GoodIn wsL_law (wsV RL 104 RX1 yX1_printedLetter wsX1_printedLetter) := goodIn_app (goodIn_of _ (by decide +kernel)) ggL_law_X1_printedLetter
set_option maxRecDepth 20000 in
theorem ggL_law_X2_printedLetter : GoodIn wsL_law wsX2_printedLetter := goodIn_r _ [390, 346, 50, 231, 67, 68, 5, 69, 452, 453, 454, 455, 456, 457, 458, 459, 460, 461, 462, 463, 464, 465, 466, 467, 468, 469, 470, 471] (by decide +kernel) (by decide +kernel)
set_option maxRecDepth 20000 in
theorem gL_law_X2_printedLetter : GoodIn wsL_law (wsV RL 107 RX2 yX2_printedLetter wsX2_printedLetter) := goodIn_app (goodIn_of _ (by decide +kernel)) ggL_law_X2_printedLetter
set_option maxRecDepth 20000 in
theorem ggL_law_X1_jammedKeystroke : GoodIn wsL_law wsX1_jammedKeystroke := goodIn_r _ [394, 26, 226, 440, 441, 442, 443, 444, 445, 446, 447, 448, 449, 450, 451, 472, 473, 474, 475, 476, 477, 478] (by decide +kernel) (by decide +kernel)
set_option maxRecDepth 20000 in
theorem gL_law_X1_jammedKeystroke : GoodIn wsL_law (wsV RL 108 RX1 yX1_jammedKeystroke wsX1_jammedKeystroke) := goodIn_app (goodIn_of _ (by decide +kernel)) ggL_law_X1_jammedKeystroke
set_option maxRecDepth 20000 in
theorem ggL_law_X2_jammedKeystroke : GoodIn wsL_law wsX2_jammedKeystroke := goodIn_r _ [398, 347, 51, 231, 67, 68, 5, 69, 452, 453, 454, 455, 456, 457, 458, 459, 460, 461, 462, 463, 464, 465, 466, 467, 468, 469, 470, 471] (by decide +kernel) (by decide +kernel)
set_option maxRecDepth 20000 in
theorem gL_law_X2_jammedKeystroke : GoodIn wsL_law (wsV RL 111 RX2 yX2_jammedKeystroke wsX2_jammedKeystroke) := goodIn_app (goodIn_of _ (by decide +kernel)) ggL_law_X2_jammedKeystroke
set_option maxRecDepth 20000 in
theorem ggL_law_X1_safeInterval : GoodIn wsL_law wsX1_safeInterval := goodIn_r _ [402, 27, 226, 314, 315, 316, 2, 317, 14, 15, 17, 318, 25, 319, 320, 32, 34, 35, 36, 37, 321, 322, 323, 324, 13, 19, 16, 325, 326, 327, 328, 329, 330, 331, 193, 190, 194, 332, 333, 334, 335, 336, 337, 338, 33, 339, 340, 341, 31, 440, 441, 442, 443, 444, 445, 446, 447, 448, 449, 450, 451, 472, 473, 474, 475, 476, 477, 478] (by decide +kernel) (by decide +kernel)
set_option maxRecDepth 20000 in
theorem gL_law_X1_safeInterval : GoodIn wsL_law (wsV RL 112 RX1 yX1_safeInterval wsX1_safeInterval) := goodIn_app (goodIn_of _ (by decide +kernel)) ggL_law_X1_safeInterval
set_option maxRecDepth 20000 in
theorem ggL_law_X2_safeInterval : GoodIn wsL_law wsX2_safeInterval := goodIn_r _ [406, 407, 408, 409, 5, 410, 231, 411, 412, 413, 414, 65, 53, 351, 352, 353, 354, 52, 45, 42, 349, 355, 356, 357, 358, 46, 44, 43, 219, 220, 221, 452, 453, 454, 455, 456, 457, 458, 459, 460, 461, 462, 463, 464, 465, 466, 467, 468, 469, 470, 471] (by decide +kernel) (by decide +kernel)
set_option maxRecDepth 20000 in
theorem gL_law_X2_safeInterval : GoodIn wsL_law (wsV RL 115 RX2 yX2_safeInterval wsX2_safeInterval) := goodIn_app (goodIn_of _ (by decide +kernel)) ggL_law_X2_safeInterval
set_option maxRecDepth 20000 in
theorem ggL_law_X1_digest : GoodIn wsL_law wsX1_digest := goodIn_r _ [418, 419, 14, 13, 15, 16, 17, 18, 22, 26, 420, 421, 2, 422, 423, 424, 425, 426, 180, 181, 182, 183, 184, 185, 186, 187, 19, 188, 189, 190, 191, 192, 193, 194, 285, 270, 271, 272, 226, 257, 258, 259, 260, 172, 173, 174, 175, 130, 131, 132, 133, 427, 291, 292, 293, 294, 295, 296, 297, 428, 400, 401, 402, 27, 314, 315, 316, 317, 318, 25, 319, 320, 32, 34, 35, 36, 37, 321, 322, 323, 324, 325, 326, 327, 328, 329, 330, 331, 332, 333, 334, 335, 336, 337, 338, 33, 339, 340, 341, 31, 440, 441, 442, 443, 444, 445, 446, 447, 448, 449, 450, 451, 472, 473, 474, 475, 476, 477, 478] (by decide +kernel) (by decide +kernel)
set_option maxRecDepth 20000 in
theorem gL_law_X1_digest : GoodIn wsL_law (wsV RL 116 RX1 yX1_digest wsX1_digest) := goodIn_app (goodIn_of _ (by decide +kernel)) ggL_law_X1_digest
set_option maxRecDepth 20000 in
theorem ggL_law_X2_digest : GoodIn wsL_law wsX2_digest := goodIn_r _ [432, 433, 434, 65, 42, 43, 44, 45, 47, 139, 347, 348, 350, 346, 50, 51, 435, 436, 437, 5, 438, 439, 211, 212, 213, 214, 215, 216, 217, 218, 46, 219, 220, 221, 277, 278, 279, 280, 231, 265, 266, 267, 268, 207, 208, 209, 210, 302, 303, 304, 305, 306, 307, 308, 309, 407, 408, 409, 410, 411, 412, 413, 414, 53, 351, 352, 353, 354, 52, 349, 355, 356, 357, 358, 452, 453, 454, 455, 456, 457, 458, 459, 460, 461, 462, 463, 464, 465, 466, 467, 468, 469, 470, 471] (by decide +kernel) (by decide +kernel)
set_option maxRecDepth 20000 in
theorem gL_law_X2_digest : GoodIn wsL_law (wsV RL 120 RX2 yX2_digest wsX2_digest) := goodIn_app (goodIn_of _ (by decide +kernel)) ggL_law_X2_digest
end
section
theorem dL_law_0 : decode cL_law 0 = .ok (.new 7, 3) := by decide +kernel
theorem dL_law_3 : decode cL_law 3 = .ok (.dup, 1) := by decide +kernel
theorem dL_law_4 : decode cL_law 4 = .ok (.invokespecial 9, 3) := by decide +kernel
theorem dL_law_7 : decode cL_law 7 = .ok (.astore_n 1, 1) := by decide +kernel
theorem dL_law_8 : decode cL_law 8 = .ok (.new 10, 3) := by decide +kernel
theorem dL_law_11 : decode cL_law 11 = .ok (.dup, 1) := by decide +kernel
theorem dL_law_12 : decode cL_law 12 = .ok (.invokespecial 12, 3) := by decide +kernel
theorem dL_law_15 : decode cL_law 15 = .ok (.astore_n 2, 1) := by decide +kernel
theorem dL_law_16 : decode cL_law 16 = .ok (.iconst 0, 1) := by decide +kernel
theorem dL_law_17 : decode cL_law 17 = .ok (.istore_n 3, 1) := by decide +kernel
theorem dL_law_18 : decode cL_law 18 = .ok (.iload_n 3, 1) := by decide +kernel
theorem dL_law_19 : decode cL_law 19 = .ok (.aload_n 0, 1) := by decide +kernel
theorem dL_law_20 : decode cL_law 20 = .ok (.arraylength, 1) := by decide +kernel
theorem dL_law_21 : decode cL_law 21 = .ok (.iconst 3, 1) := by decide +kernel
theorem dL_law_22 : decode cL_law 22 = .ok (.isub, 1) := by decide +kernel
theorem dL_law_23 : decode cL_law 23 = .ok (.if_icmp .gt 634, 3) := by decide +kernel
theorem dL_law_26 : decode cL_law 26 = .ok (.aload_n 0, 1) := by decide +kernel
theorem dL_law_27 : decode cL_law 27 = .ok (.iload_n 3, 1) := by decide +kernel
theorem dL_law_28 : decode cL_law 28 = .ok (.iaload, 1) := by decide +kernel
theorem dL_law_29 : decode cL_law 29 = .ok (.bipush 31, 2) := by decide +kernel
theorem dL_law_31 : decode cL_law 31 = .ok (.iand, 1) := by decide +kernel
theorem dL_law_32 : decode cL_law 32 = .ok (.tableswitch 619 0 25 #[120, 143, 156, 189, 212, 235, 258, 271, 294, 317, 350, 363, 376, 389, 402, 435, 448, 471, 484, 507, 520, 533, 546, 569, 592, 605], 120) := by decide +kernel
theorem dL_law_152 : decode cL_law 152 = .ok (.aload_n 1, 1) := by decide +kernel
theorem dL_law_153 : decode cL_law 153 = .ok (.aload_n 0, 1) := by decide +kernel
theorem dL_law_154 : decode cL_law 154 = .ok (.iload_n 3, 1) := by decide +kernel
theorem dL_law_155 : decode cL_law 155 = .ok (.iconst 1, 1) := by decide +kernel
theorem dL_law_156 : decode cL_law 156 = .ok (.iadd, 1) := by decide +kernel
theorem dL_law_157 : decode cL_law 157 = .ok (.iaload, 1) := by decide +kernel
theorem dL_law_158 : decode cL_law 158 = .ok (.invokevirtual 13, 3) := by decide +kernel
theorem dL_law_161 : decode cL_law 161 = .ok (.aload_n 2, 1) := by decide +kernel
theorem dL_law_162 : decode cL_law 162 = .ok (.aload_n 0, 1) := by decide +kernel
theorem dL_law_163 : decode cL_law 163 = .ok (.iload_n 3, 1) := by decide +kernel
theorem dL_law_164 : decode cL_law 164 = .ok (.iconst 1, 1) := by decide +kernel
theorem dL_law_165 : decode cL_law 165 = .ok (.iadd, 1) := by decide +kernel
theorem dL_law_166 : decode cL_law 166 = .ok (.iaload, 1) := by decide +kernel
theorem dL_law_167 : decode cL_law 167 = .ok (.invokevirtual 17, 3) := by decide +kernel
theorem dL_law_170 : decode cL_law 170 = .ok (.if_icmp .eq 481, 3) := by decide +kernel
theorem dL_law_173 : decode cL_law 173 = .ok (.iconst 0, 1) := by decide +kernel
theorem dL_law_174 : decode cL_law 174 = .ok (.ireturn, 1) := by decide +kernel
theorem dL_law_175 : decode cL_law 175 = .ok (.aload_n 1, 1) := by decide +kernel
theorem dL_law_176 : decode cL_law 176 = .ok (.invokevirtual 18, 3) := by decide +kernel
theorem dL_law_179 : decode cL_law 179 = .ok (.aload_n 2, 1) := by decide +kernel
theorem dL_law_180 : decode cL_law 180 = .ok (.invokevirtual 22, 3) := by decide +kernel
theorem dL_law_183 : decode cL_law 183 = .ok (.if_icmp .eq 468, 3) := by decide +kernel
theorem dL_law_186 : decode cL_law 186 = .ok (.iconst 0, 1) := by decide +kernel
theorem dL_law_187 : decode cL_law 187 = .ok (.ireturn, 1) := by decide +kernel
theorem dL_law_188 : decode cL_law 188 = .ok (.aload_n 1, 1) := by decide +kernel
theorem dL_law_189 : decode cL_law 189 = .ok (.aload_n 0, 1) := by decide +kernel
theorem dL_law_190 : decode cL_law 190 = .ok (.iload_n 3, 1) := by decide +kernel
theorem dL_law_191 : decode cL_law 191 = .ok (.iconst 1, 1) := by decide +kernel
theorem dL_law_192 : decode cL_law 192 = .ok (.iadd, 1) := by decide +kernel
theorem dL_law_193 : decode cL_law 193 = .ok (.iaload, 1) := by decide +kernel
theorem dL_law_194 : decode cL_law 194 = .ok (.aload_n 0, 1) := by decide +kernel
theorem dL_law_195 : decode cL_law 195 = .ok (.iload_n 3, 1) := by decide +kernel
theorem dL_law_196 : decode cL_law 196 = .ok (.iconst 2, 1) := by decide +kernel
theorem dL_law_197 : decode cL_law 197 = .ok (.iadd, 1) := by decide +kernel
theorem dL_law_198 : decode cL_law 198 = .ok (.iaload, 1) := by decide +kernel
theorem dL_law_199 : decode cL_law 199 = .ok (.invokevirtual 23, 3) := by decide +kernel
theorem dL_law_202 : decode cL_law 202 = .ok (.aload_n 2, 1) := by decide +kernel
theorem dL_law_203 : decode cL_law 203 = .ok (.aload_n 0, 1) := by decide +kernel
theorem dL_law_204 : decode cL_law 204 = .ok (.iload_n 3, 1) := by decide +kernel
theorem dL_law_205 : decode cL_law 205 = .ok (.iconst 1, 1) := by decide +kernel
theorem dL_law_206 : decode cL_law 206 = .ok (.iadd, 1) := by decide +kernel
theorem dL_law_207 : decode cL_law 207 = .ok (.iaload, 1) := by decide +kernel
theorem dL_law_208 : decode cL_law 208 = .ok (.aload_n 0, 1) := by decide +kernel
theorem dL_law_209 : decode cL_law 209 = .ok (.iload_n 3, 1) := by decide +kernel
theorem dL_law_210 : decode cL_law 210 = .ok (.iconst 2, 1) := by decide +kernel
theorem dL_law_211 : decode cL_law 211 = .ok (.iadd, 1) := by decide +kernel
theorem dL_law_212 : decode cL_law 212 = .ok (.iaload, 1) := by decide +kernel
theorem dL_law_213 : decode cL_law 213 = .ok (.invokevirtual 27, 3) := by decide +kernel
theorem dL_law_216 : decode cL_law 216 = .ok (.if_icmp .eq 435, 3) := by decide +kernel
theorem dL_law_219 : decode cL_law 219 = .ok (.iconst 0, 1) := by decide +kernel
theorem dL_law_220 : decode cL_law 220 = .ok (.ireturn, 1) := by decide +kernel
theorem dL_law_221 : decode cL_law 221 = .ok (.aload_n 1, 1) := by decide +kernel
theorem dL_law_222 : decode cL_law 222 = .ok (.aload_n 0, 1) := by decide +kernel
theorem dL_law_223 : decode cL_law 223 = .ok (.iload_n 3, 1) := by decide +kernel
theorem dL_law_224 : decode cL_law 224 = .ok (.iconst 1, 1) := by decide +kernel
theorem dL_law_225 : decode cL_law 225 = .ok (.iadd, 1) := by decide +kernel
theorem dL_law_226 : decode cL_law 226 = .ok (.iaload, 1) := by decide +kernel
theorem dL_law_227 : decode cL_law 227 = .ok (.invokevirtual 28, 3) := by decide +kernel
theorem dL_law_230 : decode cL_law 230 = .ok (.aload_n 2, 1) := by decide +kernel
theorem dL_law_231 : decode cL_law 231 = .ok (.aload_n 0, 1) := by decide +kernel
theorem dL_law_232 : decode cL_law 232 = .ok (.iload_n 3, 1) := by decide +kernel
theorem dL_law_233 : decode cL_law 233 = .ok (.iconst 1, 1) := by decide +kernel
theorem dL_law_234 : decode cL_law 234 = .ok (.iadd, 1) := by decide +kernel
theorem dL_law_235 : decode cL_law 235 = .ok (.iaload, 1) := by decide +kernel
theorem dL_law_236 : decode cL_law 236 = .ok (.invokevirtual 31, 3) := by decide +kernel
theorem dL_law_239 : decode cL_law 239 = .ok (.if_icmp .eq 412, 3) := by decide +kernel
theorem dL_law_242 : decode cL_law 242 = .ok (.iconst 0, 1) := by decide +kernel
theorem dL_law_243 : decode cL_law 243 = .ok (.ireturn, 1) := by decide +kernel
theorem dL_law_244 : decode cL_law 244 = .ok (.aload_n 1, 1) := by decide +kernel
theorem dL_law_245 : decode cL_law 245 = .ok (.aload_n 0, 1) := by decide +kernel
theorem dL_law_246 : decode cL_law 246 = .ok (.iload_n 3, 1) := by decide +kernel
theorem dL_law_247 : decode cL_law 247 = .ok (.iconst 1, 1) := by decide +kernel
theorem dL_law_248 : decode cL_law 248 = .ok (.iadd, 1) := by decide +kernel
theorem dL_law_249 : decode cL_law 249 = .ok (.iaload, 1) := by decide +kernel
theorem dL_law_250 : decode cL_law 250 = .ok (.invokevirtual 32, 3) := by decide +kernel
theorem dL_law_253 : decode cL_law 253 = .ok (.aload_n 2, 1) := by decide +kernel
theorem dL_law_254 : decode cL_law 254 = .ok (.aload_n 0, 1) := by decide +kernel
theorem dL_law_255 : decode cL_law 255 = .ok (.iload_n 3, 1) := by decide +kernel
theorem dL_law_256 : decode cL_law 256 = .ok (.iconst 1, 1) := by decide +kernel
theorem dL_law_257 : decode cL_law 257 = .ok (.iadd, 1) := by decide +kernel
theorem dL_law_258 : decode cL_law 258 = .ok (.iaload, 1) := by decide +kernel
theorem dL_law_259 : decode cL_law 259 = .ok (.invokevirtual 35, 3) := by decide +kernel
theorem dL_law_262 : decode cL_law 262 = .ok (.if_icmp .eq 389, 3) := by decide +kernel
theorem dL_law_265 : decode cL_law 265 = .ok (.iconst 0, 1) := by decide +kernel
theorem dL_law_266 : decode cL_law 266 = .ok (.ireturn, 1) := by decide +kernel
theorem dL_law_267 : decode cL_law 267 = .ok (.aload_n 1, 1) := by decide +kernel
theorem dL_law_268 : decode cL_law 268 = .ok (.aload_n 0, 1) := by decide +kernel
theorem dL_law_269 : decode cL_law 269 = .ok (.iload_n 3, 1) := by decide +kernel
theorem dL_law_270 : decode cL_law 270 = .ok (.iconst 1, 1) := by decide +kernel
theorem dL_law_271 : decode cL_law 271 = .ok (.iadd, 1) := by decide +kernel
theorem dL_law_272 : decode cL_law 272 = .ok (.iaload, 1) := by decide +kernel
theorem dL_law_273 : decode cL_law 273 = .ok (.invokevirtual 36, 3) := by decide +kernel
theorem dL_law_276 : decode cL_law 276 = .ok (.aload_n 2, 1) := by decide +kernel
theorem dL_law_277 : decode cL_law 277 = .ok (.aload_n 0, 1) := by decide +kernel
theorem dL_law_278 : decode cL_law 278 = .ok (.iload_n 3, 1) := by decide +kernel
theorem dL_law_279 : decode cL_law 279 = .ok (.iconst 1, 1) := by decide +kernel
theorem dL_law_280 : decode cL_law 280 = .ok (.iadd, 1) := by decide +kernel
theorem dL_law_281 : decode cL_law 281 = .ok (.iaload, 1) := by decide +kernel
theorem dL_law_282 : decode cL_law 282 = .ok (.invokevirtual 39, 3) := by decide +kernel
theorem dL_law_285 : decode cL_law 285 = .ok (.if_icmp .eq 366, 3) := by decide +kernel
theorem dL_law_288 : decode cL_law 288 = .ok (.iconst 0, 1) := by decide +kernel
theorem dL_law_289 : decode cL_law 289 = .ok (.ireturn, 1) := by decide +kernel
theorem dL_law_290 : decode cL_law 290 = .ok (.aload_n 1, 1) := by decide +kernel
theorem dL_law_291 : decode cL_law 291 = .ok (.invokevirtual 40, 3) := by decide +kernel
theorem dL_law_294 : decode cL_law 294 = .ok (.aload_n 2, 1) := by decide +kernel
theorem dL_law_295 : decode cL_law 295 = .ok (.invokevirtual 43, 3) := by decide +kernel
theorem dL_law_298 : decode cL_law 298 = .ok (.if_icmp .eq 353, 3) := by decide +kernel
theorem dL_law_301 : decode cL_law 301 = .ok (.iconst 0, 1) := by decide +kernel
theorem dL_law_302 : decode cL_law 302 = .ok (.ireturn, 1) := by decide +kernel
theorem dL_law_303 : decode cL_law 303 = .ok (.aload_n 1, 1) := by decide +kernel
theorem dL_law_304 : decode cL_law 304 = .ok (.aload_n 0, 1) := by decide +kernel
theorem dL_law_305 : decode cL_law 305 = .ok (.iload_n 3, 1) := by decide +kernel
theorem dL_law_306 : decode cL_law 306 = .ok (.iconst 1, 1) := by decide +kernel
theorem dL_law_307 : decode cL_law 307 = .ok (.iadd, 1) := by decide +kernel
theorem dL_law_308 : decode cL_law 308 = .ok (.iaload, 1) := by decide +kernel
theorem dL_law_309 : decode cL_law 309 = .ok (.invokevirtual 44, 3) := by decide +kernel
theorem dL_law_312 : decode cL_law 312 = .ok (.aload_n 2, 1) := by decide +kernel
theorem dL_law_313 : decode cL_law 313 = .ok (.aload_n 0, 1) := by decide +kernel
theorem dL_law_314 : decode cL_law 314 = .ok (.iload_n 3, 1) := by decide +kernel
theorem dL_law_315 : decode cL_law 315 = .ok (.iconst 1, 1) := by decide +kernel
theorem dL_law_316 : decode cL_law 316 = .ok (.iadd, 1) := by decide +kernel
theorem dL_law_317 : decode cL_law 317 = .ok (.iaload, 1) := by decide +kernel
theorem dL_law_318 : decode cL_law 318 = .ok (.invokevirtual 47, 3) := by decide +kernel
theorem dL_law_321 : decode cL_law 321 = .ok (.if_icmp .eq 330, 3) := by decide +kernel
theorem dL_law_324 : decode cL_law 324 = .ok (.iconst 0, 1) := by decide +kernel
theorem dL_law_325 : decode cL_law 325 = .ok (.ireturn, 1) := by decide +kernel
theorem dL_law_326 : decode cL_law 326 = .ok (.aload_n 1, 1) := by decide +kernel
theorem dL_law_327 : decode cL_law 327 = .ok (.aload_n 0, 1) := by decide +kernel
theorem dL_law_328 : decode cL_law 328 = .ok (.iload_n 3, 1) := by decide +kernel
theorem dL_law_329 : decode cL_law 329 = .ok (.iconst 1, 1) := by decide +kernel
theorem dL_law_330 : decode cL_law 330 = .ok (.iadd, 1) := by decide +kernel
theorem dL_law_331 : decode cL_law 331 = .ok (.iaload, 1) := by decide +kernel
theorem dL_law_332 : decode cL_law 332 = .ok (.invokevirtual 48, 3) := by decide +kernel
theorem dL_law_335 : decode cL_law 335 = .ok (.aload_n 2, 1) := by decide +kernel
theorem dL_law_336 : decode cL_law 336 = .ok (.aload_n 0, 1) := by decide +kernel
theorem dL_law_337 : decode cL_law 337 = .ok (.iload_n 3, 1) := by decide +kernel
theorem dL_law_338 : decode cL_law 338 = .ok (.iconst 1, 1) := by decide +kernel
theorem dL_law_339 : decode cL_law 339 = .ok (.iadd, 1) := by decide +kernel
theorem dL_law_340 : decode cL_law 340 = .ok (.iaload, 1) := by decide +kernel
theorem dL_law_341 : decode cL_law 341 = .ok (.invokevirtual 51, 3) := by decide +kernel
theorem dL_law_344 : decode cL_law 344 = .ok (.if_icmp .eq 307, 3) := by decide +kernel
theorem dL_law_347 : decode cL_law 347 = .ok (.iconst 0, 1) := by decide +kernel
theorem dL_law_348 : decode cL_law 348 = .ok (.ireturn, 1) := by decide +kernel
theorem dL_law_349 : decode cL_law 349 = .ok (.aload_n 1, 1) := by decide +kernel
theorem dL_law_350 : decode cL_law 350 = .ok (.aload_n 0, 1) := by decide +kernel
theorem dL_law_351 : decode cL_law 351 = .ok (.iload_n 3, 1) := by decide +kernel
theorem dL_law_352 : decode cL_law 352 = .ok (.iconst 1, 1) := by decide +kernel
theorem dL_law_353 : decode cL_law 353 = .ok (.iadd, 1) := by decide +kernel
theorem dL_law_354 : decode cL_law 354 = .ok (.iaload, 1) := by decide +kernel
theorem dL_law_355 : decode cL_law 355 = .ok (.aload_n 0, 1) := by decide +kernel
theorem dL_law_356 : decode cL_law 356 = .ok (.iload_n 3, 1) := by decide +kernel
theorem dL_law_357 : decode cL_law 357 = .ok (.iconst 2, 1) := by decide +kernel
theorem dL_law_358 : decode cL_law 358 = .ok (.iadd, 1) := by decide +kernel
theorem dL_law_359 : decode cL_law 359 = .ok (.iaload, 1) := by decide +kernel
theorem dL_law_360 : decode cL_law 360 = .ok (.invokevirtual 52, 3) := by decide +kernel
theorem dL_law_363 : decode cL_law 363 = .ok (.aload_n 2, 1) := by decide +kernel
theorem dL_law_364 : decode cL_law 364 = .ok (.aload_n 0, 1) := by decide +kernel
theorem dL_law_365 : decode cL_law 365 = .ok (.iload_n 3, 1) := by decide +kernel
theorem dL_law_366 : decode cL_law 366 = .ok (.iconst 1, 1) := by decide +kernel
theorem dL_law_367 : decode cL_law 367 = .ok (.iadd, 1) := by decide +kernel
theorem dL_law_368 : decode cL_law 368 = .ok (.iaload, 1) := by decide +kernel
theorem dL_law_369 : decode cL_law 369 = .ok (.aload_n 0, 1) := by decide +kernel
theorem dL_law_370 : decode cL_law 370 = .ok (.iload_n 3, 1) := by decide +kernel
theorem dL_law_371 : decode cL_law 371 = .ok (.iconst 2, 1) := by decide +kernel
theorem dL_law_372 : decode cL_law 372 = .ok (.iadd, 1) := by decide +kernel
theorem dL_law_373 : decode cL_law 373 = .ok (.iaload, 1) := by decide +kernel
theorem dL_law_374 : decode cL_law 374 = .ok (.invokevirtual 55, 3) := by decide +kernel
theorem dL_law_377 : decode cL_law 377 = .ok (.if_icmp .eq 274, 3) := by decide +kernel
theorem dL_law_380 : decode cL_law 380 = .ok (.iconst 0, 1) := by decide +kernel
theorem dL_law_381 : decode cL_law 381 = .ok (.ireturn, 1) := by decide +kernel
theorem dL_law_382 : decode cL_law 382 = .ok (.aload_n 1, 1) := by decide +kernel
theorem dL_law_383 : decode cL_law 383 = .ok (.invokevirtual 56, 3) := by decide +kernel
theorem dL_law_386 : decode cL_law 386 = .ok (.aload_n 2, 1) := by decide +kernel
theorem dL_law_387 : decode cL_law 387 = .ok (.invokevirtual 59, 3) := by decide +kernel
theorem dL_law_390 : decode cL_law 390 = .ok (.if_icmp .eq 261, 3) := by decide +kernel
theorem dL_law_393 : decode cL_law 393 = .ok (.iconst 0, 1) := by decide +kernel
theorem dL_law_394 : decode cL_law 394 = .ok (.ireturn, 1) := by decide +kernel
theorem dL_law_395 : decode cL_law 395 = .ok (.aload_n 1, 1) := by decide +kernel
theorem dL_law_396 : decode cL_law 396 = .ok (.invokevirtual 60, 3) := by decide +kernel
theorem dL_law_399 : decode cL_law 399 = .ok (.aload_n 2, 1) := by decide +kernel
theorem dL_law_400 : decode cL_law 400 = .ok (.invokevirtual 63, 3) := by decide +kernel
theorem dL_law_403 : decode cL_law 403 = .ok (.if_icmp .eq 248, 3) := by decide +kernel
theorem dL_law_406 : decode cL_law 406 = .ok (.iconst 0, 1) := by decide +kernel
theorem dL_law_407 : decode cL_law 407 = .ok (.ireturn, 1) := by decide +kernel
theorem dL_law_408 : decode cL_law 408 = .ok (.aload_n 1, 1) := by decide +kernel
theorem dL_law_409 : decode cL_law 409 = .ok (.invokevirtual 64, 3) := by decide +kernel
theorem dL_law_412 : decode cL_law 412 = .ok (.aload_n 2, 1) := by decide +kernel
theorem dL_law_413 : decode cL_law 413 = .ok (.invokevirtual 67, 3) := by decide +kernel
theorem dL_law_416 : decode cL_law 416 = .ok (.if_icmp .eq 235, 3) := by decide +kernel
theorem dL_law_419 : decode cL_law 419 = .ok (.iconst 0, 1) := by decide +kernel
theorem dL_law_420 : decode cL_law 420 = .ok (.ireturn, 1) := by decide +kernel
theorem dL_law_421 : decode cL_law 421 = .ok (.aload_n 1, 1) := by decide +kernel
theorem dL_law_422 : decode cL_law 422 = .ok (.invokevirtual 68, 3) := by decide +kernel
theorem dL_law_425 : decode cL_law 425 = .ok (.aload_n 2, 1) := by decide +kernel
theorem dL_law_426 : decode cL_law 426 = .ok (.invokevirtual 71, 3) := by decide +kernel
theorem dL_law_429 : decode cL_law 429 = .ok (.if_icmp .eq 222, 3) := by decide +kernel
theorem dL_law_432 : decode cL_law 432 = .ok (.iconst 0, 1) := by decide +kernel
theorem dL_law_433 : decode cL_law 433 = .ok (.ireturn, 1) := by decide +kernel
theorem dL_law_434 : decode cL_law 434 = .ok (.aload_n 1, 1) := by decide +kernel
theorem dL_law_435 : decode cL_law 435 = .ok (.aload_n 0, 1) := by decide +kernel
theorem dL_law_436 : decode cL_law 436 = .ok (.iload_n 3, 1) := by decide +kernel
theorem dL_law_437 : decode cL_law 437 = .ok (.iconst 1, 1) := by decide +kernel
theorem dL_law_438 : decode cL_law 438 = .ok (.iadd, 1) := by decide +kernel
theorem dL_law_439 : decode cL_law 439 = .ok (.iaload, 1) := by decide +kernel
theorem dL_law_440 : decode cL_law 440 = .ok (.aload_n 0, 1) := by decide +kernel
theorem dL_law_441 : decode cL_law 441 = .ok (.iload_n 3, 1) := by decide +kernel
theorem dL_law_442 : decode cL_law 442 = .ok (.iconst 2, 1) := by decide +kernel
theorem dL_law_443 : decode cL_law 443 = .ok (.iadd, 1) := by decide +kernel
theorem dL_law_444 : decode cL_law 444 = .ok (.iaload, 1) := by decide +kernel
theorem dL_law_445 : decode cL_law 445 = .ok (.invokevirtual 72, 3) := by decide +kernel
theorem dL_law_448 : decode cL_law 448 = .ok (.aload_n 2, 1) := by decide +kernel
theorem dL_law_449 : decode cL_law 449 = .ok (.aload_n 0, 1) := by decide +kernel
theorem dL_law_450 : decode cL_law 450 = .ok (.iload_n 3, 1) := by decide +kernel
theorem dL_law_451 : decode cL_law 451 = .ok (.iconst 1, 1) := by decide +kernel
theorem dL_law_452 : decode cL_law 452 = .ok (.iadd, 1) := by decide +kernel
theorem dL_law_453 : decode cL_law 453 = .ok (.iaload, 1) := by decide +kernel
theorem dL_law_454 : decode cL_law 454 = .ok (.aload_n 0, 1) := by decide +kernel
theorem dL_law_455 : decode cL_law 455 = .ok (.iload_n 3, 1) := by decide +kernel
theorem dL_law_456 : decode cL_law 456 = .ok (.iconst 2, 1) := by decide +kernel
theorem dL_law_457 : decode cL_law 457 = .ok (.iadd, 1) := by decide +kernel
theorem dL_law_458 : decode cL_law 458 = .ok (.iaload, 1) := by decide +kernel
theorem dL_law_459 : decode cL_law 459 = .ok (.invokevirtual 75, 3) := by decide +kernel
theorem dL_law_462 : decode cL_law 462 = .ok (.if_icmp .eq 189, 3) := by decide +kernel
theorem dL_law_465 : decode cL_law 465 = .ok (.iconst 0, 1) := by decide +kernel
theorem dL_law_466 : decode cL_law 466 = .ok (.ireturn, 1) := by decide +kernel
theorem dL_law_467 : decode cL_law 467 = .ok (.aload_n 1, 1) := by decide +kernel
theorem dL_law_468 : decode cL_law 468 = .ok (.invokevirtual 76, 3) := by decide +kernel
theorem dL_law_471 : decode cL_law 471 = .ok (.aload_n 2, 1) := by decide +kernel
theorem dL_law_472 : decode cL_law 472 = .ok (.invokevirtual 79, 3) := by decide +kernel
theorem dL_law_475 : decode cL_law 475 = .ok (.if_icmp .eq 176, 3) := by decide +kernel
theorem dL_law_478 : decode cL_law 478 = .ok (.iconst 0, 1) := by decide +kernel
theorem dL_law_479 : decode cL_law 479 = .ok (.ireturn, 1) := by decide +kernel
theorem dL_law_480 : decode cL_law 480 = .ok (.aload_n 1, 1) := by decide +kernel
theorem dL_law_481 : decode cL_law 481 = .ok (.aload_n 0, 1) := by decide +kernel
theorem dL_law_482 : decode cL_law 482 = .ok (.iload_n 3, 1) := by decide +kernel
theorem dL_law_483 : decode cL_law 483 = .ok (.iconst 1, 1) := by decide +kernel
theorem dL_law_484 : decode cL_law 484 = .ok (.iadd, 1) := by decide +kernel
theorem dL_law_485 : decode cL_law 485 = .ok (.iaload, 1) := by decide +kernel
theorem dL_law_486 : decode cL_law 486 = .ok (.invokevirtual 80, 3) := by decide +kernel
theorem dL_law_489 : decode cL_law 489 = .ok (.aload_n 2, 1) := by decide +kernel
theorem dL_law_490 : decode cL_law 490 = .ok (.aload_n 0, 1) := by decide +kernel
theorem dL_law_491 : decode cL_law 491 = .ok (.iload_n 3, 1) := by decide +kernel
theorem dL_law_492 : decode cL_law 492 = .ok (.iconst 1, 1) := by decide +kernel
theorem dL_law_493 : decode cL_law 493 = .ok (.iadd, 1) := by decide +kernel
theorem dL_law_494 : decode cL_law 494 = .ok (.iaload, 1) := by decide +kernel
theorem dL_law_495 : decode cL_law 495 = .ok (.invokevirtual 83, 3) := by decide +kernel
theorem dL_law_498 : decode cL_law 498 = .ok (.if_icmp .eq 153, 3) := by decide +kernel
theorem dL_law_501 : decode cL_law 501 = .ok (.iconst 0, 1) := by decide +kernel
theorem dL_law_502 : decode cL_law 502 = .ok (.ireturn, 1) := by decide +kernel
theorem dL_law_503 : decode cL_law 503 = .ok (.aload_n 1, 1) := by decide +kernel
theorem dL_law_504 : decode cL_law 504 = .ok (.invokevirtual 84, 3) := by decide +kernel
theorem dL_law_507 : decode cL_law 507 = .ok (.aload_n 2, 1) := by decide +kernel
theorem dL_law_508 : decode cL_law 508 = .ok (.invokevirtual 87, 3) := by decide +kernel
theorem dL_law_511 : decode cL_law 511 = .ok (.if_icmp .eq 140, 3) := by decide +kernel
theorem dL_law_514 : decode cL_law 514 = .ok (.iconst 0, 1) := by decide +kernel
theorem dL_law_515 : decode cL_law 515 = .ok (.ireturn, 1) := by decide +kernel
theorem dL_law_516 : decode cL_law 516 = .ok (.aload_n 1, 1) := by decide +kernel
theorem dL_law_517 : decode cL_law 517 = .ok (.aload_n 0, 1) := by decide +kernel
theorem dL_law_518 : decode cL_law 518 = .ok (.iload_n 3, 1) := by decide +kernel
theorem dL_law_519 : decode cL_law 519 = .ok (.iconst 1, 1) := by decide +kernel
theorem dL_law_520 : decode cL_law 520 = .ok (.iadd, 1) := by decide +kernel
theorem dL_law_521 : decode cL_law 521 = .ok (.iaload, 1) := by decide +kernel
theorem dL_law_522 : decode cL_law 522 = .ok (.invokevirtual 88, 3) := by decide +kernel
theorem dL_law_525 : decode cL_law 525 = .ok (.aload_n 2, 1) := by decide +kernel
theorem dL_law_526 : decode cL_law 526 = .ok (.aload_n 0, 1) := by decide +kernel
theorem dL_law_527 : decode cL_law 527 = .ok (.iload_n 3, 1) := by decide +kernel
theorem dL_law_528 : decode cL_law 528 = .ok (.iconst 1, 1) := by decide +kernel
theorem dL_law_529 : decode cL_law 529 = .ok (.iadd, 1) := by decide +kernel
theorem dL_law_530 : decode cL_law 530 = .ok (.iaload, 1) := by decide +kernel
theorem dL_law_531 : decode cL_law 531 = .ok (.invokevirtual 91, 3) := by decide +kernel
theorem dL_law_534 : decode cL_law 534 = .ok (.if_icmp .eq 117, 3) := by decide +kernel
theorem dL_law_537 : decode cL_law 537 = .ok (.iconst 0, 1) := by decide +kernel
theorem dL_law_538 : decode cL_law 538 = .ok (.ireturn, 1) := by decide +kernel
theorem dL_law_539 : decode cL_law 539 = .ok (.aload_n 1, 1) := by decide +kernel
theorem dL_law_540 : decode cL_law 540 = .ok (.invokevirtual 92, 3) := by decide +kernel
theorem dL_law_543 : decode cL_law 543 = .ok (.aload_n 2, 1) := by decide +kernel
theorem dL_law_544 : decode cL_law 544 = .ok (.invokevirtual 95, 3) := by decide +kernel
theorem dL_law_547 : decode cL_law 547 = .ok (.if_icmp .eq 104, 3) := by decide +kernel
theorem dL_law_550 : decode cL_law 550 = .ok (.iconst 0, 1) := by decide +kernel
theorem dL_law_551 : decode cL_law 551 = .ok (.ireturn, 1) := by decide +kernel
theorem dL_law_552 : decode cL_law 552 = .ok (.aload_n 1, 1) := by decide +kernel
theorem dL_law_553 : decode cL_law 553 = .ok (.invokevirtual 96, 3) := by decide +kernel
theorem dL_law_556 : decode cL_law 556 = .ok (.aload_n 2, 1) := by decide +kernel
theorem dL_law_557 : decode cL_law 557 = .ok (.invokevirtual 99, 3) := by decide +kernel
theorem dL_law_560 : decode cL_law 560 = .ok (.if_icmp .eq 91, 3) := by decide +kernel
theorem dL_law_563 : decode cL_law 563 = .ok (.iconst 0, 1) := by decide +kernel
theorem dL_law_564 : decode cL_law 564 = .ok (.ireturn, 1) := by decide +kernel
theorem dL_law_565 : decode cL_law 565 = .ok (.aload_n 1, 1) := by decide +kernel
theorem dL_law_566 : decode cL_law 566 = .ok (.invokevirtual 100, 3) := by decide +kernel
theorem dL_law_569 : decode cL_law 569 = .ok (.aload_n 2, 1) := by decide +kernel
theorem dL_law_570 : decode cL_law 570 = .ok (.invokevirtual 103, 3) := by decide +kernel
theorem dL_law_573 : decode cL_law 573 = .ok (.if_icmp .eq 78, 3) := by decide +kernel
theorem dL_law_576 : decode cL_law 576 = .ok (.iconst 0, 1) := by decide +kernel
theorem dL_law_577 : decode cL_law 577 = .ok (.ireturn, 1) := by decide +kernel
theorem dL_law_578 : decode cL_law 578 = .ok (.aload_n 1, 1) := by decide +kernel
theorem dL_law_579 : decode cL_law 579 = .ok (.aload_n 0, 1) := by decide +kernel
theorem dL_law_580 : decode cL_law 580 = .ok (.iload_n 3, 1) := by decide +kernel
theorem dL_law_581 : decode cL_law 581 = .ok (.iconst 1, 1) := by decide +kernel
theorem dL_law_582 : decode cL_law 582 = .ok (.iadd, 1) := by decide +kernel
theorem dL_law_583 : decode cL_law 583 = .ok (.iaload, 1) := by decide +kernel
theorem dL_law_584 : decode cL_law 584 = .ok (.invokevirtual 104, 3) := by decide +kernel
theorem dL_law_587 : decode cL_law 587 = .ok (.aload_n 2, 1) := by decide +kernel
theorem dL_law_588 : decode cL_law 588 = .ok (.aload_n 0, 1) := by decide +kernel
theorem dL_law_589 : decode cL_law 589 = .ok (.iload_n 3, 1) := by decide +kernel
theorem dL_law_590 : decode cL_law 590 = .ok (.iconst 1, 1) := by decide +kernel
theorem dL_law_591 : decode cL_law 591 = .ok (.iadd, 1) := by decide +kernel
theorem dL_law_592 : decode cL_law 592 = .ok (.iaload, 1) := by decide +kernel
theorem dL_law_593 : decode cL_law 593 = .ok (.invokevirtual 107, 3) := by decide +kernel
theorem dL_law_596 : decode cL_law 596 = .ok (.if_icmp .eq 55, 3) := by decide +kernel
theorem dL_law_599 : decode cL_law 599 = .ok (.iconst 0, 1) := by decide +kernel
theorem dL_law_600 : decode cL_law 600 = .ok (.ireturn, 1) := by decide +kernel
theorem dL_law_601 : decode cL_law 601 = .ok (.aload_n 1, 1) := by decide +kernel
theorem dL_law_602 : decode cL_law 602 = .ok (.aload_n 0, 1) := by decide +kernel
theorem dL_law_603 : decode cL_law 603 = .ok (.iload_n 3, 1) := by decide +kernel
theorem dL_law_604 : decode cL_law 604 = .ok (.iconst 1, 1) := by decide +kernel
theorem dL_law_605 : decode cL_law 605 = .ok (.iadd, 1) := by decide +kernel
theorem dL_law_606 : decode cL_law 606 = .ok (.iaload, 1) := by decide +kernel
theorem dL_law_607 : decode cL_law 607 = .ok (.invokevirtual 108, 3) := by decide +kernel
theorem dL_law_610 : decode cL_law 610 = .ok (.aload_n 2, 1) := by decide +kernel
theorem dL_law_611 : decode cL_law 611 = .ok (.aload_n 0, 1) := by decide +kernel
theorem dL_law_612 : decode cL_law 612 = .ok (.iload_n 3, 1) := by decide +kernel
theorem dL_law_613 : decode cL_law 613 = .ok (.iconst 1, 1) := by decide +kernel
theorem dL_law_614 : decode cL_law 614 = .ok (.iadd, 1) := by decide +kernel
theorem dL_law_615 : decode cL_law 615 = .ok (.iaload, 1) := by decide +kernel
theorem dL_law_616 : decode cL_law 616 = .ok (.invokevirtual 111, 3) := by decide +kernel
theorem dL_law_619 : decode cL_law 619 = .ok (.if_icmp .eq 32, 3) := by decide +kernel
theorem dL_law_622 : decode cL_law 622 = .ok (.iconst 0, 1) := by decide +kernel
theorem dL_law_623 : decode cL_law 623 = .ok (.ireturn, 1) := by decide +kernel
theorem dL_law_624 : decode cL_law 624 = .ok (.aload_n 1, 1) := by decide +kernel
theorem dL_law_625 : decode cL_law 625 = .ok (.invokevirtual 112, 3) := by decide +kernel
theorem dL_law_628 : decode cL_law 628 = .ok (.aload_n 2, 1) := by decide +kernel
theorem dL_law_629 : decode cL_law 629 = .ok (.invokevirtual 115, 3) := by decide +kernel
theorem dL_law_632 : decode cL_law 632 = .ok (.if_icmp .eq 19, 3) := by decide +kernel
theorem dL_law_635 : decode cL_law 635 = .ok (.iconst 0, 1) := by decide +kernel
theorem dL_law_636 : decode cL_law 636 = .ok (.ireturn, 1) := by decide +kernel
theorem dL_law_637 : decode cL_law 637 = .ok (.aload_n 1, 1) := by decide +kernel
theorem dL_law_638 : decode cL_law 638 = .ok (.invokevirtual 116, 3) := by decide +kernel
theorem dL_law_641 : decode cL_law 641 = .ok (.aload_n 2, 1) := by decide +kernel
theorem dL_law_642 : decode cL_law 642 = .ok (.invokevirtual 120, 3) := by decide +kernel
theorem dL_law_645 : decode cL_law 645 = .ok (.lcmp, 1) := by decide +kernel
theorem dL_law_646 : decode cL_law 646 = .ok (.ifCond .eq 5, 3) := by decide +kernel
theorem dL_law_649 : decode cL_law 649 = .ok (.iconst 0, 1) := by decide +kernel
theorem dL_law_650 : decode cL_law 650 = .ok (.ireturn, 1) := by decide +kernel
theorem dL_law_651 : decode cL_law 651 = .ok (.iinc 3 3, 3) := by decide +kernel
theorem dL_law_654 : decode cL_law 654 = .ok (.goto (-636), 3) := by decide +kernel
theorem dL_law_657 : decode cL_law 657 = .ok (.iconst 1, 1) := by decide +kernel
theorem dL_law_658 : decode cL_law 658 = .ok (.ireturn, 1) := by decide +kernel
abbrev vwCl : List vw_C := [(RX0, TX0, 7), (RX1, TX1, 12), (RX2, TX2, 20)]
end
section
/-! numbers as nI of a Nat; rows that a program and I use: own rows over the kit's -/
def nF (f : Nat → Nat) : Nat → Int32 := fun i => nI (f i)
def up (f : Nat → Nat) (k v : Nat) : Nat → Nat := fun j => if j = k then v else f j
theorem up_same (f : Nat → Nat) (k v : Nat) : up f k v k = v := by simp [up]
theorem up_ne (f : Nat → Nat) {k j : Nat} (v : Nat) (h : j ≠ k) : up f k v j = f j := by simp [up, h]
theorem upd_nF (f : Nat → Nat) (k v : Nat) : upd (nF f) k (nI v) = nF (up f k v) := by
  funext j
  by_cases h : j = k <;> simp [upd, nF, up, h]
abbrev aE (cA : ClassId) (N : Nat) (f : Nat → Nat) : va_E := .inl (cA, N, .inl (nF f))
/-- the words of the nest: TypebarLayout at the private members of Typing -/
def nwL : List Cond := [.methodLinkNest RX1 43 yX0_init RX1, .fieldLinkNest RX1 115 RX0 "printed" "[I" RX1, .fieldLinkNest RX1 103 RX0 "printedCount" "I" RX1, .fieldLinkNest RX1 118 RX0 "jammed" "[I" RX1, .fieldLinkNest RX1 106 RX0 "jammedCount" "I" RX1, .fieldLinkNest RX1 109 RX0 "lostCount" "I" RX1, .fieldLinkNest RX1 112 RX0 "endTick" "I" RX1, .fieldLinkNest RX1 171 RX0 "restTicks" "[I" RX1, .methodLinkNest RX1 149 yX0_begin RX1, .methodLinkNest RX1 156 yX0_inMotion RX1, .methodLinkNest RX1 160 yX0_stopAround RX1, .methodLinkNest RX1 164 yX0_addJammed RX1, .methodLinkNest RX1 168 yX0_addPrinted RX1]
def nW (U : State) : Prop := ∀ w ∈ nwL, va_Nw w U
theorem nW.warm {s U : State} (h : nW s) (hW : s.WarmedH U.vm) : nW U := by
  intro w hw
  have h1 := h w hw
  simp only [nwL, List.mem_cons, List.not_mem_nil, or_false] at hw
  rcases hw with rfl | rfl | rfl | rfl | rfl | rfl | rfl | rfl | rfl | rfl | rfl | rfl | rfl <;> first | exact va_Nw.warmF hW h1 | exact va_Nw.warmM hW h1
theorem nW.same {u U : State} (h : nW u) (e : u.vm = U.vm) : nW U := by
  intro w hw
  have h1 := h w hw
  simp only [nwL, List.mem_cons, List.not_mem_nil, or_false] at hw
  rcases hw with rfl | rfl | rfl | rfl | rfl | rfl | rfl | rfl | rfl | rfl | rfl | rfl | rfl <;> exact va_Nw.same rfl e h1
/-- the world now: its cells, apart, in A; nothing else has changed since H0 -/
def qV (D : va_G) (A : Nat → Prop) (H0 : Heap) (ws : va_W) (H : Heap) (locs : List Loc) : Prop := va_P D vwCl ws H ∧ va_D A ws ∧ va_S A H0 H locs
theorem qV.sub {D : va_G} {A : Nat → Prop} {H0 H : Heap} {ws ws' : va_W} {locs : List Loc} (h : qV D A H0 ws H locs) (is : List Nat) (hn : va_nd is = true) (hs : is.map (fun i => ws[i]?) = ws'.map some) : qV D A H0 ws' H locs := by
  refine ⟨?_, h.2.1.sub is hn hs, h.2.2⟩
  intro k q hk
  have h1 : (is.map (fun i => ws[i]?))[k]? = some (some q) := by rw [hs, List.getElem?_map, hk]; rfl
  rw [List.getElem?_map] at h1
  obtain ⟨i, -, hi⟩ := Option.map_eq_some_iff.mp h1
  exact h.1 i q hi
theorem qV.eq {D : va_G} {A : Nat → Prop} {H0 H : Heap} {ws ws' : va_W} {locs : List Loc} (h : qV D A H0 ws H locs) (e : ws = ws') : qV D A H0 ws' H locs := e ▸ h
def cPre (D : va_G) (cA : ClassId) (sz : Nat) (ws : va_W) (U : State) : Prop := U.heap.size = sz ∧ va_P D vwCl ws U.heap ∧ va_K D vwCl [(cA, .int)] U ∧ va_D (fun _ => True) ws ∧ nW U
def cPost (D : va_G) (A : Nat → Prop) (W1 : va_W) (t : State) : Prop := va_P D vwCl W1 t.heap ∧ va_D A W1
/-- contracts: the world ws before, W1 behind, the answer r -/
def CTi (l : Launch) (D : va_G) (cA : ClassId) (y : MethodName) (wsy : List Cond) (rm : Room) (av : List Value) (ws : va_W) (post : Int32 → va_W → Prop) : Prop := ∀ sz : Nat, Met l y wsy rm (va_Pc av (cPre D cA sz ws)) (va_Qi post (cPost D (va_A ws sz)) (va_A ws sz)) 0 0 (va_A ws sz)
def CTl (l : Launch) (D : va_G) (cA : ClassId) (y : MethodName) (wsy : List Cond) (rm : Room) (av : List Value) (ws : va_W) (post : Int64 → va_W → Prop) : Prop := ∀ sz : Nat, Met l y wsy rm (va_Pc av (cPre D cA sz ws)) (va_Ql post (cPost D (va_A ws sz)) (va_A ws sz)) 0 0 (va_A ws sz)
def CTv (l : Launch) (D : va_G) (cA : ClassId) (y : MethodName) (wsy : List Cond) (rm : Room) (av : List Value) (ws : va_W) (post : va_W → Prop) : Prop := ∀ sz : Nat, Met l y wsy rm (va_Pc av (cPre D cA sz ws)) (va_Qv post (cPost D (va_A ws sz)) (va_A ws sz)) 0 0 (va_A ws sz)
theorem cPre_blind (D : va_G) (cA : ClassId) (sz : Nat) (ws : va_W) (av : List Value) : FrameBlind (va_Pc av (cPre D cA sz ws)) := by
  intro a U g mk q
  obtain ⟨q0, q1, qP, qK, qD, qN⟩ := q
  exact ⟨q0, q1, qP, va_K.moved (u := U) (U := U.calling g mk a) (Vm.Alike.refl U.vm) qK, qD, qN.same rfl⟩
/-- what holds in a method's body -/
def qE (p : Program) (s : State) (m : MethodId) (meth : Method) (c : Code) (cc : ByteArray) (maxL : Nat) (ret : Option FieldType) (own : String) (Ts : List Cond) (args : Array Value) (D : va_G) (cA : ClassId) (A : Nat → Prop) : Prop :=
  p.tables.exec = Jvm.exec ∧ c.code = cc ∧ c.maxLocals = maxL ∧ meth.sig.returnType = ret ∧ s.vm.findClass own = some m.cls ∧ (∀ w ∈ Ts, w.before args s = true) ∧ meth.locks = false ∧ va_K D vwCl [(cA, .int)] s ∧ (∀ q, s.heap.size ≤ q → A q) ∧ nW s
theorem CTi.mk {l : Launch} {D : va_G} {cA : ClassId} {y : MethodName} {wsy ws' : List Cond} {rm : Room} {av : List Value} {ws : va_W} {post : Int32 → va_W → Prop} {cc : ByteArray} {maxL : Nat} {ret : Option FieldType}
    (hy : plainName y.cls = true) (hw : wsy = Cond.code y cc maxL ret :: ws') (hlen : (lg_sl av).length ≤ maxL)
    (body : ∀ (p : Program) (e : Env) (s : State) (m : MethodId) (below : List Frame) (meth : Method) (c : Code) (A : Nat → Prop) (ls : Array Slot), qE p s m meth c cc maxL ret y.cls wsy av.toArray D cA A → qV D A s.heap ws s.heap [] → lv_has ls maxL (lv_args 0 av) →
      W p l e rm s m av.toArray below meth c s.heap [] 0 0 (MQ below (va_Qi post (cPost D A) A) av.toArray s 0 0 A) (F0 m 0 ls [])) : CTi l D cA y wsy rm av ws post := by
  intro sz
  refine Met.ofW (cc := cc) (maxL := maxL) (ret := ret) hy hw ?_
  intro p e s m args below meth c s₁ B hml hv
  obtain ⟨rfl, hsz, hP, hK, hD0, hN⟩ := hv
  subst hsz
  have hl := lv_entry av (n := maxL) hlen
  rw [lg_entry_eq]
  exact body p e s m below meth c (va_A ws s.heap.size) _ ⟨B.exec, B.bytes, hml, B.returns, findClass_of_methodNamed B.named, atoms_spec (ws := wsy) B.pre, B.notSynchronized, hK, fun q h => Or.inr h, hN⟩ ⟨hP, hD0.self, va_S.rf⟩ hl
theorem CTl.mk {l : Launch} {D : va_G} {cA : ClassId} {y : MethodName} {wsy ws' : List Cond} {rm : Room} {av : List Value} {ws : va_W} {post : Int64 → va_W → Prop} {cc : ByteArray} {maxL : Nat} {ret : Option FieldType}
    (hy : plainName y.cls = true) (hw : wsy = Cond.code y cc maxL ret :: ws') (hlen : (lg_sl av).length ≤ maxL)
    (body : ∀ (p : Program) (e : Env) (s : State) (m : MethodId) (below : List Frame) (meth : Method) (c : Code) (A : Nat → Prop) (ls : Array Slot), qE p s m meth c cc maxL ret y.cls wsy av.toArray D cA A → qV D A s.heap ws s.heap [] → lv_has ls maxL (lv_args 0 av) →
      W p l e rm s m av.toArray below meth c s.heap [] 0 0 (MQ below (va_Ql post (cPost D A) A) av.toArray s 0 0 A) (F0 m 0 ls [])) : CTl l D cA y wsy rm av ws post := by
  intro sz
  refine Met.ofW (cc := cc) (maxL := maxL) (ret := ret) hy hw ?_
  intro p e s m args below meth c s₁ B hml hv
  obtain ⟨rfl, hsz, hP, hK, hD0, hN⟩ := hv
  subst hsz
  have hl := lv_entry av (n := maxL) hlen
  rw [lg_entry_eq]
  exact body p e s m below meth c (va_A ws s.heap.size) _ ⟨B.exec, B.bytes, hml, B.returns, findClass_of_methodNamed B.named, atoms_spec (ws := wsy) B.pre, B.notSynchronized, hK, fun q h => Or.inr h, hN⟩ ⟨hP, hD0.self, va_S.rf⟩ hl
theorem CTv.mk {l : Launch} {D : va_G} {cA : ClassId} {y : MethodName} {wsy ws' : List Cond} {rm : Room} {av : List Value} {ws : va_W} {post : va_W → Prop} {cc : ByteArray} {maxL : Nat} {ret : Option FieldType}
    (hy : plainName y.cls = true) (hw : wsy = Cond.code y cc maxL ret :: ws') (hlen : (lg_sl av).length ≤ maxL)
    (body : ∀ (p : Program) (e : Env) (s : State) (m : MethodId) (below : List Frame) (meth : Method) (c : Code) (A : Nat → Prop) (ls : Array Slot), qE p s m meth c cc maxL ret y.cls wsy av.toArray D cA A → qV D A s.heap ws s.heap [] → lv_has ls maxL (lv_args 0 av) →
      W p l e rm s m av.toArray below meth c s.heap [] 0 0 (MQ below (va_Qv post (cPost D A) A) av.toArray s 0 0 A) (F0 m 0 ls [])) : CTv l D cA y wsy rm av ws post := by
  intro sz
  refine Met.ofW (cc := cc) (maxL := maxL) (ret := ret) hy hw ?_
  intro p e s m args below meth c s₁ B hml hv
  obtain ⟨rfl, hsz, hP, hK, hD0, hN⟩ := hv
  subst hsz
  have hl := lv_entry av (n := maxL) hlen
  rw [lg_entry_eq]
  exact body p e s m below meth c (va_A ws s.heap.size) _ ⟨B.exec, B.bytes, hml, B.returns, findClass_of_methodNamed B.named, atoms_spec (ws := wsy) B.pre, B.notSynchronized, hK, fun q h => Or.inr h, hN⟩ ⟨hP, hD0.self, va_S.rf⟩ hl
section QR
variable {p : Program} {l : Launch} {e : Env} {R : Room} {s : State} {m : MethodId} {args : Array Value} {below : List Frame} {meth : Method} {c : Code} {H : Heap} {locs : List Loc} {cells slots : Nat} {Q : State → Prop} {cc : ByteArray} {pc : Nat} {ls : Array Slot} {rest : List Value} {D : va_G} {cA : ClassId} {A : Nat → Prop} {H0 : Heap} {ws : va_W} {a : Nat}
theorem q_iadd (hx : p.tables.exec = Jvm.exec) (hb : c.code = cc) {x y : Nat} (hdg : decode cc pc = .ok (.iadd, 1)) (k : W p l e R s m args below meth c H locs cells slots Q (F0 m (pc + 1) ls (.int (nI (x + y)) :: rest))) : W p l e R s m args below meth c H locs cells slots Q (F0 m pc ls (.int (nI y) :: .int (nI x) :: rest)) := by
  refine lv_iadd hx hb hdg ?_
  rw [nI_add]; exact k
theorem q_imul (hx : p.tables.exec = Jvm.exec) (hb : c.code = cc) {x y : Nat} (hdg : decode cc pc = .ok (.imul, 1)) (k : W p l e R s m args below meth c H locs cells slots Q (F0 m (pc + 1) ls (.int (nI (x * y)) :: rest))) : W p l e R s m args below meth c H locs cells slots Q (F0 m pc ls (.int (nI y) :: .int (nI x) :: rest)) := by
  refine lv_imul hx hb hdg ?_
  rw [pk_mul]; exact k
theorem q_isub (hx : p.tables.exec = Jvm.exec) (hb : c.code = cc) {x y : Nat} (h : y ≤ x) (hdg : decode cc pc = .ok (.isub, 1)) (k : W p l e R s m args below meth c H locs cells slots Q (F0 m (pc + 1) ls (.int (nI (x - y)) :: rest))) : W p l e R s m args below meth c H locs cells slots Q (F0 m pc ls (.int (nI y) :: .int (nI x) :: rest)) := by
  refine lv_isub hx hb hdg ?_
  rw [pk_sub h]; exact k
theorem q_idiv (hx : p.tables.exec = Jvm.exec) (hb : c.code = cc) {x y : Nat} (h1 : x < 2147483648) (h0 : 0 < y) (h2 : y < 2147483648) (hdg : decode cc pc = .ok (.idiv, 1)) (k : W p l e R s m args below meth c H locs cells slots Q (F0 m (pc + 1) ls (.int (nI (x / y)) :: rest))) : W p l e R s m args below meth c H locs cells slots Q (F0 m pc ls (.int (nI y) :: .int (nI x) :: rest)) := by
  refine lv_idiv hx hb hdg (nI_ne0 h0 h2) ?_
  rw [pk_div h1 h0 h2]; exact k
theorem q_irem (hx : p.tables.exec = Jvm.exec) (hb : c.code = cc) {x y : Nat} (h1 : x < 2147483648) (h0 : 0 < y) (h2 : y < 2147483648) (hdg : decode cc pc = .ok (.irem, 1)) (k : W p l e R s m args below meth c H locs cells slots Q (F0 m (pc + 1) ls (.int (nI (x % y)) :: rest))) : W p l e R s m args below meth c H locs cells slots Q (F0 m pc ls (.int (nI y) :: .int (nI x) :: rest)) := by
  refine lv_irem hx hb hdg (nI_ne0 h0 h2) ?_
  rw [pk_rem h1 h0 h2]; exact k
/-- a top that is another's name -/
theorem q_top {x y : Int32} (h : x = y) (k : W p l e R s m args below meth c H locs cells slots Q (F0 m pc ls (.int y :: rest))) : W p l e R s m args below meth c H locs cells slots Q (F0 m pc ls (.int x :: rest)) := h ▸ k
theorem q_topl {x y : Int64} (h : x = y) (k : W p l e R s m args below meth c H locs cells slots Q (F0 m pc ls (.long y :: rest))) : W p l e R s m args below meth c H locs cells slots Q (F0 m pc ls (.long x :: rest)) := h ▸ k
theorem q_icmp_eq (hx : p.tables.exec = Jvm.exec) (hb : c.code = cc) {x y : Nat} {off : Int} {tgt : Nat} (hdg : decode cc pc = .ok (.if_icmp .eq off, 3)) (ht : (pc : Int) + off = (tgt : Int)) (h1 : x < 2147483648) (h2 : y < 2147483648)
    (kt : x = y → W p l e R s m args below meth c H locs cells slots Q (F0 m tgt ls rest)) (kf : x ≠ y → W p l e R s m args below meth c H locs cells slots Q (F0 m (pc + 3) ls rest)) : W p l e R s m args below meth c H locs cells slots Q (F0 m pc ls (.int (nI y) :: .int (nI x) :: rest)) :=
  lv_icmp_eq hx hb hdg ht (fun h => kt ((nI_eq h1 h2).mp h)) (fun h => kf (fun q => h ((nI_eq h1 h2).mpr q)))
theorem q_icmp_ne (hx : p.tables.exec = Jvm.exec) (hb : c.code = cc) {x y : Nat} {off : Int} {tgt : Nat} (hdg : decode cc pc = .ok (.if_icmp .ne off, 3)) (ht : (pc : Int) + off = (tgt : Int)) (h1 : x < 2147483648) (h2 : y < 2147483648)
    (kt : x ≠ y → W p l e R s m args below meth c H locs cells slots Q (F0 m tgt ls rest)) (kf : x = y → W p l e R s m args below meth c H locs cells slots Q (F0 m (pc + 3) ls rest)) : W p l e R s m args below meth c H locs cells slots Q (F0 m pc ls (.int (nI y) :: .int (nI x) :: rest)) :=
  lv_icmp_ne hx hb hdg ht (fun h => kt (fun q => h ((nI_eq h1 h2).mpr q))) (fun h => kf ((nI_eq h1 h2).mp h))
theorem q_icmp_lt (hx : p.tables.exec = Jvm.exec) (hb : c.code = cc) {x y : Nat} {off : Int} {tgt : Nat} (hdg : decode cc pc = .ok (.if_icmp .lt off, 3)) (ht : (pc : Int) + off = (tgt : Int)) (h1 : x < 2147483648) (h2 : y < 2147483648)
    (kt : x < y → W p l e R s m args below meth c H locs cells slots Q (F0 m tgt ls rest)) (kf : y ≤ x → W p l e R s m args below meth c H locs cells slots Q (F0 m (pc + 3) ls rest)) : W p l e R s m args below meth c H locs cells slots Q (F0 m pc ls (.int (nI y) :: .int (nI x) :: rest)) :=
  lv_icmp_lt hx hb hdg ht (fun h => kt ((nI_ltI h1 h2).mp h)) (fun h => kf (Nat.le_of_not_lt (fun q => h ((nI_ltI h1 h2).mpr q))))
theorem q_icmp_ge (hx : p.tables.exec = Jvm.exec) (hb : c.code = cc) {x y : Nat} {off : Int} {tgt : Nat} (hdg : decode cc pc = .ok (.if_icmp .ge off, 3)) (ht : (pc : Int) + off = (tgt : Int)) (h1 : x < 2147483648) (h2 : y < 2147483648)
    (kt : y ≤ x → W p l e R s m args below meth c H locs cells slots Q (F0 m tgt ls rest)) (kf : x < y → W p l e R s m args below meth c H locs cells slots Q (F0 m (pc + 3) ls rest)) : W p l e R s m args below meth c H locs cells slots Q (F0 m pc ls (.int (nI y) :: .int (nI x) :: rest)) :=
  lv_icmp_ge hx hb hdg ht (fun h => kt ((nI_leI h2 h1).mp h)) (fun h => kf (Nat.lt_of_not_le (fun q => h ((nI_leI h2 h1).mpr q))))
theorem q_icmp_gt (hx : p.tables.exec = Jvm.exec) (hb : c.code = cc) {x y : Nat} {off : Int} {tgt : Nat} (hdg : decode cc pc = .ok (.if_icmp .gt off, 3)) (ht : (pc : Int) + off = (tgt : Int)) (h1 : x < 2147483648) (h2 : y < 2147483648)
    (kt : y < x → W p l e R s m args below meth c H locs cells slots Q (F0 m tgt ls rest)) (kf : x ≤ y → W p l e R s m args below meth c H locs cells slots Q (F0 m (pc + 3) ls rest)) : W p l e R s m args below meth c H locs cells slots Q (F0 m pc ls (.int (nI y) :: .int (nI x) :: rest)) :=
  lv_icmp_gt hx hb hdg ht (fun h => kt ((nI_ltI h2 h1).mp h)) (fun h => kf (Nat.le_of_not_lt (fun q => h ((nI_ltI h2 h1).mpr q))))
theorem q_icmp_le (hx : p.tables.exec = Jvm.exec) (hb : c.code = cc) {x y : Nat} {off : Int} {tgt : Nat} (hdg : decode cc pc = .ok (.if_icmp .le off, 3)) (ht : (pc : Int) + off = (tgt : Int)) (h1 : x < 2147483648) (h2 : y < 2147483648)
    (kt : x ≤ y → W p l e R s m args below meth c H locs cells slots Q (F0 m tgt ls rest)) (kf : y < x → W p l e R s m args below meth c H locs cells slots Q (F0 m (pc + 3) ls rest)) : W p l e R s m args below meth c H locs cells slots Q (F0 m pc ls (.int (nI y) :: .int (nI x) :: rest)) :=
  lv_icmp_le hx hb hdg ht (fun h => kt ((nI_leI h1 h2).mp h)) (fun h => kf (Nat.lt_of_not_le (fun q => h ((nI_leI h1 h2).mpr q))))
/-- any ints: by their numbers -/
theorem z_icmp_lt (hx : p.tables.exec = Jvm.exec) (hb : c.code = cc) {x y : Int32} {off : Int} {tgt : Nat} (hdg : decode cc pc = .ok (.if_icmp .lt off, 3)) (ht : (pc : Int) + off = (tgt : Int))
    (kt : x.toInt < y.toInt → W p l e R s m args below meth c H locs cells slots Q (F0 m tgt ls rest)) (kf : y.toInt ≤ x.toInt → W p l e R s m args below meth c H locs cells slots Q (F0 m (pc + 3) ls rest)) : W p l e R s m args below meth c H locs cells slots Q (F0 m pc ls (.int y :: .int x :: rest)) :=
  lv_icmp_lt hx hb hdg ht (fun h => kt (Int32.lt_iff_toInt_lt.mp h)) (fun h => kf (Int.not_lt.mp (fun q => h (Int32.lt_iff_toInt_lt.mpr q))))
theorem z_icmp_ge (hx : p.tables.exec = Jvm.exec) (hb : c.code = cc) {x y : Int32} {off : Int} {tgt : Nat} (hdg : decode cc pc = .ok (.if_icmp .ge off, 3)) (ht : (pc : Int) + off = (tgt : Int))
    (kt : y.toInt ≤ x.toInt → W p l e R s m args below meth c H locs cells slots Q (F0 m tgt ls rest)) (kf : x.toInt < y.toInt → W p l e R s m args below meth c H locs cells slots Q (F0 m (pc + 3) ls rest)) : W p l e R s m args below meth c H locs cells slots Q (F0 m pc ls (.int y :: .int x :: rest)) :=
  lv_icmp_ge hx hb hdg ht (fun h => kt (Int32.le_iff_toInt_le.mp h)) (fun h => kf (Int.not_le.mp (fun q => h (Int32.le_iff_toInt_le.mpr q))))
theorem z_icmp_gt (hx : p.tables.exec = Jvm.exec) (hb : c.code = cc) {x y : Int32} {off : Int} {tgt : Nat} (hdg : decode cc pc = .ok (.if_icmp .gt off, 3)) (ht : (pc : Int) + off = (tgt : Int))
    (kt : y.toInt < x.toInt → W p l e R s m args below meth c H locs cells slots Q (F0 m tgt ls rest)) (kf : x.toInt ≤ y.toInt → W p l e R s m args below meth c H locs cells slots Q (F0 m (pc + 3) ls rest)) : W p l e R s m args below meth c H locs cells slots Q (F0 m pc ls (.int y :: .int x :: rest)) :=
  lv_icmp_gt hx hb hdg ht (fun h => kt (Int32.lt_iff_toInt_lt.mp h)) (fun h => kf (Int.not_lt.mp (fun q => h (Int32.lt_iff_toInt_lt.mpr q))))
theorem z_icmp_le (hx : p.tables.exec = Jvm.exec) (hb : c.code = cc) {x y : Int32} {off : Int} {tgt : Nat} (hdg : decode cc pc = .ok (.if_icmp .le off, 3)) (ht : (pc : Int) + off = (tgt : Int))
    (kt : x.toInt ≤ y.toInt → W p l e R s m args below meth c H locs cells slots Q (F0 m tgt ls rest)) (kf : y.toInt < x.toInt → W p l e R s m args below meth c H locs cells slots Q (F0 m (pc + 3) ls rest)) : W p l e R s m args below meth c H locs cells slots Q (F0 m pc ls (.int y :: .int x :: rest)) :=
  lv_icmp_le hx hb hdg ht (fun h => kt (Int32.le_iff_toInt_le.mp h)) (fun h => kf (Int.not_le.mp (fun q => h (Int32.le_iff_toInt_le.mpr q))))
theorem z_icmp_eq (hx : p.tables.exec = Jvm.exec) (hb : c.code = cc) {x y : Int32} {off : Int} {tgt : Nat} (hdg : decode cc pc = .ok (.if_icmp .eq off, 3)) (ht : (pc : Int) + off = (tgt : Int))
    (kt : x = y → W p l e R s m args below meth c H locs cells slots Q (F0 m tgt ls rest)) (kf : x ≠ y → W p l e R s m args below meth c H locs cells slots Q (F0 m (pc + 3) ls rest)) : W p l e R s m args below meth c H locs cells slots Q (F0 m pc ls (.int y :: .int x :: rest)) :=
  lv_icmp_eq hx hb hdg ht kt kf
theorem z_icmp_ne (hx : p.tables.exec = Jvm.exec) (hb : c.code = cc) {x y : Int32} {off : Int} {tgt : Nat} (hdg : decode cc pc = .ok (.if_icmp .ne off, 3)) (ht : (pc : Int) + off = (tgt : Int))
    (kt : x ≠ y → W p l e R s m args below meth c H locs cells slots Q (F0 m tgt ls rest)) (kf : x = y → W p l e R s m args below meth c H locs cells slots Q (F0 m (pc + 3) ls rest)) : W p l e R s m args below meth c H locs cells slots Q (F0 m pc ls (.int y :: .int x :: rest)) :=
  lv_icmp_ne hx hb hdg ht kt (fun h => kf h)
theorem z_if_lt (hx : p.tables.exec = Jvm.exec) (hb : c.code = cc) {x : Int32} {off : Int} {tgt : Nat} (hdg : decode cc pc = .ok (.ifCond .lt off, 3)) (ht : (pc : Int) + off = (tgt : Int))
    (kt : x.toInt < 0 → W p l e R s m args below meth c H locs cells slots Q (F0 m tgt ls rest)) (kf : 0 ≤ x.toInt → W p l e R s m args below meth c H locs cells slots Q (F0 m (pc + 3) ls rest)) : W p l e R s m args below meth c H locs cells slots Q (F0 m pc ls (.int x :: rest)) :=
  lv_if_lt hx hb hdg ht (fun h => kt (by rw [Int32.lt_iff_toInt_lt, Int32.toInt_zero] at h; exact h)) (fun h => kf (by rw [Int32.lt_iff_toInt_lt, Int32.toInt_zero] at h; exact Int.not_lt.mp h))
theorem z_if_ge (hx : p.tables.exec = Jvm.exec) (hb : c.code = cc) {x : Int32} {off : Int} {tgt : Nat} (hdg : decode cc pc = .ok (.ifCond .ge off, 3)) (ht : (pc : Int) + off = (tgt : Int))
    (kt : 0 ≤ x.toInt → W p l e R s m args below meth c H locs cells slots Q (F0 m tgt ls rest)) (kf : x.toInt < 0 → W p l e R s m args below meth c H locs cells slots Q (F0 m (pc + 3) ls rest)) : W p l e R s m args below meth c H locs cells slots Q (F0 m pc ls (.int x :: rest)) :=
  lv_if_ge hx hb hdg ht (fun h => kt (by rw [Int32.le_iff_toInt_le, Int32.toInt_zero] at h; exact h)) (fun h => kf (by rw [Int32.le_iff_toInt_le, Int32.toInt_zero] at h; exact Int.not_le.mp h))
theorem z_if_gt (hx : p.tables.exec = Jvm.exec) (hb : c.code = cc) {x : Int32} {off : Int} {tgt : Nat} (hdg : decode cc pc = .ok (.ifCond .gt off, 3)) (ht : (pc : Int) + off = (tgt : Int))
    (kt : 0 < x.toInt → W p l e R s m args below meth c H locs cells slots Q (F0 m tgt ls rest)) (kf : x.toInt ≤ 0 → W p l e R s m args below meth c H locs cells slots Q (F0 m (pc + 3) ls rest)) : W p l e R s m args below meth c H locs cells slots Q (F0 m pc ls (.int x :: rest)) :=
  lv_if_gt hx hb hdg ht (fun h => kt (by rw [Int32.lt_iff_toInt_lt, Int32.toInt_zero] at h; exact h)) (fun h => kf (by rw [Int32.lt_iff_toInt_lt, Int32.toInt_zero] at h; exact Int.not_lt.mp h))
theorem z_if_le (hx : p.tables.exec = Jvm.exec) (hb : c.code = cc) {x : Int32} {off : Int} {tgt : Nat} (hdg : decode cc pc = .ok (.ifCond .le off, 3)) (ht : (pc : Int) + off = (tgt : Int))
    (kt : x.toInt ≤ 0 → W p l e R s m args below meth c H locs cells slots Q (F0 m tgt ls rest)) (kf : 0 < x.toInt → W p l e R s m args below meth c H locs cells slots Q (F0 m (pc + 3) ls rest)) : W p l e R s m args below meth c H locs cells slots Q (F0 m pc ls (.int x :: rest)) :=
  lv_if_le hx hb hdg ht (fun h => kt (by rw [Int32.le_iff_toInt_le, Int32.toInt_zero] at h; exact h)) (fun h => kf (by rw [Int32.le_iff_toInt_le, Int32.toInt_zero] at h; exact Int.not_le.mp h))
theorem z_if_eq (hx : p.tables.exec = Jvm.exec) (hb : c.code = cc) {x : Int32} {off : Int} {tgt : Nat} (hdg : decode cc pc = .ok (.ifCond .eq off, 3)) (ht : (pc : Int) + off = (tgt : Int))
    (kt : x = 0 → W p l e R s m args below meth c H locs cells slots Q (F0 m tgt ls rest)) (kf : x ≠ 0 → W p l e R s m args below meth c H locs cells slots Q (F0 m (pc + 3) ls rest)) : W p l e R s m args below meth c H locs cells slots Q (F0 m pc ls (.int x :: rest)) :=
  lv_if_eq hx hb hdg ht kt kf
theorem z_if_ne (hx : p.tables.exec = Jvm.exec) (hb : c.code = cc) {x : Int32} {off : Int} {tgt : Nat} (hdg : decode cc pc = .ok (.ifCond .ne off, 3)) (ht : (pc : Int) + off = (tgt : Int))
    (kt : x ≠ 0 → W p l e R s m args below meth c H locs cells slots Q (F0 m tgt ls rest)) (kf : x = 0 → W p l e R s m args below meth c H locs cells slots Q (F0 m (pc + 3) ls rest)) : W p l e R s m args below meth c H locs cells slots Q (F0 m pc ls (.int x :: rest)) :=
  lv_if_ne hx hb hdg ht kt (fun h => kf h)
theorem q_if_eq (hx : p.tables.exec = Jvm.exec) (hb : c.code = cc) {x : Nat} {off : Int} {tgt : Nat} (hdg : decode cc pc = .ok (.ifCond .eq off, 3)) (ht : (pc : Int) + off = (tgt : Int)) (h1 : x < 2147483648)
    (kt : x = 0 → W p l e R s m args below meth c H locs cells slots Q (F0 m tgt ls rest)) (kf : x ≠ 0 → W p l e R s m args below meth c H locs cells slots Q (F0 m (pc + 3) ls rest)) : W p l e R s m args below meth c H locs cells slots Q (F0 m pc ls (.int (nI x) :: rest)) :=
  lv_if_eq hx hb hdg ht (fun h => kt ((nI_eq h1 (by decide)).mp (h.trans nI_0.symm))) (fun h => kf (fun q => h (by rw [q]; exact nI_0)))
theorem q_if_ne (hx : p.tables.exec = Jvm.exec) (hb : c.code = cc) {x : Nat} {off : Int} {tgt : Nat} (hdg : decode cc pc = .ok (.ifCond .ne off, 3)) (ht : (pc : Int) + off = (tgt : Int)) (h1 : x < 2147483648)
    (kt : x ≠ 0 → W p l e R s m args below meth c H locs cells slots Q (F0 m tgt ls rest)) (kf : x = 0 → W p l e R s m args below meth c H locs cells slots Q (F0 m (pc + 3) ls rest)) : W p l e R s m args below meth c H locs cells slots Q (F0 m pc ls (.int (nI x) :: rest)) :=
  z_if_ne hx hb hdg ht (fun h => kt (fun q => h (by rw [q]; exact nI_0))) (fun h => kf ((nI_eq h1 (by decide)).mp (h.trans nI_0.symm)))
theorem q_if_le (hx : p.tables.exec = Jvm.exec) (hb : c.code = cc) {x : Nat} {off : Int} {tgt : Nat} (hdg : decode cc pc = .ok (.ifCond .le off, 3)) (ht : (pc : Int) + off = (tgt : Int)) (h1 : x < 2147483648)
    (kt : x = 0 → W p l e R s m args below meth c H locs cells slots Q (F0 m tgt ls rest)) (kf : 0 < x → W p l e R s m args below meth c H locs cells slots Q (F0 m (pc + 3) ls rest)) : W p l e R s m args below meth c H locs cells slots Q (F0 m pc ls (.int (nI x) :: rest)) :=
  z_if_le hx hb hdg ht (fun h => kt (by rw [nI_toInt h1] at h; omega)) (fun h => kf (by rw [nI_toInt h1] at h; omega))
theorem q_if_ge (hx : p.tables.exec = Jvm.exec) (hb : c.code = cc) {x : Nat} {off : Int} {tgt : Nat} (hdg : decode cc pc = .ok (.ifCond .ge off, 3)) (ht : (pc : Int) + off = (tgt : Int)) (h1 : x < 2147483648)
    (kt : W p l e R s m args below meth c H locs cells slots Q (F0 m tgt ls rest)) : W p l e R s m args below meth c H locs cells slots Q (F0 m pc ls (.int (nI x) :: rest)) :=
  z_if_ge hx hb hdg ht (fun _ => kt) (fun h => by rw [nI_toInt h1] at h; omega)
theorem q_if_lt (hx : p.tables.exec = Jvm.exec) (hb : c.code = cc) {x : Nat} {off : Int} {tgt : Nat} (hdg : decode cc pc = .ok (.ifCond .lt off, 3)) (ht : (pc : Int) + off = (tgt : Int)) (h1 : x < 2147483648)
    (kf : W p l e R s m args below meth c H locs cells slots Q (F0 m (pc + 3) ls rest)) : W p l e R s m args below meth c H locs cells slots Q (F0 m pc ls (.int (nI x) :: rest)) :=
  z_if_lt hx hb hdg ht (fun h => by rw [nI_toInt h1] at h; omega) (fun _ => kf)
theorem q_iald (hx : p.tables.exec = Jvm.exec) (hb : c.code = cc) (hK : va_K D vwCl [(cA, .int)] s) (hV : qV D A H0 ws H locs) (q0 : Nat) {n k : Nat} {f : Nat → Nat} (ha : ws[q0]? = some (a, aE cA n f)) (hk : k < n) (hn : n < 2147483648) (hdg : decode cc pc = .ok (.iaload, 1))
    (kk : W p l e R s m args below meth c H locs cells slots Q (F0 m (pc + 1) ls (.int (nI (f k)) :: rest))) : W p l e R s m args below meth c H locs cells slots Q (F0 m pc ls (.int (nI k) :: .ref a :: rest)) := by
  refine va_iald hx hb hK hV.1 q0 0 ha rfl (vp_in_nI hk hn) hdg ?_
  rw [nI_clamp (by omega)]
  exact kk
theorem q_iast (ws' : va_W) (hx : p.tables.exec = Jvm.exec) (hb : c.code = cc) (hK : va_K D vwCl [(cA, .int)] s) (hV : qV D A H0 ws H locs) (q0 : Nat) {n k v : Nat} {f : Nat → Nat} (ha : ws[q0]? = some (a, aE cA n f)) (hk : k < n) (hn : n < 2147483648) (hw : ws.set q0 (a, aE cA n (up f k v)) = ws') (hdg : decode cc pc = .ok (.iastore, 1))
    (kk : ∀ (H1 : Heap) (locs1 : List Loc), qV D A H0 ws' H1 locs1 → W p l e R s m args below meth c H1 locs1 cells slots Q (F0 m (pc + 1) ls rest)) : W p l e R s m args below meth c H locs cells slots Q (F0 m pc ls (.int (nI v) :: .int (nI k) :: .ref a :: rest)) := by
  subst hw
  refine va_iast hx hb hK hV.1 hV.2.1 hV.2.2 q0 0 ha rfl (vp_in_nI hk hn) hdg fun H1 locs1 h1 h2 h3 => ?_
  rw [nI_clamp (by omega), upd_nF] at h1 h2
  exact kk H1 locs1 ⟨h1, h2, h3⟩
end QR
end
section
section QC
variable {p : Program} {l : Launch} {e : Env} {R : Room} {s : State} {m : MethodId} {args : Array Value} {below : List Frame} {meth : Method} {c : Code} {H : Heap} {locs : List Loc} {cells slots : Nat} {Q : State → Prop} {cc : ByteArray} {pc : Nat} {ls : Array Slot} {rest : List Value} {D : va_G} {cA : ClassId} {A : Nat → Prop} {ws : va_W} {a : Nat}
/-- fields: a class's own -/
theorem q_get {H0 : Heap} (hx : p.tables.exec = Jvm.exec) (hb : c.code = cc) {own C : String} {T : u_T} {N ci index : Nat} {Ts : List Cond} {tys : List (ClassId × FieldType)} (hts : ∀ w ∈ Ts, w.before args s = true) (hin : ∀ w ∈ u_ws C T N, w ∈ Ts) (hown : s.vm.findClass own = some m.cls) (hK : va_K D vwCl tys s) (hV : qV D A H0 ws H locs) (q0 : Nat) {fs : List Value} (he : ws[q0]? = some (a, .inr (ci, fs))) (hc : vwCl[ci]? = some (C, T, N)) (k : Nat) (hk : k < N) (hlink : Cond.fieldLink own index (T k).1 (T k).2.1 (T k).2.2.1 ∈ Ts) {v : Value} (hv : fs[k]? = some v) (hdg : decode cc pc = .ok (.getfield index, 3))
    (kk : W p l e R s m args below meth c H locs cells slots Q (F0 m (pc + 3) ls (v :: rest))) : W p l e R s m args below meth c H locs cells slots Q (F0 m pc ls (.ref a :: rest)) :=
  va_get hx hb hts hin hown hK hV.1 q0 he hc k hk (hts _ hlink) (fun _ h => h) hv hdg kk
theorem q_getN {H0 : Heap} (hx : p.tables.exec = Jvm.exec) (hb : c.code = cc) {own C host : String} {T : u_T} {N ci index : Nat} {Ts : List Cond} {tys : List (ClassId × FieldType)} (hts : ∀ w ∈ Ts, w.before args s = true) (hin : ∀ w ∈ u_ws C T N, w ∈ Ts) (hown : s.vm.findClass own = some m.cls) (hK : va_K D vwCl tys s) (hV : qV D A H0 ws H locs) (q0 : Nat) {fs : List Value} (he : ws[q0]? = some (a, .inr (ci, fs))) (hc : vwCl[ci]? = some (C, T, N)) (k : Nat) (hk : k < N) (hN : nW s) (hlink : Cond.fieldLinkNest own index (T k).1 (T k).2.1 (T k).2.2.1 host ∈ nwL) {v : Value} (hv : fs[k]? = some v) (hdg : decode cc pc = .ok (.getfield index, 3))
    (kk : W p l e R s m args below meth c H locs cells slots Q (F0 m (pc + 3) ls (v :: rest))) : W p l e R s m args below meth c H locs cells slots Q (F0 m pc ls (.ref a :: rest)) :=
  va_getN hx hb hts hin hown hK hV.1 q0 he hc k hk (va_Nw.use rfl (hN _ hlink)) (fun _ h => h) hv hdg kk
theorem q_put {H0 : Heap} (ws' : va_W) (hx : p.tables.exec = Jvm.exec) (hb : c.code = cc) {own C : String} {T : u_T} {N ci index : Nat} {Ts : List Cond} {tys : List (ClassId × FieldType)} (hts : ∀ w ∈ Ts, w.before args s = true) (hin : ∀ w ∈ u_ws C T N, w ∈ Ts) (ty0 : Nat → FieldType) (hty : ∀ k, k < N → parseFieldDescriptor (T k).2.2.1 = some (ty0 k)) (hnm : ∀ a, a < N → ∀ b, b < N → a ≠ b → (T a).2.1 ≠ (T b).2.1) (hown : s.vm.findClass own = some m.cls) (hK : va_K D vwCl tys s) (hV : qV D A H0 ws H locs) (q0 : Nat) {fs : List Value} (he : ws[q0]? = some (a, .inr (ci, fs))) (hc : vwCl[ci]? = some (C, T, N)) (k : Nat) (hk : k < N) (hlink : Cond.fieldLink own index (T k).1 (T k).2.1 (T k).2.2.1 ∈ Ts) (hfin : (T k).2.2.2 = false) {v : Value} (hn : narrow (ty0 k) v = v) (hfit : fits (ty0 k) v = true) (hl : k < fs.length) (hw : ws.set q0 (a, .inr (ci, fs.set k v)) = ws')
    (hdg : decode cc pc = .ok (.putfield index, 3)) (kk : ∀ (H1 : Heap) (locs1 : List Loc), qV D A H0 ws' H1 locs1 → W p l e R s m args below meth c H1 locs1 cells slots Q (F0 m (pc + 3) ls rest)) : W p l e R s m args below meth c H locs cells slots Q (F0 m pc ls (v :: .ref a :: rest)) := by
  subst hw
  exact va_put hx hb hts hin ty0 hty hnm hown hK hV.1 hV.2.1 hV.2.2 q0 he hc k hk (hts _ hlink) (fun _ h => h) hfin (hty k hk) hn hfit hl hdg fun H1 locs1 h1 h2 h3 => kk H1 locs1 ⟨h1, h2, h3⟩
theorem q_putF {H0 : Heap} (ws' : va_W) (hx : p.tables.exec = Jvm.exec) (hb : c.code = cc) {own C : String} {T : u_T} {N ci index : Nat} {Ts : List Cond} {tys : List (ClassId × FieldType)} (hts : ∀ w ∈ Ts, w.before args s = true) (hin : ∀ w ∈ u_ws C T N, w ∈ Ts) (ty0 : Nat → FieldType) (hty : ∀ k, k < N → parseFieldDescriptor (T k).2.2.1 = some (ty0 k)) (hnm : ∀ a, a < N → ∀ b, b < N → a ≠ b → (T a).2.1 ≠ (T b).2.1) (hown : s.vm.findClass own = some m.cls) (hK : va_K D vwCl tys s) (hV : qV D A H0 ws H locs) (q0 : Nat) {fs : List Value} (he : ws[q0]? = some (a, .inr (ci, fs))) (hc : vwCl[ci]? = some (C, T, N)) (k : Nat) (hk : k < N) (hlink : Cond.fieldLink own index (T k).1 (T k).2.1 (T k).2.2.1 ∈ Ts) (hfin : (T k).2.2.2 = true) (hi2 : meth.name = "<init>") (hdecl : (T k).1 = own) {v : Value} (hn : narrow (ty0 k) v = v) (hfit : fits (ty0 k) v = true) (hl : k < fs.length) (hw : ws.set q0 (a, .inr (ci, fs.set k v)) = ws')
    (hdg : decode cc pc = .ok (.putfield index, 3)) (kk : ∀ (H1 : Heap) (locs1 : List Loc), qV D A H0 ws' H1 locs1 → W p l e R s m args below meth c H1 locs1 cells slots Q (F0 m (pc + 3) ls rest)) : W p l e R s m args below meth c H locs cells slots Q (F0 m pc ls (v :: .ref a :: rest)) := by
  subst hw
  exact va_putF hx hb hts hin ty0 hty hnm hown hK hV.1 hV.2.1 hV.2.2 q0 he hc k hk (hts _ hlink) (fun _ h => h) hfin hi2 hdecl (hty k hk) hn hfit hl hdg fun H1 locs1 h1 h2 h3 => kk H1 locs1 ⟨h1, h2, h3⟩
theorem q_putN {H0 : Heap} (ws' : va_W) (hx : p.tables.exec = Jvm.exec) (hb : c.code = cc) {own C host : String} {T : u_T} {N ci index : Nat} {Ts : List Cond} {tys : List (ClassId × FieldType)} (hts : ∀ w ∈ Ts, w.before args s = true) (hin : ∀ w ∈ u_ws C T N, w ∈ Ts) (ty0 : Nat → FieldType) (hty : ∀ k, k < N → parseFieldDescriptor (T k).2.2.1 = some (ty0 k)) (hnm : ∀ a, a < N → ∀ b, b < N → a ≠ b → (T a).2.1 ≠ (T b).2.1) (hown : s.vm.findClass own = some m.cls) (hK : va_K D vwCl tys s) (hV : qV D A H0 ws H locs) (q0 : Nat) {fs : List Value} (he : ws[q0]? = some (a, .inr (ci, fs))) (hc : vwCl[ci]? = some (C, T, N)) (k : Nat) (hk : k < N) (hN : nW s) (hlink : Cond.fieldLinkNest own index (T k).1 (T k).2.1 (T k).2.2.1 host ∈ nwL) (hfin : (T k).2.2.2 = false) {v : Value} (hn : narrow (ty0 k) v = v) (hfit : fits (ty0 k) v = true) (hl : k < fs.length) (hw : ws.set q0 (a, .inr (ci, fs.set k v)) = ws')
    (hdg : decode cc pc = .ok (.putfield index, 3)) (kk : ∀ (H1 : Heap) (locs1 : List Loc), qV D A H0 ws' H1 locs1 → W p l e R s m args below meth c H1 locs1 cells slots Q (F0 m (pc + 3) ls rest)) : W p l e R s m args below meth c H locs cells slots Q (F0 m pc ls (v :: .ref a :: rest)) := by
  subst hw
  exact va_putN hx hb hts hin ty0 hty hnm hown hK hV.1 hV.2.1 hV.2.2 q0 he hc k hk (va_Nw.use rfl (hN _ hlink)) (fun _ h => h) hfin (hty k hk) hn hfit hl hdg fun H1 locs1 h1 h2 h3 => kk H1 locs1 ⟨h1, h2, h3⟩
/-- ends -/
theorem q_iret {post : Int32 → va_W → Prop} {v : Int32} {W1 : va_W} (hx : p.tables.exec = Jvm.exec) (hb : c.code = cc) (hr : meth.sig.returnType = some .int) (hlocks : meth.locks = false) (hV : qV D A s.heap W1 H locs) (hdg : decode cc pc = .ok (.ireturn, 1)) (hp : post v W1) : W p l e R s m args below meth c H locs cells slots (MQ below (va_Qi post (cPost D A) A) args s cells slots A) (F0 m pc ls [.int v]) :=
  W.iret (v := v) hx hb hr (fun t ht _ => ⟨⟨v, W1, rfl, hp, by rw [ht]; exact hV.1, hV.2.1⟩, hV.2.2.F ht⟩) hV.2.2.2.2 hdg hlocks
theorem q_zret {post : Int32 → va_W → Prop} {v : Int32} {W1 : va_W} (hx : p.tables.exec = Jvm.exec) (hb : c.code = cc) (hr : meth.sig.returnType = some .boolean) (hlocks : meth.locks = false) (hV : qV D A s.heap W1 H locs) (hdg : decode cc pc = .ok (.ireturn, 1)) (hn : narrow .boolean (.int v) = .int v) (hp : post v W1) : W p l e R s m args below meth c H locs cells slots (MQ below (va_Qi post (cPost D A) A) args s cells slots A) (F0 m pc ls [.int v]) :=
  W.zret (v := v) hx hb hr hn (fun t ht _ => ⟨⟨v, W1, rfl, hp, by rw [ht]; exact hV.1, hV.2.1⟩, hV.2.2.F ht⟩) hV.2.2.2.2 hdg hlocks
theorem q_lret {post : Int64 → va_W → Prop} {v : Int64} {W1 : va_W} (hx : p.tables.exec = Jvm.exec) (hb : c.code = cc) (hr : meth.sig.returnType = some .long) (hlocks : meth.locks = false) (hV : qV D A s.heap W1 H locs) (hdg : decode cc pc = .ok (.lreturn, 1)) (hp : post v W1) : W p l e R s m args below meth c H locs cells slots (MQ below (va_Ql post (cPost D A) A) args s cells slots A) (F0 m pc ls [.long v]) :=
  W.lret (v := v) hx hb hr (fun t ht _ => ⟨⟨v, W1, rfl, hp, by rw [ht]; exact hV.1, hV.2.1⟩, hV.2.2.F ht⟩) hV.2.2.2.2 hdg hlocks
theorem q_vret {post : va_W → Prop} {W1 : va_W} (hx : p.tables.exec = Jvm.exec) (hb : c.code = cc) (hr : meth.sig.returnType = none) (hlocks : meth.locks = false) (hV : qV D A s.heap W1 H locs) (hdg : decode cc pc = .ok (.return_, 1)) (hp : post W1) : W p l e R s m args below meth c H locs cells slots (MQ below (va_Qv post (cPost D A) A) args s cells slots A) (F0 m pc ls []) :=
  W.vret hx hb hr (fun t ht _ => ⟨⟨W1, rfl, hp, by rw [ht]; exact hV.1, hV.2.1⟩, hV.2.2.F ht⟩) hV.2.2.2.2 hdg hlocks
/-- the callee's part of the world, behind w0 -/
theorem qV.cut {H0 : Heap} {w0 wc : va_W} (hV : qV D A H0 (w0 ++ wc) H locs) : va_P D vwCl wc H ∧ va_D (fun _ => True) wc := by
  refine ⟨fun k q hk => hV.1 (w0.length + k) q ?_, fun i j x y hi hj hxy => ?_, fun _ _ _ => trivial⟩
  · rw [List.getElem?_append_right (by omega), show w0.length + k - w0.length = k by omega]; exact hk
  · have := hV.2.1.1 (w0.length + i) (w0.length + j) x y (by rw [List.getElem?_append_right (by omega), show w0.length + i - w0.length = i by omega]; exact hi) (by rw [List.getElem?_append_right (by omega), show w0.length + j - w0.length = j by omega]; exact hj) hxy
    omega
theorem qV.free {H0 : Heap} {w0 wc : va_W} (hV : qV D A H0 (w0 ++ wc) H locs) (hA : ∀ q, H0.size ≤ q → A q) : ∀ q, va_A wc H.size q → A q := by
  intro q h
  rcases h with ⟨k, e, h⟩ | h
  · exact hV.2.1.2 (w0.length + k) (q, e) (by rw [List.getElem?_append_right (by omega), show w0.length + k - w0.length = k by omega]; exact h)
  · exact hA q (Nat.le_trans hV.2.2.1 h)
theorem qV.glue {H0 H1 : Heap} {w0 wc W1 : va_W} {locs1 : List Loc} (hV : qV D A H0 (w0 ++ wc) H locs) (hA : ∀ q, H0.size ≤ q → A q) (hk : ∀ q : Nat, q < H.size → ¬ va_A wc H.size q → H1[q]? = H[q]?) (hP1 : va_P D vwCl W1 H1) (hD1 : va_D (va_A wc H.size) W1) (hS : va_S A H0 H1 locs1) : qV D A H0 (w0 ++ W1) H1 locs1 := by
  have hF := hV.free hA
  have hlt : ∀ (i : Nat) (x : Nat × va_E), w0[i]? = some x → x.1 < H.size ∧ ¬ va_A wc H.size x.1 := by
    intro i x hx
    have hil : i < w0.length := (List.getElem?_eq_some_iff.mp hx).1
    have h0 : (w0 ++ wc)[i]? = some x := by rw [List.getElem?_append_left hil]; exact hx
    have hl : x.1 < H.size := (hV.1 i x h0).lt
    refine ⟨hl, ?_⟩
    rintro (⟨k, e', hk'⟩ | hk')
    · have := hV.2.1.1 i (w0.length + k) x (x.1, e') h0 (by rw [List.getElem?_append_right (by omega), show w0.length + k - w0.length = k by omega]; exact hk') rfl
      omega
    · omega
  refine ⟨va_P.app ?_ hP1, va_D.app ⟨?_, ?_⟩ (hD1.weaken (fun _ q _ h => hF q.1 h)) ?_, hS⟩
  · intro k q hq
    have h0 : (w0 ++ wc)[k]? = some q := by rw [List.getElem?_append_left (List.getElem?_eq_some_iff.mp hq).1]; exact hq
    exact (hV.1 k q h0).kept (hk q.1 (hlt k q hq).1 (hlt k q hq).2)
  · intro i j x y hx hy hxy
    exact hV.2.1.1 i j x y (by rw [List.getElem?_append_left (List.getElem?_eq_some_iff.mp hx).1]; exact hx) (by rw [List.getElem?_append_left (List.getElem?_eq_some_iff.mp hy).1]; exact hy) hxy
  · intro k q hq
    exact hV.2.1.2 k q (by rw [List.getElem?_append_left (List.getElem?_eq_some_iff.mp hq).1]; exact hq)
  · intro i j x y hx hy hxy
    exact (hlt i x hx).2 (by rw [hxy]; exact hD1.2 j y hy)
theorem cPre_of {w0 wc : va_W} {av : List Value} (hK : va_K D vwCl [(cA, .int)] s) (hN : nW s) (hV : qV D A s.heap (w0 ++ wc) H locs) : ∀ U : State, U.heap = H → s.WarmedH U.vm → va_Pc av (cPre D cA H.size wc) av.toArray U :=
  fun U hU hW => ⟨rfl, by rw [hU], by rw [hU]; exact hV.cut.1, va_K.moved hW.alike hK, hV.cut.2, hN.warm hW⟩
end QC
section QD
variable {p : Program} {l : Launch} {e : Env} {R : Room} {s : State} {m : MethodId} {args : Array Value} {below : List Frame} {meth : Method} {c : Code} {H : Heap} {locs : List Loc} {cells slots : Nat} {Q : State → Prop} {cc : ByteArray} {pc nL : Nat} {ls : Array Slot} {rest : List Value} {D : va_G} {cA : ClassId} {A : Nat → Prop} {b : Nat} {own C : String} {index maxL n : Nat} {y : MethodName} {bytes : ByteArray} {ret : Option FieldType} {Ts wsy ws' : List Cond} {rm : Room} {w0 wc : va_W} {As : List Value} {st : List Value}
theorem k_V_i {post : Int32 → va_W → Prop} (hx : p.tables.exec = Jvm.exec) (hb : c.code = cc) (hml : c.maxLocals = nL) (hown : s.vm.findClass own = some m.cls) (hts : ∀ w ∈ Ts, w.before args s = true) (hK : va_K D vwCl [(cA, .int)] s) (hA : ∀ q, s.heap.size ≤ q → A q) (hN : nW s) (hV : qV D A s.heap (w0 ++ wc) H locs) (hls : ls.size = nL)
    (hM : CTi l D cA y wsy rm (.ref b :: As) wc post) (hT : GoodIn Ts (wsV own index C y wsy)) (hw : wsy = Cond.code y bytes maxL ret :: ws') (hrc : rm.cells = 0) (hrs : rm.slots = 0)
    (hd : y.cls = C ∧ y.cls ≠ "java/lang/invoke/MethodHandle" ∧ y.cls ≠ "java/lang/invoke/VarHandle" ∧ (parseMethodDescriptor y.desc).map (fun d => d.parameters.length) = some n) (hR : rm.frames + 1 ≤ R.frames ∧ 8 + (maxL + 11) + rm.locals ≤ R.locals)
    (q0 ci : Nat) {q : vw_C} {fs : List Value} (hc : vwCl[ci]? = some q) (he : (w0 ++ wc)[q0]? = some (b, .inr (ci, fs))) (hq : q.1 = C) (hn : As.length = n) (hst : st = As.reverse ++ .ref b :: rest) (hroom : (rest.map fun v => v.category).sum ≤ 8) (hdg : decode cc pc = .ok (.invokevirtual index, 3)) (hcs : cells ≤ R.cells ∧ slots ≤ R.slots)
    (kk : ∀ (r : Int32) (W1 : va_W) (H1 : Heap) (locs1 : List Loc), post r W1 → qV D A s.heap (w0 ++ W1) H1 locs1 → W p l e R s m args below meth c H1 locs1 cells slots Q (F0 m (pc + 3) ls (.int r :: rest))) : W p l e R s m args below meth c H locs cells slots Q (F0 m pc ls st) := by
  subst hst; subst hq
  refine va_calli (va_runV (As := As) (rest := rest) ⟨hx, hb, hml, hown, hts⟩ (hM H.size) (cwV n hts hT hw hrc hrs hd hR) ⟨cPre_blind D cA H.size wc _, va_recv hK hV.1 hc he, cPre_of hK hN hV⟩ rfl hn hls rfl (lv_room hroom) hdg hcs) hV.2.2 (fun q _ h => hV.free hA q h) (hV.free hA) (fun r u t H1 locs1 ht hvm hp hB hz hk hS => ?_)
  rw [← ht] at hk hS ⊢
  exact kk r u _ locs1 hp (hV.glue hA hk hB.1 hB.2 hS)
theorem k_V_l {post : Int64 → va_W → Prop} (hx : p.tables.exec = Jvm.exec) (hb : c.code = cc) (hml : c.maxLocals = nL) (hown : s.vm.findClass own = some m.cls) (hts : ∀ w ∈ Ts, w.before args s = true) (hK : va_K D vwCl [(cA, .int)] s) (hA : ∀ q, s.heap.size ≤ q → A q) (hN : nW s) (hV : qV D A s.heap (w0 ++ wc) H locs) (hls : ls.size = nL)
    (hM : CTl l D cA y wsy rm (.ref b :: As) wc post) (hT : GoodIn Ts (wsV own index C y wsy)) (hw : wsy = Cond.code y bytes maxL ret :: ws') (hrc : rm.cells = 0) (hrs : rm.slots = 0)
    (hd : y.cls = C ∧ y.cls ≠ "java/lang/invoke/MethodHandle" ∧ y.cls ≠ "java/lang/invoke/VarHandle" ∧ (parseMethodDescriptor y.desc).map (fun d => d.parameters.length) = some n) (hR : rm.frames + 1 ≤ R.frames ∧ 8 + (maxL + 11) + rm.locals ≤ R.locals)
    (q0 ci : Nat) {q : vw_C} {fs : List Value} (hc : vwCl[ci]? = some q) (he : (w0 ++ wc)[q0]? = some (b, .inr (ci, fs))) (hq : q.1 = C) (hn : As.length = n) (hst : st = As.reverse ++ .ref b :: rest) (hroom : (rest.map fun v => v.category).sum ≤ 8) (hdg : decode cc pc = .ok (.invokevirtual index, 3)) (hcs : cells ≤ R.cells ∧ slots ≤ R.slots)
    (kk : ∀ (r : Int64) (W1 : va_W) (H1 : Heap) (locs1 : List Loc), post r W1 → qV D A s.heap (w0 ++ W1) H1 locs1 → W p l e R s m args below meth c H1 locs1 cells slots Q (F0 m (pc + 3) ls (.long r :: rest))) : W p l e R s m args below meth c H locs cells slots Q (F0 m pc ls st) := by
  subst hst; subst hq
  refine va_calll (va_runV (As := As) (rest := rest) ⟨hx, hb, hml, hown, hts⟩ (hM H.size) (cwV n hts hT hw hrc hrs hd hR) ⟨cPre_blind D cA H.size wc _, va_recv hK hV.1 hc he, cPre_of hK hN hV⟩ rfl hn hls rfl (lv_room hroom) hdg hcs) hV.2.2 (fun q _ h => hV.free hA q h) (hV.free hA) (fun r u t H1 locs1 ht hvm hp hB hz hk hS => ?_)
  rw [← ht] at hk hS ⊢
  exact kk r u _ locs1 hp (hV.glue hA hk hB.1 hB.2 hS)
theorem k_V_v {post : va_W → Prop} (hx : p.tables.exec = Jvm.exec) (hb : c.code = cc) (hml : c.maxLocals = nL) (hown : s.vm.findClass own = some m.cls) (hts : ∀ w ∈ Ts, w.before args s = true) (hK : va_K D vwCl [(cA, .int)] s) (hA : ∀ q, s.heap.size ≤ q → A q) (hN : nW s) (hV : qV D A s.heap (w0 ++ wc) H locs) (hls : ls.size = nL)
    (hM : CTv l D cA y wsy rm (.ref b :: As) wc post) (hT : GoodIn Ts (wsV own index C y wsy)) (hw : wsy = Cond.code y bytes maxL ret :: ws') (hrc : rm.cells = 0) (hrs : rm.slots = 0)
    (hd : y.cls = C ∧ y.cls ≠ "java/lang/invoke/MethodHandle" ∧ y.cls ≠ "java/lang/invoke/VarHandle" ∧ (parseMethodDescriptor y.desc).map (fun d => d.parameters.length) = some n) (hR : rm.frames + 1 ≤ R.frames ∧ 8 + (maxL + 11) + rm.locals ≤ R.locals)
    (q0 ci : Nat) {q : vw_C} {fs : List Value} (hc : vwCl[ci]? = some q) (he : (w0 ++ wc)[q0]? = some (b, .inr (ci, fs))) (hq : q.1 = C) (hn : As.length = n) (hst : st = As.reverse ++ .ref b :: rest) (hroom : (rest.map fun v => v.category).sum ≤ 8) (hdg : decode cc pc = .ok (.invokevirtual index, 3)) (hcs : cells ≤ R.cells ∧ slots ≤ R.slots)
    (kk : ∀ (W1 : va_W) (H1 : Heap) (locs1 : List Loc), post W1 → qV D A s.heap (w0 ++ W1) H1 locs1 → W p l e R s m args below meth c H1 locs1 cells slots Q (F0 m (pc + 3) ls rest)) : W p l e R s m args below meth c H locs cells slots Q (F0 m pc ls st) := by
  subst hst; subst hq
  refine va_callv (va_runV (As := As) (rest := rest) ⟨hx, hb, hml, hown, hts⟩ (hM H.size) (cwV n hts hT hw hrc hrs hd hR) ⟨cPre_blind D cA H.size wc _, va_recv hK hV.1 hc he, cPre_of hK hN hV⟩ rfl hn hls rfl (lv_room hroom) hdg hcs) hV.2.2 (fun q _ h => hV.free hA q h) (hV.free hA) (fun u t H1 locs1 ht hvm hp hB hz hk hS => ?_)
  rw [← ht] at hk hS ⊢
  exact kk u _ locs1 hp (hV.glue hA hk hB.1 hB.2 hS)
/-- nest mates: TypebarLayout calls Typing's private methods -/
theorem k_N_i {host : String} {post : Int32 → va_W → Prop} (hx : p.tables.exec = Jvm.exec) (hb : c.code = cc) (hml : c.maxLocals = nL) (hown : s.vm.findClass own = some m.cls) (hts : ∀ w ∈ Ts, w.before args s = true) (hK : va_K D vwCl [(cA, .int)] s) (hA : ∀ q, s.heap.size ≤ q → A q) (hN : nW s) (hV : qV D A s.heap (w0 ++ wc) H locs) (hls : ls.size = nL)
    (hM : CTi l D cA y wsy rm (.ref b :: As) wc post) (hT : GoodIn Ts wsy) (hw : wsy = Cond.code y bytes maxL ret :: ws') (hrc : rm.cells = 0) (hrs : rm.slots = 0) (hlink : Cond.methodLinkNest own index y host ∈ nwL) (hini : Cond.initialized y.cls ∈ Ts) (hins : Cond.instanceMethod y ∈ Ts) (hsel : Cond.selects C y y ∈ Ts)
    (hd : y.cls ≠ "java/lang/invoke/MethodHandle" ∧ y.cls ≠ "java/lang/invoke/VarHandle" ∧ (parseMethodDescriptor y.desc).map (fun d => d.parameters.length) = some n) (hR : rm.frames + 1 ≤ R.frames ∧ 8 + (maxL + 11) + rm.locals ≤ R.locals)
    (q0 ci : Nat) {q : vw_C} {fs : List Value} (hc : vwCl[ci]? = some q) (he : (w0 ++ wc)[q0]? = some (b, .inr (ci, fs))) (hq : q.1 = C) (hn : As.length = n) (hst : st = As.reverse ++ .ref b :: rest) (hroom : (rest.map fun v => v.category).sum ≤ 8) (hdg : decode cc pc = .ok (.invokevirtual index, 3)) (hcs : cells ≤ R.cells ∧ slots ≤ R.slots)
    (kk : ∀ (r : Int32) (W1 : va_W) (H1 : Heap) (locs1 : List Loc), post r W1 → qV D A s.heap (w0 ++ W1) H1 locs1 → W p l e R s m args below meth c H1 locs1 cells slots Q (F0 m (pc + 3) ls (.int r :: rest))) : W p l e R s m args below meth c H locs cells slots Q (F0 m pc ls st) := by
  subst hst; subst hq
  refine va_calli (va_runVN (As := As) (rest := rest) ⟨hx, hb, hml, hown, hts⟩ (hM H.size) ⟨va_cnB n hts hT hw hrc hrs (hN _ hlink) (hts _ hini) hd hR, hts _ hins, hts _ hsel⟩ ⟨cPre_blind D cA H.size wc _, va_recv hK hV.1 hc he, cPre_of hK hN hV⟩ rfl hn hls rfl (lv_room hroom) hdg hcs) hV.2.2 (fun q _ h => hV.free hA q h) (hV.free hA) (fun r u t H1 locs1 ht hvm hp hB hz hk hS => ?_)
  rw [← ht] at hk hS ⊢
  exact kk r u _ locs1 hp (hV.glue hA hk hB.1 hB.2 hS)
theorem k_N_v {host : String} {post : va_W → Prop} (hx : p.tables.exec = Jvm.exec) (hb : c.code = cc) (hml : c.maxLocals = nL) (hown : s.vm.findClass own = some m.cls) (hts : ∀ w ∈ Ts, w.before args s = true) (hK : va_K D vwCl [(cA, .int)] s) (hA : ∀ q, s.heap.size ≤ q → A q) (hN : nW s) (hV : qV D A s.heap (w0 ++ wc) H locs) (hls : ls.size = nL)
    (hM : CTv l D cA y wsy rm (.ref b :: As) wc post) (hT : GoodIn Ts wsy) (hw : wsy = Cond.code y bytes maxL ret :: ws') (hrc : rm.cells = 0) (hrs : rm.slots = 0) (hlink : Cond.methodLinkNest own index y host ∈ nwL) (hini : Cond.initialized y.cls ∈ Ts) (hins : Cond.instanceMethod y ∈ Ts) (hsel : Cond.selects C y y ∈ Ts)
    (hd : y.cls ≠ "java/lang/invoke/MethodHandle" ∧ y.cls ≠ "java/lang/invoke/VarHandle" ∧ (parseMethodDescriptor y.desc).map (fun d => d.parameters.length) = some n) (hR : rm.frames + 1 ≤ R.frames ∧ 8 + (maxL + 11) + rm.locals ≤ R.locals)
    (q0 ci : Nat) {q : vw_C} {fs : List Value} (hc : vwCl[ci]? = some q) (he : (w0 ++ wc)[q0]? = some (b, .inr (ci, fs))) (hq : q.1 = C) (hn : As.length = n) (hst : st = As.reverse ++ .ref b :: rest) (hroom : (rest.map fun v => v.category).sum ≤ 8) (hdg : decode cc pc = .ok (.invokevirtual index, 3)) (hcs : cells ≤ R.cells ∧ slots ≤ R.slots)
    (kk : ∀ (W1 : va_W) (H1 : Heap) (locs1 : List Loc), post W1 → qV D A s.heap (w0 ++ W1) H1 locs1 → W p l e R s m args below meth c H1 locs1 cells slots Q (F0 m (pc + 3) ls rest)) : W p l e R s m args below meth c H locs cells slots Q (F0 m pc ls st) := by
  subst hst; subst hq
  refine va_callv (va_runVN (As := As) (rest := rest) ⟨hx, hb, hml, hown, hts⟩ (hM H.size) ⟨va_cnB n hts hT hw hrc hrs (hN _ hlink) (hts _ hini) hd hR, hts _ hins, hts _ hsel⟩ ⟨cPre_blind D cA H.size wc _, va_recv hK hV.1 hc he, cPre_of hK hN hV⟩ rfl hn hls rfl (lv_room hroom) hdg hcs) hV.2.2 (fun q _ h => hV.free hA q h) (hV.free hA) (fun u t H1 locs1 ht hvm hp hB hz hk hS => ?_)
  rw [← ht] at hk hS ⊢
  exact kk u _ locs1 hp (hV.glue hA hk hB.1 hB.2 hS)
/-- statics -/
theorem k_S_i {post : Int32 → va_W → Prop} (hx : p.tables.exec = Jvm.exec) (hb : c.code = cc) (hml : c.maxLocals = nL) (hown : s.vm.findClass own = some m.cls) (hts : ∀ w ∈ Ts, w.before args s = true) (hK : va_K D vwCl [(cA, .int)] s) (hA : ∀ q, s.heap.size ≤ q → A q) (hN : nW s) (hV : qV D A s.heap (w0 ++ wc) H locs) (hls : ls.size = nL)
    (hM : CTi l D cA y wsy rm As wc post) (hT : GoodIn Ts (va_wsS own index y wsy)) (hw : wsy = Cond.code y bytes maxL ret :: ws') (hrc : rm.cells = 0) (hrs : rm.slots = 0)
    (hd : y.cls = own ∧ y.cls ≠ "java/lang/invoke/MethodHandle" ∧ y.cls ≠ "java/lang/invoke/VarHandle" ∧ (parseMethodDescriptor y.desc).map (fun d => d.parameters.length) = some n) (hR : rm.frames + 1 ≤ R.frames ∧ 8 + (maxL + 11) + rm.locals ≤ R.locals)
    (hn : As.length = n) (hst : st = As.reverse ++ rest) (hroom : (rest.map fun v => v.category).sum ≤ 8) (hdg : decode cc pc = .ok (.invokestatic index, 3)) (hcs : cells ≤ R.cells ∧ slots ≤ R.slots)
    (kk : ∀ (r : Int32) (W1 : va_W) (H1 : Heap) (locs1 : List Loc), post r W1 → qV D A s.heap (w0 ++ W1) H1 locs1 → W p l e R s m args below meth c H1 locs1 cells slots Q (F0 m (pc + 3) ls (.int r :: rest))) : W p l e R s m args below meth c H locs cells slots Q (F0 m pc ls st) := by
  subst hst
  have hT' : GoodIn Ts (wsS own index y wsy) := by
    have e1 := hd.1
    subst e1
    exact hT
  refine va_calli (va_runS (As := As) (rest := rest) ⟨hx, hb, hml, hown, hts⟩ (hM H.size) (cwS n hts hT' hw hrc hrs hd hR) ⟨cPre_blind D cA H.size wc _, cPre_of hK hN hV⟩ rfl hn hls rfl (lv_room hroom) hdg hcs) hV.2.2 (fun q _ h => hV.free hA q h) (hV.free hA) (fun r u t H1 locs1 ht hvm hp hB hz hk hS => ?_)
  rw [← ht] at hk hS ⊢
  exact kk r u _ locs1 hp (hV.glue hA hk hB.1 hB.2 hS)
theorem k_S_l {post : Int64 → va_W → Prop} (hx : p.tables.exec = Jvm.exec) (hb : c.code = cc) (hml : c.maxLocals = nL) (hown : s.vm.findClass own = some m.cls) (hts : ∀ w ∈ Ts, w.before args s = true) (hK : va_K D vwCl [(cA, .int)] s) (hA : ∀ q, s.heap.size ≤ q → A q) (hN : nW s) (hV : qV D A s.heap (w0 ++ wc) H locs) (hls : ls.size = nL)
    (hM : CTl l D cA y wsy rm As wc post) (hT : GoodIn Ts (va_wsS own index y wsy)) (hw : wsy = Cond.code y bytes maxL ret :: ws') (hrc : rm.cells = 0) (hrs : rm.slots = 0)
    (hd : y.cls = own ∧ y.cls ≠ "java/lang/invoke/MethodHandle" ∧ y.cls ≠ "java/lang/invoke/VarHandle" ∧ (parseMethodDescriptor y.desc).map (fun d => d.parameters.length) = some n) (hR : rm.frames + 1 ≤ R.frames ∧ 8 + (maxL + 11) + rm.locals ≤ R.locals)
    (hn : As.length = n) (hst : st = As.reverse ++ rest) (hroom : (rest.map fun v => v.category).sum ≤ 8) (hdg : decode cc pc = .ok (.invokestatic index, 3)) (hcs : cells ≤ R.cells ∧ slots ≤ R.slots)
    (kk : ∀ (r : Int64) (W1 : va_W) (H1 : Heap) (locs1 : List Loc), post r W1 → qV D A s.heap (w0 ++ W1) H1 locs1 → W p l e R s m args below meth c H1 locs1 cells slots Q (F0 m (pc + 3) ls (.long r :: rest))) : W p l e R s m args below meth c H locs cells slots Q (F0 m pc ls st) := by
  subst hst
  have hT' : GoodIn Ts (wsS own index y wsy) := by
    have e1 := hd.1
    subst e1
    exact hT
  refine va_calll (va_runS (As := As) (rest := rest) ⟨hx, hb, hml, hown, hts⟩ (hM H.size) (cwS n hts hT' hw hrc hrs hd hR) ⟨cPre_blind D cA H.size wc _, cPre_of hK hN hV⟩ rfl hn hls rfl (lv_room hroom) hdg hcs) hV.2.2 (fun q _ h => hV.free hA q h) (hV.free hA) (fun r u t H1 locs1 ht hvm hp hB hz hk hS => ?_)
  rw [← ht] at hk hS ⊢
  exact kk r u _ locs1 hp (hV.glue hA hk hB.1 hB.2 hS)
end QD
end
section
/-! the mathematics: what the class and the reference both compute -/
def clos (C : Nat) (P : Nat → Nat) (a b : Nat) : Nat := if a = b then 0 else (C + 1) - ((P a - P b) + (P b - P a))
def cst (C : Nat) (P tx : Nat → Nat) : Nat → Nat
  | 0 => 0
  | j + 1 => cst C P tx j + clos C P (tx j) (tx (j + 1))
theorem clos_le (C : Nat) (P : Nat → Nat) (a b : Nat) : clos C P a b ≤ C + 1 := by
  unfold clos; split <;> omega
theorem cst_le (C : Nat) (P tx : Nat → Nat) (j : Nat) : cst C P tx j ≤ (C + 1) * j := by
  induction j with
  | zero => simp [cst]
  | succ j ih =>
    have := clos_le C P (tx j) (tx (j + 1))
    simp only [cst, Nat.mul_succ]
    omega
theorem cst_lt {C : Nat} (P tx : Nat → Nat) {j : Nat} (hC : C ≤ 5) (hj : j ≤ 60) : cst C P tx j ≤ 360 := by
  have h1 := cst_le C P tx j
  have h2 : (C + 1) * j ≤ 6 * 60 := Nat.mul_le_mul (by omega) hj
  omega
def exL (L : Nat → Nat) (a b : Nat) : Nat → Nat := up (up L a (L b)) b (L a)
def exP (L P : Nat → Nat) (a b : Nat) : Nat → Nat := up (up P (L b) a) (L a) b
/-- L and P are each other's inverse on the twelve -/
def perm (L P : Nat → Nat) : Prop := ∀ i, i < 12 → L i < 12 ∧ P i < 12 ∧ P (L i) = i ∧ L (P i) = i
theorem perm.L {L P : Nat → Nat} (h : perm L P) {i : Nat} (hi : i < 12) : L i < 12 := (h i hi).1
theorem perm.P {L P : Nat → Nat} (h : perm L P) {i : Nat} (hi : i < 12) : P i < 12 := (h i hi).2.1
theorem perm.PL {L P : Nat → Nat} (h : perm L P) {i : Nat} (hi : i < 12) : P (L i) = i := (h i hi).2.2.1
theorem perm.LP {L P : Nat → Nat} (h : perm L P) {i : Nat} (hi : i < 12) : L (P i) = i := (h i hi).2.2.2
theorem exL_ex (L : Nat → Nat) (a b : Nat) : exL (exL L a b) a b = L := by
  funext k
  simp only [exL, up]
  by_cases h1 : k = b
  · subst h1
    by_cases h2 : a = k
    · subst h2; simp
    · simp [h2]
  · by_cases h2 : k = a
    · subst h2
      simp [h1]
    · simp [h1, h2]
theorem exP_ex {L P : Nat → Nat} (h : perm L P) {a b : Nat} (ha : a < 12) (hb : b < 12) : exP (exL L a b) (exP L P a b) a b = P := by
  have hLa : exL L a b a = L b := by
    simp only [exL, up]
    by_cases h2 : a = b
    · subst h2; simp
    · simp [h2]
  have hLb : exL L a b b = L a := by simp [exL, up]
  have p1 := h.PL ha
  have p2 := h.PL hb
  funext k
  simp only [exP, hLa, hLb, up]
  by_cases h1 : k = L b
  · subst h1; simp [p2]
  · by_cases h2 : k = L a
    · subst h2; simp [h1, p1]
    · simp [h1, h2]
theorem perm.ex {L P : Nat → Nat} (h : perm L P) {a b : Nat} (ha : a < 12) (hb : b < 12) : perm (exL L a b) (exP L P a b) := by
  have hLa := h.L ha
  have hLb := h.L hb
  have pa := h.PL ha
  have pb := h.PL hb
  intro i hi
  have hLi := h.L hi
  have hPi := h.P hi
  have e1 := h.PL hi
  have e2 := h.LP hi
  simp only [exL, exP, up]
  refine ⟨by split <;> (try split) <;> omega, by split <;> (try split) <;> omega, ?_, ?_⟩
  · by_cases h1 : i = b
    · subst h1; simp
    · by_cases h2 : i = a
      · subst h2
        simp only [h1, if_false, if_true]
        by_cases h3 : L b = L i
        · exact absurd (by rw [← pa, ← pb, h3]) h1
        · simp [h3]
      · simp only [h1, h2, if_false]
        have n1 : L i ≠ L a := fun q => h2 (by rw [← e1, ← pa, q])
        have n2 : L i ≠ L b := fun q => h1 (by rw [← e1, ← pb, q])
        simp [n1, n2, e1]
  · by_cases h1 : i = L a
    · subst h1; simp
    · by_cases h2 : i = L b
      · subst h2
        simp only [h1, if_false, if_true]
        by_cases h3 : a = b
        · subst h3; exact absurd rfl h1
        · simp [h3]
      · simp only [h1, h2, if_false]
        have n1 : P i ≠ a := fun q => h1 (by rw [← e2, q])
        have n2 : P i ≠ b := fun q => h2 (by rw [← e2, q])
        simp [n1, n2, e2]
/-- the rows of swaps that can be undone -/
def pshU (u : Nat) : Nat := if u < 30 then u + 1 else 30
def shf (f : Nat → Nat) (j : Nat) : Nat → Nat := fun k => if k < j then f (k + 1) else f k
def pshA (f : Nat → Nat) (u a : Nat) : Nat → Nat := if u < 30 then up f u a else shf (up f 30 a) 30
theorem shf_0 (f : Nat → Nat) : shf f 0 = f := by funext k; simp [shf]
theorem shf_s (f : Nat → Nat) (j : Nat) : up (shf f j) j (f (j + 1)) = shf f (j + 1) := by
  funext k
  simp only [shf, up]
  by_cases h : k = j
  · subst h; simp
  · by_cases h2 : k < j
    · simp [h, h2, Nat.lt_succ_of_lt h2]
    · simp [h, h2, show ¬ k < j + 1 by omega]
theorem shf_at (f : Nat → Nat) (j : Nat) : shf f j (j + 1) = f (j + 1) := by simp only [shf]; rw [if_neg (by omega)]
theorem pshA_lt {f : Nat → Nat} {u a : Nat} (hf : ∀ i, f i < 12) (ha : a < 12) : ∀ i, pshA f u a i < 12 := by
  intro i
  unfold pshA
  split
  · simp only [up]; split
    · exact ha
    · exact hf i
  · simp only [shf, up]
    split <;> split <;> first | exact ha | exact hf _
theorem pshA_cls {f : Nat → Nat} {u a : Nat} (hu : ¬ u < 30) : ∀ j, j < 30 → up (shf f 29) 29 a j = pshA f u a j := by
  intro j hj
  simp only [pshA, if_neg hu, shf, up]
  by_cases h : j = 29
  · subst h; simp
  · simp [h, show j < 29 by omega, hj, show ¬ j + 1 = 30 by omega]
/-- mirror -/
def mir (L P : Nat → Nat) : Nat → (Nat → Nat) × (Nat → Nat)
  | 0 => (L, P)
  | j + 1 => (exL (mir L P j).1 j (11 - j), exP (mir L P j).1 (mir L P j).2 j (11 - j))
theorem perm.mir {L P : Nat → Nat} (h : perm L P) (j : Nat) (hj : j ≤ 6) : perm (mir L P j).1 (mir L P j).2 := by
  induction j with
  | zero => exact h
  | succ j ih => exact (ih (by omega)).ex (by omega) (by omega)
/-- loadLayout -/
def ldL (L tx : Nat → Nat) : Nat → (Nat → Nat)
  | 0 => L
  | j + 1 => up (ldL L tx j) j (tx j)
def ldP (P tx : Nat → Nat) : Nat → (Nat → Nat)
  | 0 => P
  | j + 1 => up (ldP P tx j) (tx j) j
def msk (tx : Nat → Nat) : Nat → Int32
  | 0 => nI 0
  | j + 1 => msk tx j ||| (nI 1 <<< (nI (tx j) &&& 31))
/-- pairCount -/
def prc (tx : Nat → Nat) (a b : Nat) : Nat → Nat
  | 0 => 0
  | j + 1 => prc tx a b j + (if (tx j = a ∧ tx (j + 1) = b) ∨ (tx j = b ∧ tx (j + 1) = a) then 1 else 0)
theorem prc_le (tx : Nat → Nat) (a b j : Nat) : prc tx a b j ≤ j := by
  induction j with
  | zero => simp [prc]
  | succ j ih => simp only [prc]; split <;> omega
/-- bestSwap: (least cost, 100 * low + high or 0) -/
def bstp (k least best after : Nat) : Nat × Nat := if after < least then (after, k) else (least, best)
def bIn (cs : Nat → Nat → Nat) (low : Nat) (s0 : Nat × Nat) : Nat → Nat × Nat
  | 0 => s0
  | j + 1 => bstp (100 * low + (low + j + 1)) (bIn cs low s0 j).1 (bIn cs low s0 j).2 (cs low (low + j + 1))
def bO (cs : Nat → Nat → Nat) (c0 : Nat) : Nat → Nat × Nat
  | 0 => (c0, 0)
  | i + 1 => bIn cs i (bO cs c0 i) (11 - i)
def bV (b : Nat) : Int32 := if b = 0 then -1000006 else nI b
theorem bIn_le (cs : Nat → Nat → Nat) (low : Nat) (s0 : Nat × Nat) (j : Nat) : (bIn cs low s0 j).1 ≤ s0.1 := by
  induction j with
  | zero => simp [bIn]
  | succ j ih => simp only [bIn, bstp]; split <;> simp only <;> omega
theorem bO_le (cs : Nat → Nat → Nat) (c0 i : Nat) : (bO cs c0 i).1 ≤ c0 := by
  induction i with
  | zero => simp [bO]
  | succ i ih => simp only [bO]; exact Nat.le_trans (bIn_le _ _ _ _) ih
/-- a code of a swap: none, or two positions -/
def bOk (b : Nat) : Prop := b = 0 ∨ ∃ x y, x < y ∧ y < 12 ∧ b = 100 * x + y
theorem bIn_ok (cs : Nat → Nat → Nat) {low : Nat} (hl : low < 12) {s0 : Nat × Nat} (h0 : bOk s0.2) (j : Nat) (hj : j ≤ 11 - low) : bOk (bIn cs low s0 j).2 := by
  induction j with
  | zero => exact h0
  | succ j ih =>
    simp only [bIn, bstp]
    split
    · exact Or.inr ⟨low, low + j + 1, by omega, by omega, rfl⟩
    · exact ih (by omega)
theorem bO_ok (cs : Nat → Nat → Nat) (c0 i : Nat) (hi : i ≤ 12) : bOk (bO cs c0 i).2 := by
  induction i with
  | zero => exact Or.inl rfl
  | succ i ih => exact bIn_ok cs (by omega) (ih (by omega)) _ (Nat.le_refl _)
theorem bOk.lt {b : Nat} (h : bOk b) : b < 2000 := by
  rcases h with h | ⟨x, y, h1, h2, h3⟩ <;> omega
def caf (C : Nat) (L P tx : Nat → Nat) (n : Nat) : Nat → Nat → Nat := fun a b => cst C (exP L P a b) tx (n - 1)
def bst (C : Nat) (L P tx : Nat → Nat) (n : Nat) : Nat := (bO (caf C L P tx n) (cst C P tx (n - 1)) 12).2
theorem bst_ok (C : Nat) (L P tx : Nat → Nat) (n : Nat) : bOk (bst C L P tx n) := bO_ok _ _ _ (by omega)
/-- the layout with its swaps, and improve over it -/
abbrev Lay : Type := (Nat → Nat) × (Nat → Nat) × Nat × (Nat → Nat) × (Nat → Nat)
def mks (y : Lay) (a b : Nat) : Lay := (exL y.1 a b, exP y.1 y.2.1 a b, pshU y.2.2.1, pshA y.2.2.2.1 y.2.2.1 a, pshA y.2.2.2.2 y.2.2.1 b)
def lbs (C : Nat) (tx : Nat → Nat) (n : Nat) (y : Lay) : Nat := bst C y.1 y.2.1 tx n
def impr (C : Nat) (tx : Nat → Nat) (n : Nat) : Nat → Lay → Nat × Lay
  | 0, y => (0, y)
  | k + 1, y => if lbs C tx n y = 0 then (0, y) else ((impr C tx n k (mks y (lbs C tx n y / 100) (lbs C tx n y % 100))).1 + 1, (impr C tx n k (mks y (lbs C tx n y / 100) (lbs C tx n y % 100))).2)
/-- worstLetter -/
def prt (C : Nat) (P tx : Nat → Nat) (v : Nat) : Nat → Nat
  | 0 => 0
  | j + 1 => prt C P tx v j + (if tx j = v ∨ tx (j + 1) = v then clos C P (tx j) (tx (j + 1)) else 0)
theorem prt_le (C : Nat) (P tx : Nat → Nat) (v j : Nat) : prt C P tx v j ≤ cst C P tx j := by
  induction j with
  | zero => simp [prt]
  | succ j ih => simp only [prt, cst]; split <;> omega
def wst (C : Nat) (P tx : Nat → Nat) (n : Nat) : Nat → Nat × Nat
  | 0 => (0, 0)
  | v + 1 => if (wst C P tx n v).1 < prt C P tx v (n - 1) then (prt C P tx v (n - 1), v + 1) else wst C P tx n v
def wV (w : Nat) : Int32 := if w = 0 then -1000006 else nI (w - 1)
theorem wst_le {C : Nat} (P tx : Nat → Nat) {n : Nat} (hC : C ≤ 5) (hn : n ≤ 60) (v : Nat) : (wst C P tx n v).1 ≤ 360 := by
  induction v with
  | zero => simp [wst]
  | succ v ih =>
    simp only [wst]
    split
    · exact Nat.le_trans (prt_le _ _ _ _ _) (cst_lt P tx hC (by omega))
    · exact ih
/-- typing: rests by position, the tick of each keystroke, what comes of it -/
def jamF (C p t : Nat) (R : Nat → Nat) : Nat → Nat
  | 0 => 0
  | q + 1 => if q ≤ p + C ∧ p ≤ q + C ∧ t < R q then 1 else jamF C p t R q
def stpR (C p t : Nat) (R : Nat → Nat) : Nat → Nat := fun q => if q < 12 ∧ q ≤ p + C ∧ p ≤ q + C ∧ t < R q then t else R q
theorem jamF_le (C p t : Nat) (R : Nat → Nat) (k : Nat) : jamF C p t R k ≤ 1 := by
  induction k with
  | zero => simp [jamF]
  | succ k ih => simp only [jamF]; split <;> omega
theorem jamF_iff (C p t : Nat) (R : Nat → Nat) (k : Nat) : jamF C p t R k = 1 ↔ ∃ q, q < k ∧ q ≤ p + C ∧ p ≤ q + C ∧ t < R q := by
  induction k with
  | zero => simp [jamF]
  | succ k ih =>
    simp only [jamF]
    split
    · rename_i h
      exact ⟨fun _ => ⟨k, by omega, h⟩, fun _ => rfl⟩
    · rename_i h
      rw [ih]
      constructor
      · rintro ⟨q, h1, h2⟩; exact ⟨q, by omega, h2⟩
      · rintro ⟨q, h1, h2⟩
        refine ⟨q, ?_, h2⟩
        by_cases e : q = k
        · subst e; exact absurd h2 h
        · omega
def oc1 (C t : Nat) (R : Nat → Nat) (p : Nat) : Nat := if t < R p then 2 else if jamF C p t R 12 = 1 then 1 else 0
def rn1 (C T t : Nat) (R : Nat → Nat) (p : Nat) : Nat → Nat := if t < R p then R else if jamF C p t R 12 = 1 then stpR C p t R else up (stpR C p t R) p (t + T)
def tyS (tx P : Nat → Nat) (T C K iv : Nat) : Nat → (Nat → Nat) × Nat
  | 0 => (fun _ => 0, 0)
  | k + 1 => (rn1 C T (tyS tx P T C K iv k).2 (tyS tx P T C K iv k).1 (P (tx k)), (tyS tx P T C K iv k).2 + (if oc1 C (tyS tx P T C K iv k).2 (tyS tx P T C K iv k).1 (P (tx k)) = 1 then iv + K else iv))
def oc (tx P : Nat → Nat) (T C K iv : Nat) (k : Nat) : Nat := oc1 C (tyS tx P T C K iv k).2 (tyS tx P T C K iv k).1 (P (tx k))
theorem oc_le (tx P : Nat → Nat) (T C K iv k : Nat) : oc tx P T C K iv k ≤ 2 := by
  simp only [oc, oc1]; split <;> (try split) <;> omega
theorem stpR_le {C p t : Nat} {R : Nat → Nat} (q : Nat) : stpR C p t R q ≤ R q := by
  simp only [stpR]; split <;> omega
theorem rn1_le {C T t : Nat} {R : Nat → Nat} {p M : Nat} (hR : ∀ q, R q ≤ M) (hM : t + T ≤ M) (q : Nat) : rn1 C T t R p q ≤ M := by
  have h1 := hR q
  have h2 := stpR_le (C := C) (p := p) (t := t) (R := R) q
  simp only [rn1]
  split
  · exact h1
  · split
    · omega
    · simp only [up]; split <;> omega
theorem tyS_le {tx P : Nat → Nat} {T C K iv : Nat} (hT : T ≤ 20) (hK : K ≤ 50) (hi : iv ≤ 30) (k : Nat) : (tyS tx P T C K iv k).2 ≤ 80 * k ∧ ∀ q, (tyS tx P T C K iv k).1 q ≤ 80 * k + 20 := by
  induction k with
  | zero => simp [tyS]
  | succ k ih =>
    obtain ⟨h1, h2⟩ := ih
    refine ⟨?_, ?_⟩
    · simp only [tyS]; split <;> omega
    · intro q
      simp only [tyS]
      exact rn1_le (fun q => by have := h2 q; omega) (by omega) q
def pmF (o : Nat → Nat) : Nat → Nat
  | 0 => 0
  | k + 1 => if o k = 0 then pmF o k + 1 else pmF o k
def jmF (o : Nat → Nat) : Nat → Nat
  | 0 => 0
  | k + 1 => if o k = 1 then jmF o k + 1 else jmF o k
def lmF (o : Nat → Nat) : Nat → Nat
  | 0 => 0
  | k + 1 => if o k = 0 ∨ o k = 1 then lmF o k else lmF o k + 1
def prF (o tx pr : Nat → Nat) : Nat → (Nat → Nat)
  | 0 => pr
  | k + 1 => if o k = 0 then up (prF o tx pr k) (pmF o k) (tx k) else prF o tx pr k
def jaF (o ja : Nat → Nat) : Nat → (Nat → Nat)
  | 0 => ja
  | k + 1 => if o k = 1 then up (jaF o ja k) (jmF o k) k else jaF o ja k
def duF (tx P : Nat → Nat) (T C K iv n : Nat) : Nat := if n = 0 then 0 else (tyS tx P T C K iv (n - 1)).2 + T
theorem pmF_le (o : Nat → Nat) (k : Nat) : pmF o k ≤ k := by
  induction k with
  | zero => simp [pmF]
  | succ k ih => simp only [pmF]; split <;> omega
theorem jmF_le (o : Nat → Nat) (k : Nat) : jmF o k ≤ k := by
  induction k with
  | zero => simp [jmF]
  | succ k ih => simp only [jmF]; split <;> omega
theorem lmF_le (o : Nat → Nat) (k : Nat) : lmF o k ≤ k := by
  induction k with
  | zero => simp [lmF]
  | succ k ih => simp only [lmF]; split <;> omega
def allz (o : Nat → Nat) : Nat → Nat
  | 0 => 1
  | k + 1 => if allz o k = 1 ∧ o k = 0 then 1 else 0
theorem allz_eq (o : Nat → Nat) (k : Nat) : allz o k = if jmF o k + lmF o k = 0 then 1 else 0 := by
  induction k with
  | zero => simp [allz, jmF, lmF]
  | succ k ih =>
    simp only [allz, jmF, lmF, ih]
    by_cases h0 : o k = 0
    · simp [h0]
    · by_cases h1 : o k = 1
      · simp [h1]
      · simp [h0, h1]
/-- safeInterval -/
def sfF (bad : Nat → Nat) : Nat → Nat → Nat
  | 0, _ => 0
  | f + 1, i => if bad i = 0 then i else sfF bad f (i + 1)
def bad (tx P : Nat → Nat) (T C K n : Nat) (iv : Nat) : Nat := jmF (oc tx P T C K iv) n + lmF (oc tx P T C K iv) n
def sfi (tx P : Nat → Nat) (T C K n : Nat) : Nat := sfF (bad tx P T C K n) 30 1
/-- digest -/
def mx (h : Int64) (v : Int64) : Int64 := 31 * h + v
def mxF (h : Int64) (f : Nat → Nat) : Nat → Int64
  | 0 => h
  | k + 1 => mx (mxF h f k) (nI (f k)).toInt64
end
section
/-! the worlds of the two objects, and rows beside those of part 03 -/
abbrev wC (h : Nat → Nat) (ga : Nat) (gb : Nat) (cA : ClassId) (n : Nat) (tx : Nat → Nat) (T : Nat) (C : Nat) (K : Nat) (L : Nat → Nat) (P : Nat → Nat) (u : Nat) (ua : Nat → Nat) (ub : Nat → Nat) : va_W := [(h 0, .inr (1, [.ref (h 1), .int (nI n), .int (nI T), .int (nI C), .int (nI K), .ref (h 2), .ref (h 3), .ref (h 4), .ref (h 5), .int (nI u), .ref ga, .ref gb])), (h 1, aE cA 60 tx), (h 2, aE cA 12 L), (h 3, aE cA 12 P), (h 4, aE cA 30 ua), (h 5, aE cA 30 ub)]
abbrev wB (h : Nat → Nat) (ga : Nat) (gb : Nat) (cA : ClassId) (n : Nat) (tx : Nat → Nat) (T : Nat) (C : Nat) (K : Nat) (P : Nat → Nat) (u : Nat) : va_W := [(h 0, .inr (1, [.ref (h 1), .int (nI n), .int (nI T), .int (nI C), .int (nI K), .ref (h 2), .ref (h 3), .ref (h 4), .ref (h 5), .int (nI u), .ref ga, .ref gb])), (h 1, aE cA 60 tx), (h 3, aE cA 12 P)]
abbrev wT (g : Nat → Nat) (cA : ClassId) (pm : Nat) (jm : Nat) (lm : Nat) (du : Nat) (pr : Nat → Nat) (ja : Nat → Nat) (rt : Nat → Nat) : va_W := [(g 0, .inr (0, [.ref (g 1), .int (nI pm), .ref (g 2), .int (nI jm), .int (nI lm), .int (nI du), .ref (g 3)])), (g 1, aE cA 60 pr), (g 2, aE cA 60 ja), (g 3, aE cA 12 rt)]
abbrev wD (h : Nat → Nat) (cA : ClassId) (n : Nat) (tx : Nat → Nat) (T : Nat) (C : Nat) (K : Nat) (P : Nat → Nat) (L : Nat → Nat) (u : Nat) (ua : Nat → Nat) (ub : Nat → Nat) (pm : Nat) (jm : Nat) (lm : Nat) (du : Nat) (lt : Nat) (hh : Int64) : va_W := [(h 0, .inr (2, [.int (nI n), .ref (h 1), .int (nI T), .int (nI C), .int (nI K), .ref (h 2), .ref (h 3), .int (nI u), .ref (h 4), .ref (h 5), .int (nI pm), .int (nI jm), .int (nI lm), .int (nI du), .ref (h 6), .ref (h 7), .ref (h 8), .ref (h 9), .int (nI lt), .long hh])), (h 1, aE cA 60 tx), (h 2, aE cA 12 P), (h 3, aE cA 12 L), (h 4, aE cA 31 ua), (h 5, aE cA 31 ub)]
abbrev wY (h : Nat → Nat) (cA : ClassId) (pr : Nat → Nat) (ja : Nat → Nat) (rs : Nat → Nat) (os : Nat → Nat) : va_W := [(h 6, aE cA 60 pr), (h 7, aE cA 60 ja), (h 8, aE cA 12 rs), (h 9, aE cA 60 os)]
abbrev wA (aa : Nat) (nn : Nat) (cA : ClassId) (ff : Nat → Nat) : va_W := [(aa, aE cA nn ff)]
abbrev wR (h : Nat → Nat) (cA : ClassId) (L : Nat → Nat) (ua : Nat → Nat) (ub : Nat → Nat) : va_W := [(h 2, aE cA 12 L), (h 4, aE cA 30 ua), (h 5, aE cA 30 ub)]

theorem hdX0_init : yX0_init.cls = RX0 ∧ yX0_init.cls ≠ "java/lang/invoke/MethodHandle" ∧ yX0_init.cls ≠ "java/lang/invoke/VarHandle" ∧ (parseMethodDescriptor yX0_init.desc).map (fun d => d.parameters.length) = some 0 := by decide +kernel
theorem hdnX0_init : yX0_init.cls ≠ "java/lang/invoke/MethodHandle" ∧ yX0_init.cls ≠ "java/lang/invoke/VarHandle" ∧ (parseMethodDescriptor yX0_init.desc).map (fun d => d.parameters.length) = some 0 := by decide +kernel
theorem hdX0_begin : yX0_begin.cls = RX0 ∧ yX0_begin.cls ≠ "java/lang/invoke/MethodHandle" ∧ yX0_begin.cls ≠ "java/lang/invoke/VarHandle" ∧ (parseMethodDescriptor yX0_begin.desc).map (fun d => d.parameters.length) = some 0 := by decide +kernel
theorem hdnX0_begin : yX0_begin.cls ≠ "java/lang/invoke/MethodHandle" ∧ yX0_begin.cls ≠ "java/lang/invoke/VarHandle" ∧ (parseMethodDescriptor yX0_begin.desc).map (fun d => d.parameters.length) = some 0 := by decide +kernel
theorem hdX0_inMotion : yX0_inMotion.cls = RX0 ∧ yX0_inMotion.cls ≠ "java/lang/invoke/MethodHandle" ∧ yX0_inMotion.cls ≠ "java/lang/invoke/VarHandle" ∧ (parseMethodDescriptor yX0_inMotion.desc).map (fun d => d.parameters.length) = some 2 := by decide +kernel
theorem hdnX0_inMotion : yX0_inMotion.cls ≠ "java/lang/invoke/MethodHandle" ∧ yX0_inMotion.cls ≠ "java/lang/invoke/VarHandle" ∧ (parseMethodDescriptor yX0_inMotion.desc).map (fun d => d.parameters.length) = some 2 := by decide +kernel
theorem hdX0_stopAround : yX0_stopAround.cls = RX0 ∧ yX0_stopAround.cls ≠ "java/lang/invoke/MethodHandle" ∧ yX0_stopAround.cls ≠ "java/lang/invoke/VarHandle" ∧ (parseMethodDescriptor yX0_stopAround.desc).map (fun d => d.parameters.length) = some 3 := by decide +kernel
theorem hdnX0_stopAround : yX0_stopAround.cls ≠ "java/lang/invoke/MethodHandle" ∧ yX0_stopAround.cls ≠ "java/lang/invoke/VarHandle" ∧ (parseMethodDescriptor yX0_stopAround.desc).map (fun d => d.parameters.length) = some 3 := by decide +kernel
theorem hdX0_addPrinted : yX0_addPrinted.cls = RX0 ∧ yX0_addPrinted.cls ≠ "java/lang/invoke/MethodHandle" ∧ yX0_addPrinted.cls ≠ "java/lang/invoke/VarHandle" ∧ (parseMethodDescriptor yX0_addPrinted.desc).map (fun d => d.parameters.length) = some 1 := by decide +kernel
theorem hdnX0_addPrinted : yX0_addPrinted.cls ≠ "java/lang/invoke/MethodHandle" ∧ yX0_addPrinted.cls ≠ "java/lang/invoke/VarHandle" ∧ (parseMethodDescriptor yX0_addPrinted.desc).map (fun d => d.parameters.length) = some 1 := by decide +kernel
theorem hdX0_addJammed : yX0_addJammed.cls = RX0 ∧ yX0_addJammed.cls ≠ "java/lang/invoke/MethodHandle" ∧ yX0_addJammed.cls ≠ "java/lang/invoke/VarHandle" ∧ (parseMethodDescriptor yX0_addJammed.desc).map (fun d => d.parameters.length) = some 1 := by decide +kernel
theorem hdnX0_addJammed : yX0_addJammed.cls ≠ "java/lang/invoke/MethodHandle" ∧ yX0_addJammed.cls ≠ "java/lang/invoke/VarHandle" ∧ (parseMethodDescriptor yX0_addJammed.desc).map (fun d => d.parameters.length) = some 1 := by decide +kernel
theorem hdX1_init : yX1_init.cls = RX1 ∧ yX1_init.cls ≠ "java/lang/invoke/MethodHandle" ∧ yX1_init.cls ≠ "java/lang/invoke/VarHandle" ∧ (parseMethodDescriptor yX1_init.desc).map (fun d => d.parameters.length) = some 0 := by decide +kernel
theorem hdX1_append : yX1_append.cls = RX1 ∧ yX1_append.cls ≠ "java/lang/invoke/MethodHandle" ∧ yX1_append.cls ≠ "java/lang/invoke/VarHandle" ∧ (parseMethodDescriptor yX1_append.desc).map (fun d => d.parameters.length) = some 1 := by decide +kernel
theorem hdX1_clearText : yX1_clearText.cls = RX1 ∧ yX1_clearText.cls ≠ "java/lang/invoke/MethodHandle" ∧ yX1_clearText.cls ≠ "java/lang/invoke/VarHandle" ∧ (parseMethodDescriptor yX1_clearText.desc).map (fun d => d.parameters.length) = some 0 := by decide +kernel
theorem hdX1_pairCount : yX1_pairCount.cls = RX1 ∧ yX1_pairCount.cls ≠ "java/lang/invoke/MethodHandle" ∧ yX1_pairCount.cls ≠ "java/lang/invoke/VarHandle" ∧ (parseMethodDescriptor yX1_pairCount.desc).map (fun d => d.parameters.length) = some 2 := by decide +kernel
theorem hdX1_setTravelTime : yX1_setTravelTime.cls = RX1 ∧ yX1_setTravelTime.cls ≠ "java/lang/invoke/MethodHandle" ∧ yX1_setTravelTime.cls ≠ "java/lang/invoke/VarHandle" ∧ (parseMethodDescriptor yX1_setTravelTime.desc).map (fun d => d.parameters.length) = some 1 := by decide +kernel
theorem hdX1_setClashDistance : yX1_setClashDistance.cls = RX1 ∧ yX1_setClashDistance.cls ≠ "java/lang/invoke/MethodHandle" ∧ yX1_setClashDistance.cls ≠ "java/lang/invoke/VarHandle" ∧ (parseMethodDescriptor yX1_setClashDistance.desc).map (fun d => d.parameters.length) = some 1 := by decide +kernel
theorem hdX1_setClearingTime : yX1_setClearingTime.cls = RX1 ∧ yX1_setClearingTime.cls ≠ "java/lang/invoke/MethodHandle" ∧ yX1_setClearingTime.cls ≠ "java/lang/invoke/VarHandle" ∧ (parseMethodDescriptor yX1_setClearingTime.desc).map (fun d => d.parameters.length) = some 1 := by decide +kernel
theorem hdX1_loadLayout : yX1_loadLayout.cls = RX1 ∧ yX1_loadLayout.cls ≠ "java/lang/invoke/MethodHandle" ∧ yX1_loadLayout.cls ≠ "java/lang/invoke/VarHandle" ∧ (parseMethodDescriptor yX1_loadLayout.desc).map (fun d => d.parameters.length) = some 0 := by decide +kernel
theorem hdX1_letterAt : yX1_letterAt.cls = RX1 ∧ yX1_letterAt.cls ≠ "java/lang/invoke/MethodHandle" ∧ yX1_letterAt.cls ≠ "java/lang/invoke/VarHandle" ∧ (parseMethodDescriptor yX1_letterAt.desc).map (fun d => d.parameters.length) = some 1 := by decide +kernel
theorem hdX1_positionOf : yX1_positionOf.cls = RX1 ∧ yX1_positionOf.cls ≠ "java/lang/invoke/MethodHandle" ∧ yX1_positionOf.cls ≠ "java/lang/invoke/VarHandle" ∧ (parseMethodDescriptor yX1_positionOf.desc).map (fun d => d.parameters.length) = some 1 := by decide +kernel
theorem hdX1_swap : yX1_swap.cls = RX1 ∧ yX1_swap.cls ≠ "java/lang/invoke/MethodHandle" ∧ yX1_swap.cls ≠ "java/lang/invoke/VarHandle" ∧ (parseMethodDescriptor yX1_swap.desc).map (fun d => d.parameters.length) = some 2 := by decide +kernel
theorem hdX1_undo : yX1_undo.cls = RX1 ∧ yX1_undo.cls ≠ "java/lang/invoke/MethodHandle" ∧ yX1_undo.cls ≠ "java/lang/invoke/VarHandle" ∧ (parseMethodDescriptor yX1_undo.desc).map (fun d => d.parameters.length) = some 0 := by decide +kernel
theorem hdX1_undoCount : yX1_undoCount.cls = RX1 ∧ yX1_undoCount.cls ≠ "java/lang/invoke/MethodHandle" ∧ yX1_undoCount.cls ≠ "java/lang/invoke/VarHandle" ∧ (parseMethodDescriptor yX1_undoCount.desc).map (fun d => d.parameters.length) = some 0 := by decide +kernel
theorem hdX1_mirror : yX1_mirror.cls = RX1 ∧ yX1_mirror.cls ≠ "java/lang/invoke/MethodHandle" ∧ yX1_mirror.cls ≠ "java/lang/invoke/VarHandle" ∧ (parseMethodDescriptor yX1_mirror.desc).map (fun d => d.parameters.length) = some 0 := by decide +kernel
theorem hdX1_cost : yX1_cost.cls = RX1 ∧ yX1_cost.cls ≠ "java/lang/invoke/MethodHandle" ∧ yX1_cost.cls ≠ "java/lang/invoke/VarHandle" ∧ (parseMethodDescriptor yX1_cost.desc).map (fun d => d.parameters.length) = some 0 := by decide +kernel
theorem hdX1_gain : yX1_gain.cls = RX1 ∧ yX1_gain.cls ≠ "java/lang/invoke/MethodHandle" ∧ yX1_gain.cls ≠ "java/lang/invoke/VarHandle" ∧ (parseMethodDescriptor yX1_gain.desc).map (fun d => d.parameters.length) = some 2 := by decide +kernel
theorem hdX1_bestSwap : yX1_bestSwap.cls = RX1 ∧ yX1_bestSwap.cls ≠ "java/lang/invoke/MethodHandle" ∧ yX1_bestSwap.cls ≠ "java/lang/invoke/VarHandle" ∧ (parseMethodDescriptor yX1_bestSwap.desc).map (fun d => d.parameters.length) = some 0 := by decide +kernel
theorem hdX1_improve : yX1_improve.cls = RX1 ∧ yX1_improve.cls ≠ "java/lang/invoke/MethodHandle" ∧ yX1_improve.cls ≠ "java/lang/invoke/VarHandle" ∧ (parseMethodDescriptor yX1_improve.desc).map (fun d => d.parameters.length) = some 1 := by decide +kernel
theorem hdX1_worstLetter : yX1_worstLetter.cls = RX1 ∧ yX1_worstLetter.cls ≠ "java/lang/invoke/MethodHandle" ∧ yX1_worstLetter.cls ≠ "java/lang/invoke/VarHandle" ∧ (parseMethodDescriptor yX1_worstLetter.desc).map (fun d => d.parameters.length) = some 0 := by decide +kernel
theorem hdX1_run : yX1_run.cls = RX1 ∧ yX1_run.cls ≠ "java/lang/invoke/MethodHandle" ∧ yX1_run.cls ≠ "java/lang/invoke/VarHandle" ∧ (parseMethodDescriptor yX1_run.desc).map (fun d => d.parameters.length) = some 1 := by decide +kernel
theorem hdX1_jams : yX1_jams.cls = RX1 ∧ yX1_jams.cls ≠ "java/lang/invoke/MethodHandle" ∧ yX1_jams.cls ≠ "java/lang/invoke/VarHandle" ∧ (parseMethodDescriptor yX1_jams.desc).map (fun d => d.parameters.length) = some 0 := by decide +kernel
theorem hdX1_lost : yX1_lost.cls = RX1 ∧ yX1_lost.cls ≠ "java/lang/invoke/MethodHandle" ∧ yX1_lost.cls ≠ "java/lang/invoke/VarHandle" ∧ (parseMethodDescriptor yX1_lost.desc).map (fun d => d.parameters.length) = some 0 := by decide +kernel
theorem hdX1_duration : yX1_duration.cls = RX1 ∧ yX1_duration.cls ≠ "java/lang/invoke/MethodHandle" ∧ yX1_duration.cls ≠ "java/lang/invoke/VarHandle" ∧ (parseMethodDescriptor yX1_duration.desc).map (fun d => d.parameters.length) = some 0 := by decide +kernel
theorem hdX1_printedLetter : yX1_printedLetter.cls = RX1 ∧ yX1_printedLetter.cls ≠ "java/lang/invoke/MethodHandle" ∧ yX1_printedLetter.cls ≠ "java/lang/invoke/VarHandle" ∧ (parseMethodDescriptor yX1_printedLetter.desc).map (fun d => d.parameters.length) = some 1 := by decide +kernel
theorem hdX1_jammedKeystroke : yX1_jammedKeystroke.cls = RX1 ∧ yX1_jammedKeystroke.cls ≠ "java/lang/invoke/MethodHandle" ∧ yX1_jammedKeystroke.cls ≠ "java/lang/invoke/VarHandle" ∧ (parseMethodDescriptor yX1_jammedKeystroke.desc).map (fun d => d.parameters.length) = some 1 := by decide +kernel
theorem hdX1_safeInterval : yX1_safeInterval.cls = RX1 ∧ yX1_safeInterval.cls ≠ "java/lang/invoke/MethodHandle" ∧ yX1_safeInterval.cls ≠ "java/lang/invoke/VarHandle" ∧ (parseMethodDescriptor yX1_safeInterval.desc).map (fun d => d.parameters.length) = some 0 := by decide +kernel
theorem hdX1_digest : yX1_digest.cls = RX1 ∧ yX1_digest.cls ≠ "java/lang/invoke/MethodHandle" ∧ yX1_digest.cls ≠ "java/lang/invoke/VarHandle" ∧ (parseMethodDescriptor yX1_digest.desc).map (fun d => d.parameters.length) = some 0 := by decide +kernel
theorem hdX1_isNumber : yX1_isNumber.cls = RX1 ∧ yX1_isNumber.cls ≠ "java/lang/invoke/MethodHandle" ∧ yX1_isNumber.cls ≠ "java/lang/invoke/VarHandle" ∧ (parseMethodDescriptor yX1_isNumber.desc).map (fun d => d.parameters.length) = some 1 := by decide +kernel
theorem hdX1_isPairOf : yX1_isPairOf.cls = RX1 ∧ yX1_isPairOf.cls ≠ "java/lang/invoke/MethodHandle" ∧ yX1_isPairOf.cls ≠ "java/lang/invoke/VarHandle" ∧ (parseMethodDescriptor yX1_isPairOf.desc).map (fun d => d.parameters.length) = some 4 := by decide +kernel
theorem hdX1_textIsLayout : yX1_textIsLayout.cls = RX1 ∧ yX1_textIsLayout.cls ≠ "java/lang/invoke/MethodHandle" ∧ yX1_textIsLayout.cls ≠ "java/lang/invoke/VarHandle" ∧ (parseMethodDescriptor yX1_textIsLayout.desc).map (fun d => d.parameters.length) = some 0 := by decide +kernel
theorem hdX1_place : yX1_place.cls = RX1 ∧ yX1_place.cls ≠ "java/lang/invoke/MethodHandle" ∧ yX1_place.cls ≠ "java/lang/invoke/VarHandle" ∧ (parseMethodDescriptor yX1_place.desc).map (fun d => d.parameters.length) = some 2 := by decide +kernel
theorem hdX1_exchange : yX1_exchange.cls = RX1 ∧ yX1_exchange.cls ≠ "java/lang/invoke/MethodHandle" ∧ yX1_exchange.cls ≠ "java/lang/invoke/VarHandle" ∧ (parseMethodDescriptor yX1_exchange.desc).map (fun d => d.parameters.length) = some 2 := by decide +kernel
theorem hdX1_swapError : yX1_swapError.cls = RX1 ∧ yX1_swapError.cls ≠ "java/lang/invoke/MethodHandle" ∧ yX1_swapError.cls ≠ "java/lang/invoke/VarHandle" ∧ (parseMethodDescriptor yX1_swapError.desc).map (fun d => d.parameters.length) = some 2 := by decide +kernel
theorem hdX1_makeSwap : yX1_makeSwap.cls = RX1 ∧ yX1_makeSwap.cls ≠ "java/lang/invoke/MethodHandle" ∧ yX1_makeSwap.cls ≠ "java/lang/invoke/VarHandle" ∧ (parseMethodDescriptor yX1_makeSwap.desc).map (fun d => d.parameters.length) = some 2 := by decide +kernel
theorem hdX1_forgetOldestSwap : yX1_forgetOldestSwap.cls = RX1 ∧ yX1_forgetOldestSwap.cls ≠ "java/lang/invoke/MethodHandle" ∧ yX1_forgetOldestSwap.cls ≠ "java/lang/invoke/VarHandle" ∧ (parseMethodDescriptor yX1_forgetOldestSwap.desc).map (fun d => d.parameters.length) = some 0 := by decide +kernel
theorem hdX1_closeness : yX1_closeness.cls = RX1 ∧ yX1_closeness.cls ≠ "java/lang/invoke/MethodHandle" ∧ yX1_closeness.cls ≠ "java/lang/invoke/VarHandle" ∧ (parseMethodDescriptor yX1_closeness.desc).map (fun d => d.parameters.length) = some 2 := by decide +kernel
theorem hdX1_closenessOf : yX1_closenessOf.cls = RX1 ∧ yX1_closenessOf.cls ≠ "java/lang/invoke/MethodHandle" ∧ yX1_closenessOf.cls ≠ "java/lang/invoke/VarHandle" ∧ (parseMethodDescriptor yX1_closenessOf.desc).map (fun d => d.parameters.length) = some 1 := by decide +kernel
theorem hdX1_costAfterSwap : yX1_costAfterSwap.cls = RX1 ∧ yX1_costAfterSwap.cls ≠ "java/lang/invoke/MethodHandle" ∧ yX1_costAfterSwap.cls ≠ "java/lang/invoke/VarHandle" ∧ (parseMethodDescriptor yX1_costAfterSwap.desc).map (fun d => d.parameters.length) = some 2 := by decide +kernel
theorem hdX1_typeText : yX1_typeText.cls = RX1 ∧ yX1_typeText.cls ≠ "java/lang/invoke/MethodHandle" ∧ yX1_typeText.cls ≠ "java/lang/invoke/VarHandle" ∧ (parseMethodDescriptor yX1_typeText.desc).map (fun d => d.parameters.length) = some 2 := by decide +kernel
theorem hdX1_strike : yX1_strike.cls = RX1 ∧ yX1_strike.cls ≠ "java/lang/invoke/MethodHandle" ∧ yX1_strike.cls ≠ "java/lang/invoke/VarHandle" ∧ (parseMethodDescriptor yX1_strike.desc).map (fun d => d.parameters.length) = some 3 := by decide +kernel
theorem hdX1_mix : yX1_mix.cls = RX1 ∧ yX1_mix.cls ≠ "java/lang/invoke/MethodHandle" ∧ yX1_mix.cls ≠ "java/lang/invoke/VarHandle" ∧ (parseMethodDescriptor yX1_mix.desc).map (fun d => d.parameters.length) = some 2 := by decide +kernel
theorem hdX1_mixAll : yX1_mixAll.cls = RX1 ∧ yX1_mixAll.cls ≠ "java/lang/invoke/MethodHandle" ∧ yX1_mixAll.cls ≠ "java/lang/invoke/VarHandle" ∧ (parseMethodDescriptor yX1_mixAll.desc).map (fun d => d.parameters.length) = some 3 := by decide +kernel
theorem hdX2_init : yX2_init.cls = RX2 ∧ yX2_init.cls ≠ "java/lang/invoke/MethodHandle" ∧ yX2_init.cls ≠ "java/lang/invoke/VarHandle" ∧ (parseMethodDescriptor yX2_init.desc).map (fun d => d.parameters.length) = some 0 := by decide +kernel
theorem hdX2_within : yX2_within.cls = RX2 ∧ yX2_within.cls ≠ "java/lang/invoke/MethodHandle" ∧ yX2_within.cls ≠ "java/lang/invoke/VarHandle" ∧ (parseMethodDescriptor yX2_within.desc).map (fun d => d.parameters.length) = some 3 := by decide +kernel
theorem hdX2_apart : yX2_apart.cls = RX2 ∧ yX2_apart.cls ≠ "java/lang/invoke/MethodHandle" ∧ yX2_apart.cls ≠ "java/lang/invoke/VarHandle" ∧ (parseMethodDescriptor yX2_apart.desc).map (fun d => d.parameters.length) = some 2 := by decide +kernel
theorem hdX2_append : yX2_append.cls = RX2 ∧ yX2_append.cls ≠ "java/lang/invoke/MethodHandle" ∧ yX2_append.cls ≠ "java/lang/invoke/VarHandle" ∧ (parseMethodDescriptor yX2_append.desc).map (fun d => d.parameters.length) = some 1 := by decide +kernel
theorem hdX2_clearText : yX2_clearText.cls = RX2 ∧ yX2_clearText.cls ≠ "java/lang/invoke/MethodHandle" ∧ yX2_clearText.cls ≠ "java/lang/invoke/VarHandle" ∧ (parseMethodDescriptor yX2_clearText.desc).map (fun d => d.parameters.length) = some 0 := by decide +kernel
theorem hdX2_isLetter : yX2_isLetter.cls = RX2 ∧ yX2_isLetter.cls ≠ "java/lang/invoke/MethodHandle" ∧ yX2_isLetter.cls ≠ "java/lang/invoke/VarHandle" ∧ (parseMethodDescriptor yX2_isLetter.desc).map (fun d => d.parameters.length) = some 1 := by decide +kernel
theorem hdX2_pairCount : yX2_pairCount.cls = RX2 ∧ yX2_pairCount.cls ≠ "java/lang/invoke/MethodHandle" ∧ yX2_pairCount.cls ≠ "java/lang/invoke/VarHandle" ∧ (parseMethodDescriptor yX2_pairCount.desc).map (fun d => d.parameters.length) = some 2 := by decide +kernel
theorem hdX2_setTravelTime : yX2_setTravelTime.cls = RX2 ∧ yX2_setTravelTime.cls ≠ "java/lang/invoke/MethodHandle" ∧ yX2_setTravelTime.cls ≠ "java/lang/invoke/VarHandle" ∧ (parseMethodDescriptor yX2_setTravelTime.desc).map (fun d => d.parameters.length) = some 1 := by decide +kernel
theorem hdX2_setClashDistance : yX2_setClashDistance.cls = RX2 ∧ yX2_setClashDistance.cls ≠ "java/lang/invoke/MethodHandle" ∧ yX2_setClashDistance.cls ≠ "java/lang/invoke/VarHandle" ∧ (parseMethodDescriptor yX2_setClashDistance.desc).map (fun d => d.parameters.length) = some 1 := by decide +kernel
theorem hdX2_setClearingTime : yX2_setClearingTime.cls = RX2 ∧ yX2_setClearingTime.cls ≠ "java/lang/invoke/MethodHandle" ∧ yX2_setClearingTime.cls ≠ "java/lang/invoke/VarHandle" ∧ (parseMethodDescriptor yX2_setClearingTime.desc).map (fun d => d.parameters.length) = some 1 := by decide +kernel
theorem hdX2_isLayout : yX2_isLayout.cls = RX2 ∧ yX2_isLayout.cls ≠ "java/lang/invoke/MethodHandle" ∧ yX2_isLayout.cls ≠ "java/lang/invoke/VarHandle" ∧ (parseMethodDescriptor yX2_isLayout.desc).map (fun d => d.parameters.length) = some 0 := by decide +kernel
theorem hdX2_loadLayout : yX2_loadLayout.cls = RX2 ∧ yX2_loadLayout.cls ≠ "java/lang/invoke/MethodHandle" ∧ yX2_loadLayout.cls ≠ "java/lang/invoke/VarHandle" ∧ (parseMethodDescriptor yX2_loadLayout.desc).map (fun d => d.parameters.length) = some 0 := by decide +kernel
theorem hdX2_letterAt : yX2_letterAt.cls = RX2 ∧ yX2_letterAt.cls ≠ "java/lang/invoke/MethodHandle" ∧ yX2_letterAt.cls ≠ "java/lang/invoke/VarHandle" ∧ (parseMethodDescriptor yX2_letterAt.desc).map (fun d => d.parameters.length) = some 1 := by decide +kernel
theorem hdX2_positionOf : yX2_positionOf.cls = RX2 ∧ yX2_positionOf.cls ≠ "java/lang/invoke/MethodHandle" ∧ yX2_positionOf.cls ≠ "java/lang/invoke/VarHandle" ∧ (parseMethodDescriptor yX2_positionOf.desc).map (fun d => d.parameters.length) = some 1 := by decide +kernel
theorem hdX2_exchange : yX2_exchange.cls = RX2 ∧ yX2_exchange.cls ≠ "java/lang/invoke/MethodHandle" ∧ yX2_exchange.cls ≠ "java/lang/invoke/VarHandle" ∧ (parseMethodDescriptor yX2_exchange.desc).map (fun d => d.parameters.length) = some 2 := by decide +kernel
theorem hdX2_swapNow : yX2_swapNow.cls = RX2 ∧ yX2_swapNow.cls ≠ "java/lang/invoke/MethodHandle" ∧ yX2_swapNow.cls ≠ "java/lang/invoke/VarHandle" ∧ (parseMethodDescriptor yX2_swapNow.desc).map (fun d => d.parameters.length) = some 2 := by decide +kernel
theorem hdX2_refusal : yX2_refusal.cls = RX2 ∧ yX2_refusal.cls ≠ "java/lang/invoke/MethodHandle" ∧ yX2_refusal.cls ≠ "java/lang/invoke/VarHandle" ∧ (parseMethodDescriptor yX2_refusal.desc).map (fun d => d.parameters.length) = some 2 := by decide +kernel
theorem hdX2_swap : yX2_swap.cls = RX2 ∧ yX2_swap.cls ≠ "java/lang/invoke/MethodHandle" ∧ yX2_swap.cls ≠ "java/lang/invoke/VarHandle" ∧ (parseMethodDescriptor yX2_swap.desc).map (fun d => d.parameters.length) = some 2 := by decide +kernel
theorem hdX2_undo : yX2_undo.cls = RX2 ∧ yX2_undo.cls ≠ "java/lang/invoke/MethodHandle" ∧ yX2_undo.cls ≠ "java/lang/invoke/VarHandle" ∧ (parseMethodDescriptor yX2_undo.desc).map (fun d => d.parameters.length) = some 0 := by decide +kernel
theorem hdX2_undoCount : yX2_undoCount.cls = RX2 ∧ yX2_undoCount.cls ≠ "java/lang/invoke/MethodHandle" ∧ yX2_undoCount.cls ≠ "java/lang/invoke/VarHandle" ∧ (parseMethodDescriptor yX2_undoCount.desc).map (fun d => d.parameters.length) = some 0 := by decide +kernel
theorem hdX2_mirror : yX2_mirror.cls = RX2 ∧ yX2_mirror.cls ≠ "java/lang/invoke/MethodHandle" ∧ yX2_mirror.cls ≠ "java/lang/invoke/VarHandle" ∧ (parseMethodDescriptor yX2_mirror.desc).map (fun d => d.parameters.length) = some 0 := by decide +kernel
theorem hdX2_closeness : yX2_closeness.cls = RX2 ∧ yX2_closeness.cls ≠ "java/lang/invoke/MethodHandle" ∧ yX2_closeness.cls ≠ "java/lang/invoke/VarHandle" ∧ (parseMethodDescriptor yX2_closeness.desc).map (fun d => d.parameters.length) = some 2 := by decide +kernel
theorem hdX2_costNow : yX2_costNow.cls = RX2 ∧ yX2_costNow.cls ≠ "java/lang/invoke/MethodHandle" ∧ yX2_costNow.cls ≠ "java/lang/invoke/VarHandle" ∧ (parseMethodDescriptor yX2_costNow.desc).map (fun d => d.parameters.length) = some 0 := by decide +kernel
theorem hdX2_cost : yX2_cost.cls = RX2 ∧ yX2_cost.cls ≠ "java/lang/invoke/MethodHandle" ∧ yX2_cost.cls ≠ "java/lang/invoke/VarHandle" ∧ (parseMethodDescriptor yX2_cost.desc).map (fun d => d.parameters.length) = some 0 := by decide +kernel
theorem hdX2_gainNow : yX2_gainNow.cls = RX2 ∧ yX2_gainNow.cls ≠ "java/lang/invoke/MethodHandle" ∧ yX2_gainNow.cls ≠ "java/lang/invoke/VarHandle" ∧ (parseMethodDescriptor yX2_gainNow.desc).map (fun d => d.parameters.length) = some 2 := by decide +kernel
theorem hdX2_gain : yX2_gain.cls = RX2 ∧ yX2_gain.cls ≠ "java/lang/invoke/MethodHandle" ∧ yX2_gain.cls ≠ "java/lang/invoke/VarHandle" ∧ (parseMethodDescriptor yX2_gain.desc).map (fun d => d.parameters.length) = some 2 := by decide +kernel
theorem hdX2_bestNow : yX2_bestNow.cls = RX2 ∧ yX2_bestNow.cls ≠ "java/lang/invoke/MethodHandle" ∧ yX2_bestNow.cls ≠ "java/lang/invoke/VarHandle" ∧ (parseMethodDescriptor yX2_bestNow.desc).map (fun d => d.parameters.length) = some 0 := by decide +kernel
theorem hdX2_bestSwap : yX2_bestSwap.cls = RX2 ∧ yX2_bestSwap.cls ≠ "java/lang/invoke/MethodHandle" ∧ yX2_bestSwap.cls ≠ "java/lang/invoke/VarHandle" ∧ (parseMethodDescriptor yX2_bestSwap.desc).map (fun d => d.parameters.length) = some 0 := by decide +kernel
theorem hdX2_improve : yX2_improve.cls = RX2 ∧ yX2_improve.cls ≠ "java/lang/invoke/MethodHandle" ∧ yX2_improve.cls ≠ "java/lang/invoke/VarHandle" ∧ (parseMethodDescriptor yX2_improve.desc).map (fun d => d.parameters.length) = some 1 := by decide +kernel
theorem hdX2_partOf : yX2_partOf.cls = RX2 ∧ yX2_partOf.cls ≠ "java/lang/invoke/MethodHandle" ∧ yX2_partOf.cls ≠ "java/lang/invoke/VarHandle" ∧ (parseMethodDescriptor yX2_partOf.desc).map (fun d => d.parameters.length) = some 1 := by decide +kernel
theorem hdX2_worstNow : yX2_worstNow.cls = RX2 ∧ yX2_worstNow.cls ≠ "java/lang/invoke/MethodHandle" ∧ yX2_worstNow.cls ≠ "java/lang/invoke/VarHandle" ∧ (parseMethodDescriptor yX2_worstNow.desc).map (fun d => d.parameters.length) = some 0 := by decide +kernel
theorem hdX2_worstLetter : yX2_worstLetter.cls = RX2 ∧ yX2_worstLetter.cls ≠ "java/lang/invoke/MethodHandle" ∧ yX2_worstLetter.cls ≠ "java/lang/invoke/VarHandle" ∧ (parseMethodDescriptor yX2_worstLetter.desc).map (fun d => d.parameters.length) = some 0 := by decide +kernel
theorem hdX2_stroke : yX2_stroke.cls = RX2 ∧ yX2_stroke.cls ≠ "java/lang/invoke/MethodHandle" ∧ yX2_stroke.cls ≠ "java/lang/invoke/VarHandle" ∧ (parseMethodDescriptor yX2_stroke.desc).map (fun d => d.parameters.length) = some 2 := by decide +kernel
theorem hdX2_type : yX2_type.cls = RX2 ∧ yX2_type.cls ≠ "java/lang/invoke/MethodHandle" ∧ yX2_type.cls ≠ "java/lang/invoke/VarHandle" ∧ (parseMethodDescriptor yX2_type.desc).map (fun d => d.parameters.length) = some 1 := by decide +kernel
theorem hdX2_run : yX2_run.cls = RX2 ∧ yX2_run.cls ≠ "java/lang/invoke/MethodHandle" ∧ yX2_run.cls ≠ "java/lang/invoke/VarHandle" ∧ (parseMethodDescriptor yX2_run.desc).map (fun d => d.parameters.length) = some 1 := by decide +kernel
theorem hdX2_jams : yX2_jams.cls = RX2 ∧ yX2_jams.cls ≠ "java/lang/invoke/MethodHandle" ∧ yX2_jams.cls ≠ "java/lang/invoke/VarHandle" ∧ (parseMethodDescriptor yX2_jams.desc).map (fun d => d.parameters.length) = some 0 := by decide +kernel
theorem hdX2_lost : yX2_lost.cls = RX2 ∧ yX2_lost.cls ≠ "java/lang/invoke/MethodHandle" ∧ yX2_lost.cls ≠ "java/lang/invoke/VarHandle" ∧ (parseMethodDescriptor yX2_lost.desc).map (fun d => d.parameters.length) = some 0 := by decide +kernel
theorem hdX2_duration : yX2_duration.cls = RX2 ∧ yX2_duration.cls ≠ "java/lang/invoke/MethodHandle" ∧ yX2_duration.cls ≠ "java/lang/invoke/VarHandle" ∧ (parseMethodDescriptor yX2_duration.desc).map (fun d => d.parameters.length) = some 0 := by decide +kernel
theorem hdX2_printedLetter : yX2_printedLetter.cls = RX2 ∧ yX2_printedLetter.cls ≠ "java/lang/invoke/MethodHandle" ∧ yX2_printedLetter.cls ≠ "java/lang/invoke/VarHandle" ∧ (parseMethodDescriptor yX2_printedLetter.desc).map (fun d => d.parameters.length) = some 1 := by decide +kernel
theorem hdX2_jammedKeystroke : yX2_jammedKeystroke.cls = RX2 ∧ yX2_jammedKeystroke.cls ≠ "java/lang/invoke/MethodHandle" ∧ yX2_jammedKeystroke.cls ≠ "java/lang/invoke/VarHandle" ∧ (parseMethodDescriptor yX2_jammedKeystroke.desc).map (fun d => d.parameters.length) = some 1 := by decide +kernel
theorem hdX2_isSafe : yX2_isSafe.cls = RX2 ∧ yX2_isSafe.cls ≠ "java/lang/invoke/MethodHandle" ∧ yX2_isSafe.cls ≠ "java/lang/invoke/VarHandle" ∧ (parseMethodDescriptor yX2_isSafe.desc).map (fun d => d.parameters.length) = some 1 := by decide +kernel
theorem hdX2_safeNow : yX2_safeNow.cls = RX2 ∧ yX2_safeNow.cls ≠ "java/lang/invoke/MethodHandle" ∧ yX2_safeNow.cls ≠ "java/lang/invoke/VarHandle" ∧ (parseMethodDescriptor yX2_safeNow.desc).map (fun d => d.parameters.length) = some 0 := by decide +kernel
theorem hdX2_safeInterval : yX2_safeInterval.cls = RX2 ∧ yX2_safeInterval.cls ≠ "java/lang/invoke/MethodHandle" ∧ yX2_safeInterval.cls ≠ "java/lang/invoke/VarHandle" ∧ (parseMethodDescriptor yX2_safeInterval.desc).map (fun d => d.parameters.length) = some 0 := by decide +kernel
theorem hdX2_mix : yX2_mix.cls = RX2 ∧ yX2_mix.cls ≠ "java/lang/invoke/MethodHandle" ∧ yX2_mix.cls ≠ "java/lang/invoke/VarHandle" ∧ (parseMethodDescriptor yX2_mix.desc).map (fun d => d.parameters.length) = some 1 := by decide +kernel
theorem hdX2_digest : yX2_digest.cls = RX2 ∧ yX2_digest.cls ≠ "java/lang/invoke/MethodHandle" ∧ yX2_digest.cls ≠ "java/lang/invoke/VarHandle" ∧ (parseMethodDescriptor yX2_digest.desc).map (fun d => d.parameters.length) = some 0 := by decide +kernel
theorem aE_ext (cA : ClassId) {n : Nat} {f g : Nat → Nat} (h : ∀ j, j < n → f j = g j) : vp_cell cA (n, .inl (nF f)) = vp_cell cA (n, .inl (nF g)) := by
  rw [vp_cell_i, vp_cell_i, arrV, arrV]
  congr 1
  apply Array.ext
  · simp
  · intro i h1 h2
    simp only [Array.getElem_ofFn, nF]
    rw [h i (by simpa using h1)]
theorem qV.arr {D : va_G} {A : Nat → Prop} {H0 H : Heap} {ws : va_W} {locs : List Loc} {a n : Nat} {cA : ClassId} {f g : Nat → Nat} (hV : qV D A H0 ws H locs) (q0 : Nat) (ha : ws[q0]? = some (a, aE cA n f)) (h : ∀ j, j < n → f j = g j) : qV D A H0 (ws.set q0 (a, aE cA n g)) H locs := by
  refine ⟨hV.1.set hV.2.1 ha ?_ (fun _ _ => rfl), hV.2.1.set ha, hV.2.2⟩
  have h1 : H[a]? = some (vp_cell cA (n, .inl (nF f))) := hV.1 q0 _ ha
  show H[a]? = some (vp_cell cA (n, .inl (nF g)))
  rw [← aE_ext cA h]
  exact h1
theorem nb01 {b : Nat} (h : b ≤ 1) : narrow .boolean (.int (nI b)) = .int (nI b) := by
  have : b = 0 ∨ b = 1 := by omega
  rcases this with rfl | rfl <;> rfl
theorem nI_abs {a b : Nat} (ha : a < 2 ^ 30) (hb : b < 2 ^ 30) : (if 0 ≤ nI a - nI b then nI a - nI b else 0 - (nI a - nI b)) = nI ((a - b) + (b - a)) := by
  have e := pk_sub_toInt ha hb
  by_cases h : b ≤ a
  · rw [if_pos (by rw [Int32.le_iff_toInt_le, Int32.toInt_zero, e]; omega), pk_sub h]
    congr 1; omega
  · rw [if_neg (by rw [Int32.le_iff_toInt_le, Int32.toInt_zero, e]; omega)]
    have h2 : (0 : Int32) - (nI a - nI b) = nI b - nI a := by
      apply Int32.toInt_inj.mp
      rw [pk_sub_toInt hb ha, Int32.toInt_sub, e, Int32.toInt_zero]
      simp only [Int.bmod]
      omega
    rw [h2, pk_sub (by omega)]
    congr 1; omega
theorem nI_max0 {a b : Nat} (ha : a < 2 ^ 30) (hb : b < 2 ^ 30) : (if nI 0 < nI a - nI b then nI a - nI b else nI 0) = nI (a - b) := by
  have e := pk_sub_toInt ha hb
  by_cases h : b < a
  · rw [if_pos (by rw [Int32.lt_iff_toInt_lt, nI_0, Int32.toInt_zero, e]; omega), pk_sub (by omega)]
  · rw [if_neg (by rw [Int32.lt_iff_toInt_lt, nI_0, Int32.toInt_zero, e]; omega)]
    congr 1; omega
theorem nI_min {a b : Nat} (ha : a < 2 ^ 31) (hb : b < 2 ^ 31) : (if nI b < nI a then nI b else nI a) = nI (min a b) := by
  by_cases h : b < a
  · rw [if_pos ((nI_ltI hb ha).mpr h), Nat.min_eq_right (by omega)]
  · rw [if_neg (fun q => h ((nI_ltI hb ha).mp q)), Nat.min_eq_left (by omega)]
section QX
variable {p : Program} {l : Launch} {e : Env} {R : Room} {s : State} {m : MethodId} {args : Array Value} {below : List Frame} {meth : Method} {c : Code} {H : Heap} {locs : List Loc} {cells slots : Nat} {Q : State → Prop} {cc : ByteArray} {pc : Nat} {ls : Array Slot} {rest : List Value}
theorem q_iadd2 (hx : p.tables.exec = Jvm.exec) (hb : c.code = cc) {x y z : Nat} (h : z = x + y) (hdg : decode cc pc = .ok (.iadd, 1)) (k : W p l e R s m args below meth c H locs cells slots Q (F0 m (pc + 1) ls (.int (nI z) :: rest))) : W p l e R s m args below meth c H locs cells slots Q (F0 m pc ls (.int (nI y) :: .int (nI x) :: rest)) := q_iadd hx hb hdg (h ▸ k)
theorem q_isub2 (hx : p.tables.exec = Jvm.exec) (hb : c.code = cc) {x y z : Nat} (h : y ≤ x ∧ z = x - y) (hdg : decode cc pc = .ok (.isub, 1)) (k : W p l e R s m args below meth c H locs cells slots Q (F0 m (pc + 1) ls (.int (nI z) :: rest))) : W p l e R s m args below meth c H locs cells slots Q (F0 m pc ls (.int (nI y) :: .int (nI x) :: rest)) := q_isub hx hb h.1 hdg (h.2 ▸ k)
theorem q_imul2 (hx : p.tables.exec = Jvm.exec) (hb : c.code = cc) {x y z : Nat} (h : z = x * y) (hdg : decode cc pc = .ok (.imul, 1)) (k : W p l e R s m args below meth c H locs cells slots Q (F0 m (pc + 1) ls (.int (nI z) :: rest))) : W p l e R s m args below meth c H locs cells slots Q (F0 m pc ls (.int (nI y) :: .int (nI x) :: rest)) := q_imul hx hb hdg (h ▸ k)
theorem q_iinc (hx : p.tables.exec = Jvm.exec) (hb : c.code = cc) {i nL k dd x z : Nat} {n : Int} {lv lv' : List (Nat × Value)} (hdg : decode cc pc = .ok (.iinc i n, 3)) (h : lv_has ls nL lv) (hk : lv[k]? = some (i, .int (nI x))) (hd : Int32.ofInt n = nI dd) (hz : z = x + dd) (hn : i < nL) (hl : (i, Value.int (nI z)) :: lv.filter (fun q => !(q.1 == i) && !(q.1 + 1 == i && q.2.category == 2)) = lv')
    (kk : ∀ ls' : Array Slot, lv_has ls' nL lv' → W p l e R s m args below meth c H locs cells slots Q (F0 m (pc + 3) ls' rest)) : W p l e R s m args below meth c H locs cells slots Q (F0 m pc ls rest) :=
  lv_iinc (v := nI z) hx hb hdg h hk (by rw [hd, nI_add, hz]) hn hl kk
theorem q_abs (hx : p.tables.exec = Jvm.exec) (hb : c.code = cc) (hml : c.maxLocals = ls.size) {own : String} {index : Nat} (hown : s.vm.findClass own = some m.cls) (hlink : (Cond.methodLink own index Lib.Math.abs.name).before args s = true) (hstat : (Cond.static Lib.Math.abs.name).before args s = true) (hini : (Cond.initialized "java/lang/Math").before args s = true) (hcode : (Cond.code Lib.Math.abs.name Lib.Math.abs.code 1 (some .int)).before args s = true)
    (hframes : 1 ≤ R.frames) (hlocals : (rest.map fun v => v.category).sum + 13 ≤ R.locals) (hc : cells ≤ R.cells) (hs : slots ≤ R.slots) {x y : Nat} (h1 : x < 2 ^ 30) (h2 : y < 2 ^ 30) (hdg : decode cc pc = .ok (.invokestatic index, 3))
    (kk : W p l e R s m args below meth c H locs cells slots Q (F0 m (pc + 3) ls (.int (nI ((x - y) + (y - x))) :: rest))) : W p l e R s m args below meth c H locs cells slots Q (F0 m pc ls (.int (nI x - nI y) :: rest)) := by
  refine va_mabs hx hb hml hown hlink hstat hini hcode hframes hlocals hc hs hdg ?_
  rw [nI_abs h1 h2]; exact kk
theorem q_max0 (hx : p.tables.exec = Jvm.exec) (hb : c.code = cc) (hml : c.maxLocals = ls.size) {own : String} {index : Nat} (hown : s.vm.findClass own = some m.cls) (hlink : (Cond.methodLink own index Lib.Math.max.name).before args s = true) (hstat : (Cond.static Lib.Math.max.name).before args s = true) (hini : (Cond.initialized "java/lang/Math").before args s = true) (hcode : (Cond.code Lib.Math.max.name Lib.Math.max.code 2 (some .int)).before args s = true)
    (hframes : 1 ≤ R.frames) (hlocals : (rest.map fun v => v.category).sum + 13 ≤ R.locals) (hc : cells ≤ R.cells) (hs : slots ≤ R.slots) {x y : Nat} (h1 : x < 2 ^ 30) (h2 : y < 2 ^ 30) (hdg : decode cc pc = .ok (.invokestatic index, 3))
    (kk : W p l e R s m args below meth c H locs cells slots Q (F0 m (pc + 3) ls (.int (nI (x - y)) :: rest))) : W p l e R s m args below meth c H locs cells slots Q (F0 m pc ls (.int (nI x - nI y) :: .int (nI 0) :: rest)) := by
  refine va_mmax hx hb hml hown hlink hstat hini hcode hframes hlocals hc hs hdg ?_
  rw [nI_max0 h1 h2]; exact kk
theorem q_min (hx : p.tables.exec = Jvm.exec) (hb : c.code = cc) (hml : c.maxLocals = ls.size) {own : String} {index : Nat} (hown : s.vm.findClass own = some m.cls) (hlink : (Cond.methodLink own index Lib.Math.min.name).before args s = true) (hstat : (Cond.static Lib.Math.min.name).before args s = true) (hini : (Cond.initialized "java/lang/Math").before args s = true) (hcode : (Cond.code Lib.Math.min.name Lib.Math.min.code 2 (some .int)).before args s = true)
    (hframes : 1 ≤ R.frames) (hlocals : (rest.map fun v => v.category).sum + 13 ≤ R.locals) (hc : cells ≤ R.cells) (hs : slots ≤ R.slots) {x y : Nat} (h1 : x < 2 ^ 31) (h2 : y < 2 ^ 31) (hdg : decode cc pc = .ok (.invokestatic index, 3))
    (kk : W p l e R s m args below meth c H locs cells slots Q (F0 m (pc + 3) ls (.int (nI (min x y)) :: rest))) : W p l e R s m args below meth c H locs cells slots Q (F0 m pc ls (.int (nI y) :: .int (nI x) :: rest)) := by
  refine va_mmin hx hb hml hown hlink hstat hini hcode hframes hlocals hc hs hdg ?_
  rw [nI_min h1 h2]; exact kk
end QX
/-- rows of zeros, one by one -/
def zr (f : Nat → Nat) : Nat → (Nat → Nat)
  | 0 => f
  | j + 1 => up (zr f j) j 0
theorem zr_at (f : Nat → Nat) (j k : Nat) (h : k < j) : zr f j k = 0 := by
  induction j with
  | zero => omega
  | succ j ih =>
    simp only [zr, up]
    split
    · rfl
    · exact ih (by omega)
/-- any int: a small number, or another -/
def okR (lo hi : Nat) (v : Int32) : Nat := if (lo : Int) ≤ v.toInt ∧ v.toInt ≤ (hi : Int) then 1 else 0
def iN (v : Int32) : Nat := v.toInt.toNat
theorem okR_le (lo hi : Nat) (v : Int32) : okR lo hi v ≤ 1 := by unfold okR; split <;> omega
theorem iN_nI {k : Nat} (h : k < 2147483648) : iN (nI k) = k := by
  unfold iN; rw [nI_toInt h]; omega
theorem okR_nI {lo hi k : Nat} (h : k < 2147483648) : okR lo hi (nI k) = if lo ≤ k ∧ k ≤ hi then 1 else 0 := by
  unfold okR; rw [nI_toInt h]
  by_cases q : lo ≤ k ∧ k ≤ hi
  · rw [if_pos q, if_pos (by omega)]
  · rw [if_neg q, if_neg (by omega)]
theorem okR_1 {lo hi : Nat} {v : Int32} (hh : hi < 2147483648) (h : okR lo hi v ≠ 0) : ∃ k, lo ≤ k ∧ k ≤ hi ∧ v = nI k := by
  unfold okR at h
  split at h
  · rename_i q
    obtain ⟨j, hj, rfl⟩ := nI_of (x := v) (by rw [Int32.lt_iff_toInt_lt, Int32.toInt_zero]; omega)
    rw [nI_toInt hj] at q
    exact ⟨j, by omega, by omega, rfl⟩
  · exact absurd rfl h
theorem okR_of {lo hi : Nat} {v : Int32} (h1 : (lo : Int) ≤ v.toInt) (h2 : v.toInt ≤ (hi : Int)) : okR lo hi v = 1 := if_pos ⟨h1, h2⟩
theorem okR_no {lo hi : Nat} {v : Int32} (h : v.toInt < (lo : Int) ∨ (hi : Int) < v.toInt) : okR lo hi v = 0 := if_neg (by omega)
end
section
theorem ite0 {q : Prop} {dq : Decidable q} (h : (if q then 1 else 0) = 0) : ¬ q := by
  intro w; rw [if_pos w] at h; omega
theorem ite1 {q : Prop} {dq : Decidable q} (h : (if q then 1 else 0) ≠ 0) : q := by
  by_cases w : q
  · exact w
  · rw [if_neg w] at h; exact absurd rfl h
theorem ite_le (q : Prop) [Decidable q] : (if q then 1 else 0) ≤ 1 := by split <;> omega
theorem jamF_ext {C p t : Nat} {R : Nat → Nat} {k k2 : Nat} (h : k ≤ k2) (hq : ∀ q, k ≤ q → q < k2 → ¬ (q ≤ p + C ∧ p ≤ q + C)) : jamF C p t R k2 = jamF C p t R k := by
  induction k2 with
  | zero => rw [show k = 0 by omega]
  | succ k2 ih =>
    by_cases e : k = k2 + 1
    · rw [e]
    · simp only [jamF]
      rw [if_neg (fun w => hq k2 (by omega) (by omega) ⟨w.1, w.2.1⟩)]
      exact ih (by omega) (fun q h1 h2 => hq q h1 (by omega))
theorem jamF_lo {C p t : Nat} {R : Nat → Nat} {k : Nat} (hq : ∀ q, 0 ≤ q → q < k → ¬ (q ≤ p + C ∧ p ≤ q + C)) : jamF C p t R k = 0 := (jamF_ext (Nat.zero_le k) hq).trans rfl
theorem jamF_hi {C p t : Nat} {R : Nat → Nat} {k : Nat} (h : k ≤ 12) (hq : ∀ q, k ≤ q → q < 12 → ¬ (q ≤ p + C ∧ p ≤ q + C)) : jamF C p t R 12 = jamF C p t R k := jamF_ext h hq
def stpK (C p t : Nat) (R : Nat → Nat) (k : Nat) : Nat → Nat := fun q => if q < k ∧ q ≤ p + C ∧ p ≤ q + C ∧ t < R q then t else R q
theorem stpK_le {C p t : Nat} {R : Nat → Nat} {k q : Nat} : stpK C p t R k q ≤ R q := by
  simp only [stpK]; split <;> omega
theorem stpK_at {C p t : Nat} {R : Nat → Nat} {k : Nat} : stpK C p t R k k = R k := by
  simp only [stpK]; rw [if_neg (by omega)]
theorem stpK_ext {C p t : Nat} {R : Nat → Nat} {k k2 : Nat} (h : k ≤ k2) (hq : ∀ q, k ≤ q → q < k2 → ¬ (q ≤ p + C ∧ p ≤ q + C)) : stpK C p t R k2 = stpK C p t R k := by
  funext q
  simp only [stpK]
  by_cases w : q < k ∧ q ≤ p + C ∧ p ≤ q + C ∧ t < R q
  · rw [if_pos w, if_pos ⟨by omega, w.2⟩]
  · rw [if_neg w]
    by_cases w2 : q < k2 ∧ q ≤ p + C ∧ p ≤ q + C ∧ t < R q
    · exact absurd ⟨w2.2.1, w2.2.2.1⟩ (hq q (by omega) w2.1)
    · rw [if_neg w2]
theorem stpK_0 {C p t : Nat} {R : Nat → Nat} : stpK C p t R 0 = R := by
  funext q; simp [stpK]
theorem stpK_lo {C p t : Nat} {R : Nat → Nat} {k : Nat} (hq : ∀ q, 0 ≤ q → q < k → ¬ (q ≤ p + C ∧ p ≤ q + C)) : stpK C p t R k = R := (stpK_ext (Nat.zero_le k) hq).trans stpK_0
theorem stpK_hi {C p t : Nat} {R : Nat → Nat} {k : Nat} (h : k ≤ 12) (hq : ∀ q, k ≤ q → q < 12 → ¬ (q ≤ p + C ∧ p ≤ q + C)) : stpR C p t R = stpK C p t R k := stpK_ext h hq
theorem stpK_s1 {C p t : Nat} {R : Nat → Nat} {k : Nat} (h : k ≤ p + C ∧ p ≤ k + C ∧ t < R k) : stpK C p t R (k + 1) = up (stpK C p t R k) k t := by
  funext q
  simp only [stpK, up]
  by_cases e : q = k
  · subst e; rw [if_pos ⟨by omega, h⟩, if_pos rfl]
  · rw [if_neg e]
    by_cases w : q < k ∧ q ≤ p + C ∧ p ≤ q + C ∧ t < R q
    · rw [if_pos w, if_pos ⟨by omega, w.2⟩]
    · rw [if_neg w, if_neg (fun z => w ⟨by omega, z.2⟩)]
theorem stpK_s0 {C p t : Nat} {R : Nat → Nat} {k : Nat} (h : ¬ (k ≤ p + C ∧ p ≤ k + C ∧ t < R k)) : stpK C p t R (k + 1) = stpK C p t R k := by
  funext q
  simp only [stpK]
  by_cases w : q < k ∧ q ≤ p + C ∧ p ≤ q + C ∧ t < R q
  · rw [if_pos w, if_pos ⟨by omega, w.2⟩]
  · rw [if_neg w, if_neg (fun z => ?_)]
    by_cases e : q = k
    · subst e; exact h z.2
    · exact w ⟨by omega, z.2⟩
section QY
variable {p : Program} {l : Launch} {e : Env} {R : Room} {s : State} {m : MethodId} {args : Array Value} {below : List Frame} {meth : Method} {c : Code} {H : Heap} {locs : List Loc} {cells slots : Nat} {Q : State → Prop} {cc : ByteArray} {pc : Nat} {ls : Array Slot} {rest : List Value}
theorem q_if_gt (hx : p.tables.exec = Jvm.exec) (hb : c.code = cc) {x : Nat} {off : Int} {tgt : Nat} (hdg : decode cc pc = .ok (.ifCond .gt off, 3)) (ht : (pc : Int) + off = (tgt : Int)) (h1 : x < 2147483648)
    (kt : 0 < x → W p l e R s m args below meth c H locs cells slots Q (F0 m tgt ls rest)) (kf : x = 0 → W p l e R s m args below meth c H locs cells slots Q (F0 m (pc + 3) ls rest)) : W p l e R s m args below meth c H locs cells slots Q (F0 m pc ls (.int (nI x) :: rest)) :=
  z_if_gt hx hb hdg ht (fun h => kt (by rw [nI_toInt h1] at h; omega)) (fun h => kf (by rw [nI_toInt h1] at h; omega))
end QY
abbrev rm_X0_begin : Room := { frames := 0, cells := 0, slots := 0, locals := 0 }
set_option maxHeartbeats 4000000 in
set_option maxRecDepth 100000 in
theorem c_X0_begin (l : Launch) (D : va_G) (g : Nat → Nat) (cA : ClassId) (pm : Nat) (jm : Nat) (lm : Nat) (du : Nat) (pr : Nat → Nat) (ja : Nat → Nat) (rt : Nat → Nat)    : CTv l D cA yX0_begin wsX0_begin rm_X0_begin [.ref (g 0)] (wT g cA pm jm lm du pr ja rt) (fun W1 => W1 = wT g cA 0 0 0 0 pr ja (fun _ => 0)) := by
  refine CTv.mk (cc := cX0_begin) (maxL := 2) (ret := none) (by decide) rfl (Nat.le_of_ble_eq_true rfl) ?_
  intro p e s m below meth c A ls E hV hl
  obtain ⟨hx, hb, hml, hr, hown, hts, hlocks, hK, hA, hN⟩ := E
  have hown : s.vm.findClass RX0 = some m.cls := hown
  have hin0 : ∀ w ∈ wsX00, w ∈ wsX0_begin := fun _ h => List.mem_cons_of_mem _ (List.mem_append_right _ h)
  have hl : lv_has ls 2 [(0, .ref (g 0))] := hl
  refine lv_aload_n hx hb dX0_begin_0 rfl (lv_at hl 0 rfl) ?_
  refine lv_iconst (v := nI 0) hx hb dX0_begin_1 (by decide) ?_
  refine q_put (C := RX0) (T := TX0) (N := 7) (ci := 0) (v := .int (nI 0)) (wT g cA 0 jm lm du pr ja rt) hx hb hts hin0 tyX0 tyX0_ok nmX0 hown hK hV 0 rfl rfl 1 (by decide) (List.mem_of_getElem? (i := 1) rfl) rfl rfl rfl (Nat.le_of_ble_eq_true rfl) rfl dX0_begin_2 (fun H locs hV => ?_)
  refine lv_aload_n hx hb dX0_begin_5 rfl (lv_at hl 0 rfl) ?_
  refine lv_iconst (v := nI 0) hx hb dX0_begin_6 (by decide) ?_
  refine q_put (C := RX0) (T := TX0) (N := 7) (ci := 0) (v := .int (nI 0)) (wT g cA 0 0 lm du pr ja rt) hx hb hts hin0 tyX0 tyX0_ok nmX0 hown hK hV 0 rfl rfl 3 (by decide) (List.mem_of_getElem? (i := 2) rfl) rfl rfl rfl (Nat.le_of_ble_eq_true rfl) rfl dX0_begin_7 (fun H locs hV => ?_)
  refine lv_aload_n hx hb dX0_begin_10 rfl (lv_at hl 0 rfl) ?_
  refine lv_iconst (v := nI 0) hx hb dX0_begin_11 (by decide) ?_
  refine q_put (C := RX0) (T := TX0) (N := 7) (ci := 0) (v := .int (nI 0)) (wT g cA 0 0 0 du pr ja rt) hx hb hts hin0 tyX0 tyX0_ok nmX0 hown hK hV 0 rfl rfl 4 (by decide) (List.mem_of_getElem? (i := 3) rfl) rfl rfl rfl (Nat.le_of_ble_eq_true rfl) rfl dX0_begin_12 (fun H locs hV => ?_)
  refine lv_aload_n hx hb dX0_begin_15 rfl (lv_at hl 0 rfl) ?_
  refine lv_iconst (v := nI 0) hx hb dX0_begin_16 (by decide) ?_
  refine q_put (C := RX0) (T := TX0) (N := 7) (ci := 0) (v := .int (nI 0)) (wT g cA 0 0 0 0 pr ja rt) hx hb hts hin0 tyX0 tyX0_ok nmX0 hown hK hV 0 rfl rfl 5 (by decide) (List.mem_of_getElem? (i := 4) rfl) rfl rfl rfl (Nat.le_of_ble_eq_true rfl) rfl dX0_begin_17 (fun H locs hV => ?_)
  refine lv_iconst (v := nI 0) hx hb dX0_begin_20 (by decide) ?_
  refine lv_istore_n (lv' := [(1, .int (nI 0)), (0, .ref (g 0))]) hx hb dX0_begin_21 rfl hl (by decide) rfl (fun ls hl => ?_)
  have lp22 : ∀ (d22 : Nat) (j : Nat) (H : Heap) (locs : List Loc) (ls : Array Slot), (13 ≤ j + d22) → (j ≤ 12) → qV D A s.heap (wT g cA 0 0 0 0 pr ja (zr rt j)) H locs → lv_has ls 2 [(0, .ref (g 0)), (1, .int (nI j))] → W p l e rm_X0_begin s m ([.ref (g 0)] : List Value).toArray below meth c H locs 0 0 (MQ below (va_Qv (fun W1 => W1 = wT g cA 0 0 0 0 pr ja (fun _ => 0)) (cPost D A) A) ([.ref (g 0)] : List Value).toArray s 0 0 A) (F0 m 22 ls []) := by
    intro d22
    induction d22 with
    | zero => intro j H locs ls hm22 hj hV hl; exfalso; omega
    | succ d22 ih22 =>
      intro j H locs ls hm22 hj hV hl
      refine lv_iload_n hx hb dX0_begin_22 rfl (lv_at hl 1 rfl) ?_
      refine lv_bipush (v := nI 12) hx hb dX0_begin_23 (by decide) ?_
      refine q_icmp_ge (x := j) (y := 12) (tgt := 41) hx hb dX0_begin_25 (by decide) (by omega) (by omega) (fun c25 => ?_) (fun c25 => ?_)
      · have ej : j = 12 := by omega
        subst ej
        have hV := hV.arr 3 rfl (g := fun _ => 0) (fun k hk => zr_at rt 12 k hk)
        exact q_vret (W1 := wT g cA 0 0 0 0 pr ja (fun _ => 0)) hx hb hr hlocks hV dX0_begin_41 rfl
      · refine lv_aload_n hx hb dX0_begin_28 rfl (lv_at hl 0 rfl) ?_
        refine q_get (C := RX0) (T := TX0) (N := 7) (ci := 0) (v := .ref (g 3)) hx hb hts hin0 hown hK hV 0 rfl rfl 6 (by decide) (List.mem_of_getElem? (i := 5) rfl) rfl dX0_begin_29 ?_
        refine lv_iload_n hx hb dX0_begin_32 rfl (lv_at hl 1 rfl) ?_
        refine lv_iconst (v := nI 0) hx hb dX0_begin_33 (by decide) ?_
        refine q_iast (n := 12) (k := j) (v := 0) (f := zr rt j) (wT g cA 0 0 0 0 pr ja (up (zr rt j) j 0)) hx hb hK hV 3 rfl (by omega) (by decide) rfl dX0_begin_34 (fun H locs hV => ?_)
        refine q_iinc (x := j) (z := j + 1) (lv' := [(1, .int (nI (j + 1))), (0, .ref (g 0))]) hx hb dX0_begin_35 hl (k := 1) rfl (dd := 1) rfl (by omega) (by decide) rfl (fun ls hl => ?_)
        refine lv_goto (tgt := 22) hx hb dX0_begin_38 (by decide) ?_
        exact ih22  (j + 1) _ _ _ (by omega) (by first | assumption | omega) hV (lv_sub hl [1, 0] rfl)
  exact lp22 13 0 _ _ _ (by omega) (by first | assumption | omega) hV (lv_sub hl [1, 0] rfl)
abbrev rm_X0_inMotion : Room := { frames := 0, cells := 0, slots := 0, locals := 0 }
set_option maxHeartbeats 4000000 in
set_option maxRecDepth 100000 in
theorem c_X0_inMotion (l : Launch) (D : va_G) (g : Nat → Nat) (cA : ClassId) (pm : Nat) (jm : Nat) (lm : Nat) (du : Nat) (pr : Nat → Nat) (ja : Nat → Nat) (rt : Nat → Nat) (a : Nat) (t : Nat)  (h_a : a < 12) (h_t : t < 1073741824) (h_R : ∀ q, rt q < 1073741824) : CTi l D cA yX0_inMotion wsX0_inMotion rm_X0_inMotion [.ref (g 0), .int (nI a), .int (nI t)] (wT g cA pm jm lm du pr ja rt) (fun r W1 => r = nI (if t < rt a then 1 else 0) ∧ W1 = wT g cA pm jm lm du pr ja rt) := by
  refine CTi.mk (cc := cX0_inMotion) (maxL := 3) (ret := some .boolean) (by decide) rfl (Nat.le_of_ble_eq_true rfl) ?_
  intro p e s m below meth c A ls E hV hl
  obtain ⟨hx, hb, hml, hr, hown, hts, hlocks, hK, hA, hN⟩ := E
  have hown : s.vm.findClass RX0 = some m.cls := hown
  have hin0 : ∀ w ∈ wsX00, w ∈ wsX0_inMotion := fun _ h => List.mem_cons_of_mem _ (List.mem_append_right _ h)
  have hl : lv_has ls 3 [(0, .ref (g 0)), (1, .int (nI a)), (2, .int (nI t))] := hl
  refine lv_iload_n hx hb dX0_inMotion_0 rfl (lv_at hl 2 rfl) ?_
  refine lv_aload_n hx hb dX0_inMotion_1 rfl (lv_at hl 0 rfl) ?_
  refine q_get (C := RX0) (T := TX0) (N := 7) (ci := 0) (v := .ref (g 3)) hx hb hts hin0 hown hK hV 0 rfl rfl 6 (by decide) (List.mem_of_getElem? (i := 1) rfl) rfl dX0_inMotion_2 ?_
  refine lv_iload_n hx hb dX0_inMotion_5 rfl (lv_at hl 1 rfl) ?_
  refine q_iald (n := 12) (k := a) (f := rt) hx hb hK hV 3 rfl (by omega) (by omega) dX0_inMotion_6 ?_
  have f1 := h_R a
  refine q_icmp_ge (x := t) (y := (rt a)) (tgt := 14) hx hb dX0_inMotion_7 (by decide) (by omega) (by omega) (fun c7 => ?_) (fun c7 => ?_)
  · refine lv_iconst (v := nI 0) hx hb dX0_inMotion_14 (by decide) ?_
    exact q_zret (W1 := wT g cA pm jm lm du pr ja rt) hx hb hr hlocks hV dX0_inMotion_15 (by first | rfl | exact nb01 (by omega)) ⟨by first | rw [if_pos (by omega)] | rw [if_neg (by omega)], rfl⟩
  · refine lv_iconst (v := nI 1) hx hb dX0_inMotion_10 (by decide) ?_
    refine lv_goto (tgt := 15) hx hb dX0_inMotion_11 (by decide) ?_
    exact q_zret (W1 := wT g cA pm jm lm du pr ja rt) hx hb hr hlocks hV dX0_inMotion_15 (by first | rfl | exact nb01 (by omega)) ⟨by first | rw [if_pos (by omega)] | rw [if_neg (by omega)], rfl⟩
abbrev rm_X0_stopAround : Room := { frames := 1, cells := 0, slots := 0, locals := 22 }
set_option maxHeartbeats 4000000 in
set_option maxRecDepth 100000 in
theorem c_X0_stopAround (l : Launch) (D : va_G) (g : Nat → Nat) (cA : ClassId) (pm : Nat) (jm : Nat) (lm : Nat) (du : Nat) (pr : Nat → Nat) (ja : Nat → Nat) (rt : Nat → Nat) (a : Nat) (b : Nat) (t : Nat)  (h_a : a < 12) (h_b : b ≤ 5) (h_t : t < 1073741824) (h_R : ∀ q, rt q < 1073741824) : CTi l D cA yX0_stopAround wsX0_stopAround rm_X0_stopAround [.ref (g 0), .int (nI a), .int (nI b), .int (nI t)] (wT g cA pm jm lm du pr ja rt) (fun r W1 => r = nI (jamF b a t rt 12) ∧ W1 = wT g cA pm jm lm du pr ja (stpR b a t rt)) := by
  refine CTi.mk (cc := cX0_stopAround) (maxL := 8) (ret := some .boolean) (by decide) rfl (Nat.le_of_ble_eq_true rfl) ?_
  intro p e s m below meth c A ls E hV hl
  obtain ⟨hx, hb, hml, hr, hown, hts, hlocks, hK, hA, hN⟩ := E
  have hown : s.vm.findClass RX0 = some m.cls := hown
  have hin0 : ∀ w ∈ wsX00, w ∈ wsX0_stopAround := fun _ h => List.mem_cons_of_mem _ (List.mem_append_right _ h)
  have hl : lv_has ls 8 [(0, .ref (g 0)), (1, .int (nI a)), (2, .int (nI b)), (3, .int (nI t))] := hl
  refine lv_iconst (v := nI 0) hx hb dX0_stopAround_0 (by decide) ?_
  refine lv_iload_n hx hb dX0_stopAround_1 rfl (lv_at hl 1 rfl) ?_
  refine lv_iload_n hx hb dX0_stopAround_2 rfl (lv_at hl 2 rfl) ?_
  refine lv_isub hx hb dX0_stopAround_3 ?_
  refine q_max0 (x := a) (y := b) hx hb (hml.trans hl.1.symm) hown (hts _ (List.mem_of_getElem? (i := 1) rfl)) (hts _ (List.mem_of_getElem? (i := 2) rfl)) (hts _ (List.mem_of_getElem? (i := 3) rfl)) (hts _ (List.mem_of_getElem? (i := 4) rfl)) (by decide) (by decide) (Nat.zero_le _) (Nat.zero_le _) (by omega) (by omega) dX0_stopAround_4 ?_
  refine lv_istore (lv' := [(4, .int (nI (a - b))), (0, .ref (g 0)), (1, .int (nI a)), (2, .int (nI b)), (3, .int (nI t))]) hx hb dX0_stopAround_7 hl (by decide) rfl (fun ls hl => ?_)
  refine lv_bipush (v := nI 11) hx hb dX0_stopAround_9 (by decide) ?_
  refine lv_iload_n hx hb dX0_stopAround_11 rfl (lv_at hl 2 rfl) ?_
  refine lv_iload_n hx hb dX0_stopAround_12 rfl (lv_at hl 3 rfl) ?_
  refine q_iadd2 (x := a) (y := b) (z := a + b) hx hb (by omega) dX0_stopAround_13 ?_
  refine q_min (x := 11) (y := a + b) hx hb (hml.trans hl.1.symm) hown (hts _ (List.mem_of_getElem? (i := 5) rfl)) (hts _ (List.mem_of_getElem? (i := 6) rfl)) (hts _ (List.mem_of_getElem? (i := 3) rfl)) (hts _ (List.mem_of_getElem? (i := 7) rfl)) (by decide) (by decide) (Nat.zero_le _) (Nat.zero_le _) (by omega) (by omega) dX0_stopAround_14 ?_
  refine lv_istore (lv' := [(5, .int (nI (min 11 (a + b)))), (4, .int (nI (a - b))), (0, .ref (g 0)), (1, .int (nI a)), (2, .int (nI b)), (3, .int (nI t))]) hx hb dX0_stopAround_17 hl (by decide) rfl (fun ls hl => ?_)
  refine lv_iconst (v := nI 0) hx hb dX0_stopAround_19 (by decide) ?_
  refine lv_istore (lv' := [(6, .int (nI 0)), (5, .int (nI (min 11 (a + b)))), (4, .int (nI (a - b))), (0, .ref (g 0)), (1, .int (nI a)), (2, .int (nI b)), (3, .int (nI t))]) hx hb dX0_stopAround_20 hl (by decide) rfl (fun ls hl => ?_)
  refine lv_iload hx hb dX0_stopAround_22 (lv_at hl 2 rfl) ?_
  refine lv_istore (lv' := [(7, .int (nI (a - b))), (6, .int (nI 0)), (5, .int (nI (min 11 (a + b)))), (4, .int (nI (a - b))), (0, .ref (g 0)), (1, .int (nI a)), (2, .int (nI b)), (3, .int (nI t))]) hx hb dX0_stopAround_24 hl (by decide) rfl (fun ls hl => ?_)
  have lp26 : ∀ (d26 : Nat) (j : Nat) (H : Heap) (locs : List Loc) (ls : Array Slot), (13 ≤ j + d26) → (a - b ≤ j) → (j ≤ min 11 (a + b) + 1) → qV D A s.heap (wT g cA pm jm lm du pr ja (stpK b a t rt j)) H locs → lv_has ls 8 [(0, .ref (g 0)), (1, .int (nI a)), (2, .int (nI b)), (3, .int (nI t)), (5, .int (nI (min 11 (a + b)))), (6, .int (nI (jamF b a t rt j))), (7, .int (nI j))] → W p l e rm_X0_stopAround s m ([.ref (g 0), .int (nI a), .int (nI b), .int (nI t)] : List Value).toArray below meth c H locs 0 0 (MQ below (va_Qi (fun r W1 => r = nI (jamF b a t rt 12) ∧ W1 = wT g cA pm jm lm du pr ja (stpR b a t rt)) (cPost D A) A) ([.ref (g 0), .int (nI a), .int (nI b), .int (nI t)] : List Value).toArray s 0 0 A) (F0 m 26 ls []) := by
    intro d26
    induction d26 with
    | zero => intro j H locs ls hm26 hj1 hj2 hV hl; exfalso; omega
    | succ d26 ih26 =>
      intro j H locs ls hm26 hj1 hj2 hV hl
      have f0 := jamF_le b a t rt j
      have hq : ∀ q, stpK b a t rt j q < 1073741824 := fun q => Nat.lt_of_le_of_lt stpK_le (h_R q)
      refine lv_iload hx hb dX0_stopAround_26 (lv_at hl 6 rfl) ?_
      refine lv_iload hx hb dX0_stopAround_28 (lv_at hl 4 rfl) ?_
      refine q_icmp_gt (x := j) (y := (min 11 (a + b))) (tgt := 60) hx hb dX0_stopAround_30 (by decide) (by omega) (by omega) (fun c30 => ?_) (fun c30 => ?_)
      · refine lv_iload hx hb dX0_stopAround_60 (lv_at hl 5 rfl) ?_
        have e1 : jamF b a t rt 12 = jamF b a t rt j := jamF_hi (by omega) (fun q h1 h2 => by omega)
        have e2 : stpR b a t rt = stpK b a t rt j := stpK_hi (by omega) (fun q h1 h2 => by omega)
        exact q_zret (W1 := wT g cA pm jm lm du pr ja (stpK b a t rt j)) hx hb hr hlocks hV dX0_stopAround_62 (by first | rfl | exact nb01 (by omega)) ⟨by rw [e1], by rw [e2]⟩
      · refine lv_aload_n hx hb dX0_stopAround_33 rfl (lv_at hl 0 rfl) ?_
        refine lv_iload hx hb dX0_stopAround_34 (lv_at hl 6 rfl) ?_
        refine lv_iload_n hx hb dX0_stopAround_36 rfl (lv_at hl 3 rfl) ?_
        refine k_V_i (w0 := ([] : va_W)) (wc := wT g cA pm jm lm du pr ja (stpK b a t rt j)) (b := g 0) (As := [.int (nI j), .int (nI t)]) (rest := []) hx hb hml hown hts hK hA hN hV hl.1 (c_X0_inMotion l D g cA pm jm lm du pr ja (stpK b a t rt j) j t  (by first | assumption | omega) (by first | assumption | omega) hq) gX0_stopAround_X0_inMotion rfl rfl rfl hdX0_inMotion ⟨Nat.le_of_ble_eq_true rfl, Nat.le_of_ble_eq_true rfl⟩ 0 0 rfl rfl rfl rfl rfl (Nat.le_of_ble_eq_true rfl) dX0_stopAround_37 ⟨Nat.zero_le _, Nat.zero_le _⟩ (fun r W1 H locs hp hV => ?_)
        obtain ⟨hp1, hp2⟩ := hp
        replace hp1 := hp1.symm
        subst hp1
        replace hp2 := hp2.symm
        subst hp2
        have hV : qV D A s.heap (wT g cA pm jm lm du pr ja (stpK b a t rt j)) H locs := hV
        have f1 := ite_le (t < (stpK b a t rt j) j)
        refine q_if_eq (x := (if t < (stpK b a t rt j) j then 1 else 0)) (tgt := 54) hx hb dX0_stopAround_40 (by decide) (by omega) (fun c40 => ?_) (fun c40 => ?_)
        · rw [stpK_at] at c40
          have c40 := ite0 c40
          refine q_iinc (x := j) (z := j + 1) (lv' := [(7, .int (nI (j + 1))), (0, .ref (g 0)), (1, .int (nI a)), (2, .int (nI b)), (3, .int (nI t)), (5, .int (nI (min 11 (a + b)))), (6, .int (nI (jamF b a t rt j)))]) hx hb dX0_stopAround_54 hl (k := 6) rfl (dd := 1) rfl (by omega) (by decide) rfl (fun ls hl => ?_)
          refine lv_goto (tgt := 26) hx hb dX0_stopAround_57 (by decide) ?_
          have e1 : jamF b a t rt (j + 1) = jamF b a t rt j := if_neg (fun q => c40 q.2.2)
          have e2 : stpK b a t rt (j + 1) = stpK b a t rt j := stpK_s0 (fun q => c40 q.2.2)
          exact ih26  (j + 1) _ _ _ (by omega) (by first | assumption | omega) (by first | assumption | omega) (by rw [e2]; exact hV) (by rw [e1]; exact lv_sub hl [1, 2, 3, 4, 5, 6, 0] rfl)
        · rw [stpK_at] at c40
          have c40 := ite1 c40
          refine lv_aload_n hx hb dX0_stopAround_43 rfl (lv_at hl 0 rfl) ?_
          refine q_get (C := RX0) (T := TX0) (N := 7) (ci := 0) (v := .ref (g 3)) hx hb hts hin0 hown hK hV 0 rfl rfl 6 (by decide) (List.mem_of_getElem? (i := 8) rfl) rfl dX0_stopAround_44 ?_
          refine lv_iload hx hb dX0_stopAround_47 (lv_at hl 6 rfl) ?_
          refine lv_iload_n hx hb dX0_stopAround_49 rfl (lv_at hl 3 rfl) ?_
          refine q_iast (n := 12) (k := j) (v := t) (f := (stpK b a t rt j)) (wT g cA pm jm lm du pr ja (up (stpK b a t rt j) j t)) hx hb hK hV 3 rfl (by omega) (by decide) rfl dX0_stopAround_50 (fun H locs hV => ?_)
          refine lv_iconst (v := nI 1) hx hb dX0_stopAround_51 (by decide) ?_
          refine lv_istore (lv' := [(6, .int (nI 1)), (0, .ref (g 0)), (1, .int (nI a)), (2, .int (nI b)), (3, .int (nI t)), (5, .int (nI (min 11 (a + b)))), (7, .int (nI j))]) hx hb dX0_stopAround_52 hl (by decide) rfl (fun ls hl => ?_)
          refine q_iinc (x := j) (z := j + 1) (lv' := [(7, .int (nI (j + 1))), (6, .int (nI 1)), (0, .ref (g 0)), (1, .int (nI a)), (2, .int (nI b)), (3, .int (nI t)), (5, .int (nI (min 11 (a + b))))]) hx hb dX0_stopAround_54 hl (k := 6) rfl (dd := 1) rfl (by omega) (by decide) rfl (fun ls hl => ?_)
          refine lv_goto (tgt := 26) hx hb dX0_stopAround_57 (by decide) ?_
          have e1 : jamF b a t rt (j + 1) = 1 := if_pos ⟨by omega, by omega, c40⟩
          have e2 : stpK b a t rt (j + 1) = up (stpK b a t rt j) j t := stpK_s1 ⟨by omega, by omega, c40⟩
          exact ih26  (j + 1) _ _ _ (by omega) (by first | assumption | omega) (by first | assumption | omega) (by rw [e2]; exact hV) (by rw [e1]; exact lv_sub hl [2, 3, 4, 5, 6, 1, 0] rfl)
  have e1 : jamF b a t rt (a - b) = 0 := jamF_lo (fun q h1 h2 => by omega)
  have e2 : stpK b a t rt (a - b) = rt := stpK_lo (fun q h1 h2 => by omega)
  exact lp26 13 (a - b) _ _ _ (by omega) (by first | assumption | omega) (by first | assumption | omega) (by rw [e2]; exact hV) (by rw [e1]; exact lv_sub hl [4, 5, 6, 7, 2, 1, 0] rfl)
abbrev rm_X0_addPrinted : Room := { frames := 0, cells := 0, slots := 0, locals := 0 }
set_option maxHeartbeats 4000000 in
set_option maxRecDepth 100000 in
theorem c_X0_addPrinted (l : Launch) (D : va_G) (g : Nat → Nat) (cA : ClassId) (pm : Nat) (jm : Nat) (lm : Nat) (du : Nat) (pr : Nat → Nat) (ja : Nat → Nat) (rt : Nat → Nat) (a : Nat)  (h_m : pm < 60) : CTv l D cA yX0_addPrinted wsX0_addPrinted rm_X0_addPrinted [.ref (g 0), .int (nI a)] (wT g cA pm jm lm du pr ja rt) (fun W1 => W1 = wT g cA (pm + 1) jm lm du (up pr pm a) ja rt) := by
  refine CTv.mk (cc := cX0_addPrinted) (maxL := 2) (ret := none) (by decide) rfl (Nat.le_of_ble_eq_true rfl) ?_
  intro p e s m below meth c A ls E hV hl
  obtain ⟨hx, hb, hml, hr, hown, hts, hlocks, hK, hA, hN⟩ := E
  have hown : s.vm.findClass RX0 = some m.cls := hown
  have hin0 : ∀ w ∈ wsX00, w ∈ wsX0_addPrinted := fun _ h => List.mem_cons_of_mem _ (List.mem_append_right _ h)
  have hl : lv_has ls 2 [(0, .ref (g 0)), (1, .int (nI a))] := hl
  refine lv_aload_n hx hb dX0_addPrinted_0 rfl (lv_at hl 0 rfl) ?_
  refine q_get (C := RX0) (T := TX0) (N := 7) (ci := 0) (v := .int (nI pm)) hx hb hts hin0 hown hK hV 0 rfl rfl 1 (by decide) (List.mem_of_getElem? (i := 1) rfl) rfl dX0_addPrinted_1 ?_
  refine lv_bipush (v := nI 60) hx hb dX0_addPrinted_4 (by decide) ?_
  refine q_icmp_ge (x := pm) (y := 60) (tgt := 29) hx hb dX0_addPrinted_6 (by decide) (by omega) (by omega) (fun c6 => ?_) (fun c6 => ?_)
  · exfalso; omega
  · refine lv_aload_n hx hb dX0_addPrinted_9 rfl (lv_at hl 0 rfl) ?_
    refine q_get (C := RX0) (T := TX0) (N := 7) (ci := 0) (v := .ref (g 1)) hx hb hts hin0 hown hK hV 0 rfl rfl 0 (by decide) (List.mem_of_getElem? (i := 2) rfl) rfl dX0_addPrinted_10 ?_
    refine lv_aload_n hx hb dX0_addPrinted_13 rfl (lv_at hl 0 rfl) ?_
    refine q_get (C := RX0) (T := TX0) (N := 7) (ci := 0) (v := .int (nI pm)) hx hb hts hin0 hown hK hV 0 rfl rfl 1 (by decide) (List.mem_of_getElem? (i := 1) rfl) rfl dX0_addPrinted_14 ?_
    refine lv_iload_n hx hb dX0_addPrinted_17 rfl (lv_at hl 1 rfl) ?_
    refine q_iast (n := 60) (k := pm) (v := a) (f := pr) (wT g cA pm jm lm du (up pr pm a) ja rt) hx hb hK hV 1 rfl (by omega) (by decide) rfl dX0_addPrinted_18 (fun H locs hV => ?_)
    refine lv_aload_n hx hb dX0_addPrinted_19 rfl (lv_at hl 0 rfl) ?_
    refine lv_dup hx hb dX0_addPrinted_20 rfl ?_
    refine q_get (C := RX0) (T := TX0) (N := 7) (ci := 0) (v := .int (nI pm)) hx hb hts hin0 hown hK hV 0 rfl rfl 1 (by decide) (List.mem_of_getElem? (i := 1) rfl) rfl dX0_addPrinted_21 ?_
    refine lv_iconst (v := nI 1) hx hb dX0_addPrinted_24 (by decide) ?_
    refine q_iadd2 (x := pm) (y := 1) (z := pm + 1) hx hb (by omega) dX0_addPrinted_25 ?_
    refine q_put (C := RX0) (T := TX0) (N := 7) (ci := 0) (v := .int (nI (pm + 1))) (wT g cA (pm + 1) jm lm du (up pr pm a) ja rt) hx hb hts hin0 tyX0 tyX0_ok nmX0 hown hK hV 0 rfl rfl 1 (by decide) (List.mem_of_getElem? (i := 1) rfl) rfl rfl rfl (Nat.le_of_ble_eq_true rfl) rfl dX0_addPrinted_26 (fun H locs hV => ?_)
    exact q_vret (W1 := wT g cA (pm + 1) jm lm du (up pr pm a) ja rt) hx hb hr hlocks hV dX0_addPrinted_29 rfl
abbrev rm_X0_addJammed : Room := { frames := 0, cells := 0, slots := 0, locals := 0 }
set_option maxHeartbeats 4000000 in
set_option maxRecDepth 100000 in
theorem c_X0_addJammed (l : Launch) (D : va_G) (g : Nat → Nat) (cA : ClassId) (pm : Nat) (jm : Nat) (lm : Nat) (du : Nat) (pr : Nat → Nat) (ja : Nat → Nat) (rt : Nat → Nat) (a : Nat)  (h_m : jm < 60) : CTv l D cA yX0_addJammed wsX0_addJammed rm_X0_addJammed [.ref (g 0), .int (nI a)] (wT g cA pm jm lm du pr ja rt) (fun W1 => W1 = wT g cA pm (jm + 1) lm du pr (up ja jm a) rt) := by
  refine CTv.mk (cc := cX0_addJammed) (maxL := 2) (ret := none) (by decide) rfl (Nat.le_of_ble_eq_true rfl) ?_
  intro p e s m below meth c A ls E hV hl
  obtain ⟨hx, hb, hml, hr, hown, hts, hlocks, hK, hA, hN⟩ := E
  have hown : s.vm.findClass RX0 = some m.cls := hown
  have hin0 : ∀ w ∈ wsX00, w ∈ wsX0_addJammed := fun _ h => List.mem_cons_of_mem _ (List.mem_append_right _ h)
  have hl : lv_has ls 2 [(0, .ref (g 0)), (1, .int (nI a))] := hl
  refine lv_aload_n hx hb dX0_addJammed_0 rfl (lv_at hl 0 rfl) ?_
  refine q_get (C := RX0) (T := TX0) (N := 7) (ci := 0) (v := .int (nI jm)) hx hb hts hin0 hown hK hV 0 rfl rfl 3 (by decide) (List.mem_of_getElem? (i := 1) rfl) rfl dX0_addJammed_1 ?_
  refine lv_bipush (v := nI 60) hx hb dX0_addJammed_4 (by decide) ?_
  refine q_icmp_ge (x := jm) (y := 60) (tgt := 29) hx hb dX0_addJammed_6 (by decide) (by omega) (by omega) (fun c6 => ?_) (fun c6 => ?_)
  · exfalso; omega
  · refine lv_aload_n hx hb dX0_addJammed_9 rfl (lv_at hl 0 rfl) ?_
    refine q_get (C := RX0) (T := TX0) (N := 7) (ci := 0) (v := .ref (g 2)) hx hb hts hin0 hown hK hV 0 rfl rfl 2 (by decide) (List.mem_of_getElem? (i := 2) rfl) rfl dX0_addJammed_10 ?_
    refine lv_aload_n hx hb dX0_addJammed_13 rfl (lv_at hl 0 rfl) ?_
    refine q_get (C := RX0) (T := TX0) (N := 7) (ci := 0) (v := .int (nI jm)) hx hb hts hin0 hown hK hV 0 rfl rfl 3 (by decide) (List.mem_of_getElem? (i := 1) rfl) rfl dX0_addJammed_14 ?_
    refine lv_iload_n hx hb dX0_addJammed_17 rfl (lv_at hl 1 rfl) ?_
    refine q_iast (n := 60) (k := jm) (v := a) (f := ja) (wT g cA pm jm lm du pr (up ja jm a) rt) hx hb hK hV 2 rfl (by omega) (by decide) rfl dX0_addJammed_18 (fun H locs hV => ?_)
    refine lv_aload_n hx hb dX0_addJammed_19 rfl (lv_at hl 0 rfl) ?_
    refine lv_dup hx hb dX0_addJammed_20 rfl ?_
    refine q_get (C := RX0) (T := TX0) (N := 7) (ci := 0) (v := .int (nI jm)) hx hb hts hin0 hown hK hV 0 rfl rfl 3 (by decide) (List.mem_of_getElem? (i := 1) rfl) rfl dX0_addJammed_21 ?_
    refine lv_iconst (v := nI 1) hx hb dX0_addJammed_24 (by decide) ?_
    refine q_iadd2 (x := jm) (y := 1) (z := jm + 1) hx hb (by omega) dX0_addJammed_25 ?_
    refine q_put (C := RX0) (T := TX0) (N := 7) (ci := 0) (v := .int (nI (jm + 1))) (wT g cA pm (jm + 1) lm du pr (up ja jm a) rt) hx hb hts hin0 tyX0 tyX0_ok nmX0 hown hK hV 0 rfl rfl 3 (by decide) (List.mem_of_getElem? (i := 1) rfl) rfl rfl rfl (Nat.le_of_ble_eq_true rfl) rfl dX0_addJammed_26 (fun H locs hV => ?_)
    exact q_vret (W1 := wT g cA pm (jm + 1) lm du pr (up ja jm a) rt) hx hb hr hlocks hV dX0_addJammed_29 rfl
end
section
/-! the answers, of any ints -/
theorem okR_k {lo hi k : Nat} (h1 : lo ≤ k) (h2 : k ≤ hi) (h3 : hi < 2147483648) : okR lo hi (nI k) = 1 := by
  rw [okR_nI (by omega), if_pos ⟨h1, h2⟩]
theorem okR_g {lo hi : Nat} {v : Int32} (hh : hi < 2147483648) (h1 : (lo : Int) ≤ v.toInt) (h2 : v.toInt ≤ (hi : Int)) : ∃ k, lo ≤ k ∧ k ≤ hi ∧ v = nI k := okR_1 hh (by rw [okR_of h1 h2]; omega)
def aApp (n : Nat) (v : Int32) : Int32 := if okR 97 108 v = 1 then (if n < 60 then nI (n + 1) else -1000002) else -1000001
def nApp (n : Nat) (v : Int32) : Nat := if okR 97 108 v = 1 then (if n < 60 then n + 1 else n) else n
def tApp (n : Nat) (tx : Nat → Nat) (v : Int32) : Nat → Nat := if okR 97 108 v = 1 then (if n < 60 then up tx n (iN v - 97) else tx) else tx
def aPair (n : Nat) (tx : Nat → Nat) (v w : Int32) : Int32 := if okR 0 11 v = 1 ∧ okR 0 11 w = 1 then nI (prc tx (iN v) (iN w) (n - 1)) else -1000003
theorem aPair_ok {n : Nat} {tx : Nat → Nat} {a b : Nat} (ha : a ≤ 11) (hb : b ≤ 11) : aPair n tx (nI a) (nI b) = nI (prc tx a b (n - 1)) := by
  unfold aPair
  rw [okR_k (Nat.zero_le _) ha (by omega), okR_k (Nat.zero_le _) hb (by omega), iN_nI (by omega), iN_nI (by omega), if_pos ⟨rfl, rfl⟩]
theorem aPair_no {n : Nat} {tx : Nat → Nat} {v w : Int32} (h : okR 0 11 v = 0 ∨ okR 0 11 w = 0) : aPair n tx v w = -1000003 := by
  unfold aPair; rw [if_neg (by omega)]
/-- a number that is set: the old one is the answer -/
def aSet (lo hi x : Nat) (v : Int32) : Int32 := if okR lo hi v = 1 then nI x else -1000003
def nSet (lo hi x : Nat) (v : Int32) : Nat := if okR lo hi v = 1 then iN v else x
theorem aSet_ok {lo hi x k : Nat} (h1 : lo ≤ k) (h2 : k ≤ hi) (h3 : hi < 2147483648) : aSet lo hi x (nI k) = nI x := by unfold aSet; rw [okR_k h1 h2 h3, if_pos rfl]
theorem nSet_ok {lo hi x k : Nat} (h1 : lo ≤ k) (h2 : k ≤ hi) (h3 : hi < 2147483648) : nSet lo hi x (nI k) = k := by unfold nSet; rw [okR_k h1 h2 h3, if_pos rfl, iN_nI (by omega)]
theorem aSet_no {lo hi x : Nat} {v : Int32} (h : okR lo hi v = 0) : aSet lo hi x v = -1000003 := by unfold aSet; rw [h, if_neg (by omega)]
theorem nSet_no {lo hi x : Nat} {v : Int32} (h : okR lo hi v = 0) : nSet lo hi x v = x := by unfold nSet; rw [h, if_neg (by omega)]
def isLy (n : Nat) (tx : Nat → Nat) : Nat := if n = 12 ∧ msk tx 12 = nI 4095 then 1 else 0
theorem isLy_le (n : Nat) (tx : Nat → Nat) : isLy n tx ≤ 1 := by unfold isLy; split <;> omega
def aLd (n : Nat) (tx : Nat → Nat) : Int32 := if isLy n tx = 1 then nI 12 else -1000004
def nLd (n : Nat) (tx : Nat → Nat) : Nat := if isLy n tx = 1 then 0 else n
def yLd (n : Nat) (tx : Nat → Nat) (y : Lay) : Lay := if isLy n tx = 1 then (ldL y.1 tx 12, ldP y.2.1 tx 12, 0, y.2.2.2.1, y.2.2.2.2) else y
/-- what stands at a place of the twelve -/
def aAt (f : Nat → Nat) (v : Int32) : Int32 := if okR 0 11 v = 1 then nI (f (iN v)) else -1000003
theorem aAt_ok {f : Nat → Nat} {k : Nat} (h : k ≤ 11) : aAt f (nI k) = nI (f k) := by unfold aAt; rw [okR_k (Nat.zero_le _) h (by omega), if_pos rfl, iN_nI (by omega)]
theorem aAt_no {f : Nat → Nat} {v : Int32} (h : okR 0 11 v = 0) : aAt f v = -1000003 := by unfold aAt; rw [h, if_neg (by omega)]
def swErr (v w : Int32) : Int32 := if okR 0 11 v = 1 ∧ okR 0 11 w = 1 then (if iN v = iN w then -1000005 else 0) else -1000003
theorem swErr_no {v w : Int32} (h : okR 0 11 v = 0 ∨ okR 0 11 w = 0) : swErr v w = -1000003 := by unfold swErr; rw [if_neg (by omega)]
theorem swErr_ok {a b : Nat} (ha : a ≤ 11) (hb : b ≤ 11) : swErr (nI a) (nI b) = if a = b then -1000005 else 0 := by
  unfold swErr
  rw [okR_k (Nat.zero_le _) ha (by omega), okR_k (Nat.zero_le _) hb (by omega), iN_nI (by omega), iN_nI (by omega), if_pos ⟨rfl, rfl⟩]
theorem swErr_0 {v w : Int32} (h : swErr v w = 0) : ∃ a b, a < 12 ∧ b < 12 ∧ a ≠ b ∧ v = nI a ∧ w = nI b := by
  have h1 := okR_le 0 11 v
  have h2 := okR_le 0 11 w
  by_cases c1 : okR 0 11 v = 0 ∨ okR 0 11 w = 0
  · rw [swErr_no c1] at h; exact absurd h (by decide)
  · obtain ⟨a, -, ha, rfl⟩ := okR_1 (lo := 0) (hi := 11) (v := v) (by decide) (by omega)
    obtain ⟨b, -, hb, rfl⟩ := okR_1 (lo := 0) (hi := 11) (v := w) (by decide) (by omega)
    rw [swErr_ok ha hb] at h
    by_cases e : a = b
    · rw [if_pos e] at h; exact absurd h (by decide)
    · exact ⟨a, b, by omega, by omega, e, rfl, rfl⟩
def ySw (v w : Int32) (y : Lay) : Lay := if swErr v w = 0 then mks y (iN v) (iN w) else y
def aSw (C : Nat) (tx : Nat → Nat) (n : Nat) (v w : Int32) (y : Lay) : Int32 := if swErr v w = 0 then nI (cst C (mks y (iN v) (iN w)).2.1 tx (n - 1)) else swErr v w
theorem ySw_ok {a b : Nat} (ha : a < 12) (hb : b < 12) (hab : a ≠ b) (y : Lay) : ySw (nI a) (nI b) y = mks y a b := by
  unfold ySw; rw [swErr_ok (by omega) (by omega), if_neg hab, if_pos rfl, iN_nI (by omega), iN_nI (by omega)]
theorem ySw_no {v w : Int32} (h : swErr v w ≠ 0) (y : Lay) : ySw v w y = y := if_neg h
theorem aSw_ok {C n : Nat} {tx : Nat → Nat} {a b : Nat} (ha : a < 12) (hb : b < 12) (hab : a ≠ b) (y : Lay) : aSw C tx n (nI a) (nI b) y = nI (cst C (exP y.1 y.2.1 a b) tx (n - 1)) := by
  unfold aSw; rw [swErr_ok (by omega) (by omega), if_neg hab, if_pos rfl, iN_nI (by omega), iN_nI (by omega)]; rfl
theorem aSw_no {C n : Nat} {tx : Nat → Nat} {v w : Int32} (h : swErr v w ≠ 0) (y : Lay) : aSw C tx n v w y = swErr v w := if_neg h
def yUn (y : Lay) : Lay := if y.2.2.1 = 0 then y else (exL y.1 (y.2.2.2.1 (y.2.2.1 - 1)) (y.2.2.2.2 (y.2.2.1 - 1)), exP y.1 y.2.1 (y.2.2.2.1 (y.2.2.1 - 1)) (y.2.2.2.2 (y.2.2.1 - 1)), y.2.2.1 - 1, y.2.2.2.1, y.2.2.2.2)
def aUn (C : Nat) (tx : Nat → Nat) (n : Nat) (y : Lay) : Int32 := if y.2.2.1 = 0 then -1000006 else nI (cst C (yUn y).2.1 tx (n - 1))
def aGn (C : Nat) (L P tx : Nat → Nat) (n : Nat) (v w : Int32) : Int32 := if swErr v w = 0 then nI (cst C P tx (n - 1)) - nI (caf C L P tx n (iN v) (iN w)) else swErr v w
theorem aGn_ok {C n : Nat} {L P tx : Nat → Nat} {a b : Nat} (ha : a < 12) (hb : b < 12) (hab : a ≠ b) : aGn C L P tx n (nI a) (nI b) = nI (cst C P tx (n - 1)) - nI (caf C L P tx n a b) := by
  unfold aGn; rw [swErr_ok (by omega) (by omega), if_neg hab, if_pos rfl, iN_nI (by omega), iN_nI (by omega)]
theorem aGn_no {C n : Nat} {L P tx : Nat → Nat} {v w : Int32} (h : swErr v w ≠ 0) : aGn C L P tx n v w = swErr v w := if_neg h
theorem caf_le {C n : Nat} (L P tx : Nat → Nat) (a b : Nat) (hC : C ≤ 5) (hn : n ≤ 60) : caf C L P tx n a b ≤ 360 := cst_lt _ _ hC (by omega)
theorem bV_ne {b : Nat} (h : bV b ≠ -1000006) : b ≠ 0 ∧ bV b = nI b := by
  unfold bV at h ⊢
  by_cases e : b = 0
  · rw [if_pos e] at h; exact absurd rfl h
  · rw [if_neg e]; exact ⟨e, rfl⟩
theorem bV_eq {b : Nat} (hb : bOk b) (h : bV b = -1000006) : b = 0 := by
  by_cases e : b = 0
  · exact e
  · unfold bV at h
    rw [if_neg e] at h
    have := hb.lt
    have h2 : (nI b).toInt = (-1000006 : Int32).toInt := by rw [h]
    rw [nI_toInt (by omega)] at h2
    exact absurd h2 (by have : (-1000006 : Int32).toInt = -1000006 := rfl; omega)
theorem bV_nI {b : Nat} (h : b ≠ 0) : bV b = nI b := if_neg h
theorem bOk.dm {b : Nat} (h : bOk b) (h0 : b ≠ 0) : b / 100 < 12 ∧ b % 100 < 12 ∧ b / 100 ≠ b % 100 := by
  rcases h with h | ⟨x, y, h1, h2, h3⟩
  · exact absurd h h0
  · subst h3; omega
def yIm (C : Nat) (tx : Nat → Nat) (n : Nat) (v : Int32) (y : Lay) : Lay := if okR 0 100 v = 1 then (impr C tx n (iN v) y).2 else y
def aIm (C : Nat) (tx : Nat → Nat) (n : Nat) (v : Int32) (y : Lay) : Int32 := if okR 0 100 v = 1 then nI (impr C tx n (iN v) y).1 else -1000003
theorem yIm_ok {C n k : Nat} {tx : Nat → Nat} {y : Lay} (h : k ≤ 100) : yIm C tx n (nI k) y = (impr C tx n k y).2 := by unfold yIm; rw [okR_k (Nat.zero_le _) h (by omega), if_pos rfl, iN_nI (by omega)]
theorem aIm_ok {C n k : Nat} {tx : Nat → Nat} {y : Lay} (h : k ≤ 100) : aIm C tx n (nI k) y = nI (impr C tx n k y).1 := by unfold aIm; rw [okR_k (Nat.zero_le _) h (by omega), if_pos rfl, iN_nI (by omega)]
theorem yIm_no {C n : Nat} {tx : Nat → Nat} {y : Lay} {v : Int32} (h : okR 0 100 v = 0) : yIm C tx n v y = y := by unfold yIm; rw [h, if_neg (by omega)]
theorem aIm_no {C n : Nat} {tx : Nat → Nat} {y : Lay} {v : Int32} (h : okR 0 100 v = 0) : aIm C tx n v y = -1000003 := by unfold aIm; rw [h, if_neg (by omega)]
theorem impr_s0 {C n k : Nat} {tx : Nat → Nat} {y : Lay} (hk : k ≠ 0) (h : lbs C tx n y = 0) : impr C tx n k y = (0, y) := by
  obtain ⟨j, rfl⟩ : ∃ j, k = j + 1 := ⟨k - 1, by omega⟩
  simp only [impr, if_pos h]
theorem impr_s1 {C n k : Nat} {tx : Nat → Nat} {y : Lay} (hk : k ≠ 0) (h : lbs C tx n y ≠ 0) : impr C tx n k y = ((impr C tx n (k - 1) (mks y (lbs C tx n y / 100) (lbs C tx n y % 100))).1 + 1, (impr C tx n (k - 1) (mks y (lbs C tx n y / 100) (lbs C tx n y % 100))).2) := by
  obtain ⟨j, rfl⟩ : ∃ j, k = j + 1 := ⟨k - 1, by omega⟩
  simp only [impr, if_neg h, Nat.add_sub_cancel]
theorem pshU_le (u : Nat) (h : u ≤ 30) : pshU u ≤ 30 := by unfold pshU; split <;> omega
theorem mir_step (L P : Nat → Nat) (j : Nat) : mir L P (j + 1) = (exL (mir L P j).1 j (11 - j), exP (mir L P j).1 (mir L P j).2 j (11 - j)) := rfl
end
section
abbrev rm_X1_isNumber : Room := { frames := 0, cells := 0, slots := 0, locals := 0 }
set_option maxHeartbeats 4000000 in
set_option maxRecDepth 100000 in
theorem c_X1_isNumber (l : Launch) (D : va_G) (cA : ClassId) (v1 : Int32)   : CTi l D cA yX1_isNumber wsX1_isNumber rm_X1_isNumber [.int v1] (([] : va_W)) (fun r W1 => r = nI (okR 0 11 v1) ∧ W1 = ([] : va_W)) := by
  refine CTi.mk (cc := cX1_isNumber) (maxL := 1) (ret := some .boolean) (by decide) rfl (Nat.le_of_ble_eq_true rfl) ?_
  intro p e s m below meth c A ls E hV hl
  obtain ⟨hx, hb, hml, hr, hown, hts, hlocks, hK, hA, hN⟩ := E
  have hown : s.vm.findClass RX1 = some m.cls := hown
  have hl : lv_has ls 1 [(0, .int v1)] := hl
  refine lv_iload_n hx hb dX1_isNumber_0 rfl (lv_at hl 0 rfl) ?_
  refine z_if_lt (tgt := 14) hx hb dX1_isNumber_1 (by decide) (fun c1 => ?_) (fun c1 => ?_)
  · refine lv_iconst (v := nI 0) hx hb dX1_isNumber_14 (by decide) ?_
    exact q_zret (W1 := ([] : va_W)) hx hb hr hlocks hV dX1_isNumber_15 (by first | rfl | exact nb01 (by omega)) ⟨by first | rw [okR_of (by omega) (by omega)] | rw [okR_no (by omega)], rfl⟩
  · refine lv_iload_n hx hb dX1_isNumber_4 rfl (lv_at hl 0 rfl) ?_
    refine lv_bipush (v := nI 12) hx hb dX1_isNumber_5 (by decide) ?_
    refine z_icmp_ge (tgt := 14) hx hb dX1_isNumber_7 (by decide) (fun c7 => ?_) (fun c7 => ?_)
    · rw [nI_toInt (n := 12) (by omega)] at c7
      refine lv_iconst (v := nI 0) hx hb dX1_isNumber_14 (by decide) ?_
      exact q_zret (W1 := ([] : va_W)) hx hb hr hlocks hV dX1_isNumber_15 (by first | rfl | exact nb01 (by omega)) ⟨by first | rw [okR_of (by omega) (by omega)] | rw [okR_no (by omega)], rfl⟩
    · rw [nI_toInt (n := 12) (by omega)] at c7
      refine lv_iconst (v := nI 1) hx hb dX1_isNumber_10 (by decide) ?_
      refine lv_goto (tgt := 15) hx hb dX1_isNumber_11 (by decide) ?_
      exact q_zret (W1 := ([] : va_W)) hx hb hr hlocks hV dX1_isNumber_15 (by first | rfl | exact nb01 (by omega)) ⟨by first | rw [okR_of (by omega) (by omega)] | rw [okR_no (by omega)], rfl⟩
abbrev rm_X1_isPairOf : Room := { frames := 0, cells := 0, slots := 0, locals := 0 }
set_option maxHeartbeats 4000000 in
set_option maxRecDepth 100000 in
theorem c_X1_isPairOf (l : Launch) (D : va_G) (cA : ClassId) (a0 : Nat) (a1 : Nat) (b0 : Nat) (b1 : Nat)  (h1 : a0 < 100) (h2 : a1 < 100) (h3 : b0 < 100) (h4 : b1 < 100) : CTi l D cA yX1_isPairOf wsX1_isPairOf rm_X1_isPairOf [.int (nI a0), .int (nI a1), .int (nI b0), .int (nI b1)] (([] : va_W)) (fun r W1 => r = nI (if (a0 = b0 ∧ a1 = b1) ∨ (a0 = b1 ∧ a1 = b0) then 1 else 0) ∧ W1 = ([] : va_W)) := by
  refine CTi.mk (cc := cX1_isPairOf) (maxL := 4) (ret := some .boolean) (by decide) rfl (Nat.le_of_ble_eq_true rfl) ?_
  intro p e s m below meth c A ls E hV hl
  obtain ⟨hx, hb, hml, hr, hown, hts, hlocks, hK, hA, hN⟩ := E
  have hown : s.vm.findClass RX1 = some m.cls := hown
  have hl : lv_has ls 4 [(0, .int (nI a0)), (1, .int (nI a1)), (2, .int (nI b0)), (3, .int (nI b1))] := hl
  refine lv_iload_n hx hb dX1_isPairOf_0 rfl (lv_at hl 0 rfl) ?_
  refine lv_iload_n hx hb dX1_isPairOf_1 rfl (lv_at hl 2 rfl) ?_
  refine q_icmp_ne (x := a0) (y := b0) (tgt := 10) hx hb dX1_isPairOf_2 (by decide) (by omega) (by omega) (fun c2 => ?_) (fun c2 => ?_)
  · refine lv_iload_n hx hb dX1_isPairOf_10 rfl (lv_at hl 0 rfl) ?_
    refine lv_iload_n hx hb dX1_isPairOf_11 rfl (lv_at hl 3 rfl) ?_
    refine q_icmp_ne (x := a0) (y := b1) (tgt := 24) hx hb dX1_isPairOf_12 (by decide) (by omega) (by omega) (fun c12 => ?_) (fun c12 => ?_)
    · refine lv_iconst (v := nI 0) hx hb dX1_isPairOf_24 (by decide) ?_
      exact q_zret (W1 := ([] : va_W)) hx hb hr hlocks hV dX1_isPairOf_25 (by first | rfl | exact nb01 (by omega)) ⟨by first | rw [if_pos (by omega)] | rw [if_neg (by omega)], rfl⟩
    · refine lv_iload_n hx hb dX1_isPairOf_15 rfl (lv_at hl 1 rfl) ?_
      refine lv_iload_n hx hb dX1_isPairOf_16 rfl (lv_at hl 2 rfl) ?_
      refine q_icmp_ne (x := a1) (y := b0) (tgt := 24) hx hb dX1_isPairOf_17 (by decide) (by omega) (by omega) (fun c17 => ?_) (fun c17 => ?_)
      · refine lv_iconst (v := nI 0) hx hb dX1_isPairOf_24 (by decide) ?_
        exact q_zret (W1 := ([] : va_W)) hx hb hr hlocks hV dX1_isPairOf_25 (by first | rfl | exact nb01 (by omega)) ⟨by first | rw [if_pos (by omega)] | rw [if_neg (by omega)], rfl⟩
      · refine lv_iconst (v := nI 1) hx hb dX1_isPairOf_20 (by decide) ?_
        refine lv_goto (tgt := 25) hx hb dX1_isPairOf_21 (by decide) ?_
        exact q_zret (W1 := ([] : va_W)) hx hb hr hlocks hV dX1_isPairOf_25 (by first | rfl | exact nb01 (by omega)) ⟨by first | rw [if_pos (by omega)] | rw [if_neg (by omega)], rfl⟩
  · refine lv_iload_n hx hb dX1_isPairOf_5 rfl (lv_at hl 1 rfl) ?_
    refine lv_iload_n hx hb dX1_isPairOf_6 rfl (lv_at hl 3 rfl) ?_
    refine q_icmp_eq (x := a1) (y := b1) (tgt := 20) hx hb dX1_isPairOf_7 (by decide) (by omega) (by omega) (fun c7 => ?_) (fun c7 => ?_)
    · refine lv_iconst (v := nI 1) hx hb dX1_isPairOf_20 (by decide) ?_
      refine lv_goto (tgt := 25) hx hb dX1_isPairOf_21 (by decide) ?_
      exact q_zret (W1 := ([] : va_W)) hx hb hr hlocks hV dX1_isPairOf_25 (by first | rfl | exact nb01 (by omega)) ⟨by first | rw [if_pos (by omega)] | rw [if_neg (by omega)], rfl⟩
    · refine lv_iload_n hx hb dX1_isPairOf_10 rfl (lv_at hl 0 rfl) ?_
      refine lv_iload_n hx hb dX1_isPairOf_11 rfl (lv_at hl 3 rfl) ?_
      refine q_icmp_ne (x := a0) (y := b1) (tgt := 24) hx hb dX1_isPairOf_12 (by decide) (by omega) (by omega) (fun c12 => ?_) (fun c12 => ?_)
      · refine lv_iconst (v := nI 0) hx hb dX1_isPairOf_24 (by decide) ?_
        exact q_zret (W1 := ([] : va_W)) hx hb hr hlocks hV dX1_isPairOf_25 (by first | rfl | exact nb01 (by omega)) ⟨by first | rw [if_pos (by omega)] | rw [if_neg (by omega)], rfl⟩
      · refine lv_iload_n hx hb dX1_isPairOf_15 rfl (lv_at hl 1 rfl) ?_
        refine lv_iload_n hx hb dX1_isPairOf_16 rfl (lv_at hl 2 rfl) ?_
        refine q_icmp_ne (x := a1) (y := b0) (tgt := 24) hx hb dX1_isPairOf_17 (by decide) (by omega) (by omega) (fun c17 => ?_) (fun c17 => ?_)
        · refine lv_iconst (v := nI 0) hx hb dX1_isPairOf_24 (by decide) ?_
          exact q_zret (W1 := ([] : va_W)) hx hb hr hlocks hV dX1_isPairOf_25 (by first | rfl | exact nb01 (by omega)) ⟨by first | rw [if_pos (by omega)] | rw [if_neg (by omega)], rfl⟩
        · refine lv_iconst (v := nI 1) hx hb dX1_isPairOf_20 (by decide) ?_
          refine lv_goto (tgt := 25) hx hb dX1_isPairOf_21 (by decide) ?_
          exact q_zret (W1 := ([] : va_W)) hx hb hr hlocks hV dX1_isPairOf_25 (by first | rfl | exact nb01 (by omega)) ⟨by first | rw [if_pos (by omega)] | rw [if_neg (by omega)], rfl⟩
abbrev rm_X1_swapError : Room := { frames := 1, cells := 0, slots := 0, locals := 20 }
set_option maxHeartbeats 4000000 in
set_option maxRecDepth 100000 in
theorem c_X1_swapError (l : Launch) (D : va_G) (cA : ClassId) (v1 : Int32) (v2 : Int32)   : CTi l D cA yX1_swapError wsX1_swapError rm_X1_swapError [.int v1, .int v2] (([] : va_W)) (fun r W1 => r = swErr v1 v2 ∧ W1 = ([] : va_W)) := by
  refine CTi.mk (cc := cX1_swapError) (maxL := 2) (ret := some .int) (by decide) rfl (Nat.le_of_ble_eq_true rfl) ?_
  intro p e s m below meth c A ls E hV hl
  obtain ⟨hx, hb, hml, hr, hown, hts, hlocks, hK, hA, hN⟩ := E
  have hown : s.vm.findClass RX1 = some m.cls := hown
  have hl : lv_has ls 2 [(0, .int v1), (1, .int v2)] := hl
  refine lv_iload_n hx hb dX1_swapError_0 rfl (lv_at hl 0 rfl) ?_
  refine k_S_i (w0 := ([] : va_W)) (wc := ([] : va_W)) (As := [.int v1]) (rest := []) hx hb hml hown hts hK hA hN hV hl.1 (c_X1_isNumber l D cA v1  ) gX1_swapError_X1_isNumber rfl rfl rfl hdX1_isNumber ⟨Nat.le_of_ble_eq_true rfl, Nat.le_of_ble_eq_true rfl⟩ rfl rfl (Nat.le_of_ble_eq_true rfl) dX1_swapError_1 ⟨Nat.zero_le _, Nat.zero_le _⟩ (fun r W1 H locs hp hV => ?_)
  obtain ⟨hp1, hp2⟩ := hp
  replace hp1 := hp1.symm
  subst hp1
  replace hp2 := hp2.symm
  subst hp2
  have hV : qV D A s.heap (([] : va_W)) H locs := hV
  have f1 := okR_le 0 11 v1
  refine q_if_eq (x := (okR 0 11 v1)) (tgt := 14) hx hb dX1_swapError_4 (by decide) (by omega) (fun c4 => ?_) (fun c4 => ?_)
  · refine lv_ldc (v := -1000003) hx hb hown (hts _ (List.mem_of_getElem? (i := 1) rfl)) dX1_swapError_14 ?_
    exact q_iret (W1 := ([] : va_W)) hx hb hr hlocks hV dX1_swapError_16 ⟨(swErr_no (by omega)).symm, rfl⟩
  · obtain ⟨k1, -, hk1, rfl⟩ := okR_1 (by decide) c4
    refine lv_iload_n hx hb dX1_swapError_7 rfl (lv_at hl 1 rfl) ?_
    refine k_S_i (w0 := ([] : va_W)) (wc := ([] : va_W)) (As := [.int v2]) (rest := []) hx hb hml hown hts hK hA hN hV hl.1 (c_X1_isNumber l D cA v2  ) gX1_swapError_X1_isNumber rfl rfl rfl hdX1_isNumber ⟨Nat.le_of_ble_eq_true rfl, Nat.le_of_ble_eq_true rfl⟩ rfl rfl (Nat.le_of_ble_eq_true rfl) dX1_swapError_8 ⟨Nat.zero_le _, Nat.zero_le _⟩ (fun r W1 H locs hp hV => ?_)
    obtain ⟨hp1, hp2⟩ := hp
    replace hp1 := hp1.symm
    subst hp1
    replace hp2 := hp2.symm
    subst hp2
    have hV : qV D A s.heap (([] : va_W)) H locs := hV
    have f2 := okR_le 0 11 v2
    refine q_if_ne (x := (okR 0 11 v2)) (tgt := 17) hx hb dX1_swapError_11 (by decide) (by omega) (fun c11 => ?_) (fun c11 => ?_)
    · obtain ⟨k2, -, hk2, rfl⟩ := okR_1 (by decide) c11
      refine lv_iload_n hx hb dX1_swapError_17 rfl (lv_at hl 0 rfl) ?_
      refine lv_iload_n hx hb dX1_swapError_18 rfl (lv_at hl 1 rfl) ?_
      refine q_icmp_ne (x := k1) (y := k2) (tgt := 27) hx hb dX1_swapError_19 (by decide) (by omega) (by omega) (fun c19 => ?_) (fun c19 => ?_)
      · refine lv_iconst (v := nI 0) hx hb dX1_swapError_27 (by decide) ?_
        exact q_iret (W1 := ([] : va_W)) hx hb hr hlocks hV dX1_swapError_28 ⟨by rw [swErr_ok hk1 hk2]; first | rw [if_pos (by omega)] | (rw [if_neg (by omega)]; exact nI_0), rfl⟩
      · refine lv_ldc (v := -1000005) hx hb hown (hts _ (List.mem_of_getElem? (i := 2) rfl)) dX1_swapError_22 ?_
        refine lv_goto (tgt := 28) hx hb dX1_swapError_24 (by decide) ?_
        exact q_iret (W1 := ([] : va_W)) hx hb hr hlocks hV dX1_swapError_28 ⟨by rw [swErr_ok hk1 hk2]; first | rw [if_pos (by omega)] | (rw [if_neg (by omega)]; exact nI_0), rfl⟩
    · refine lv_ldc (v := -1000003) hx hb hown (hts _ (List.mem_of_getElem? (i := 1) rfl)) dX1_swapError_14 ?_
      exact q_iret (W1 := ([] : va_W)) hx hb hr hlocks hV dX1_swapError_16 ⟨(swErr_no (by omega)).symm, rfl⟩
abbrev rm_X1_append : Room := { frames := 0, cells := 0, slots := 0, locals := 0 }
set_option maxHeartbeats 4000000 in
set_option maxRecDepth 100000 in
theorem c_X1_append (l : Launch) (D : va_G) (h : Nat → Nat) (ga : Nat) (gb : Nat) (cA : ClassId) (n : Nat) (tx : Nat → Nat) (T : Nat) (C : Nat) (K : Nat) (L : Nat → Nat) (P : Nat → Nat) (u : Nat) (ua : Nat → Nat) (ub : Nat → Nat) (v1 : Int32)  (hn : n ≤ 60) : CTi l D cA yX1_append wsX1_append rm_X1_append [.ref (h 0), .int v1] (wC h ga gb cA n tx T C K L P u ua ub) (fun r W1 => r = aApp n v1 ∧ W1 = wC h ga gb cA (nApp n v1) (tApp n tx v1) T C K L P u ua ub) := by
  refine CTi.mk (cc := cX1_append) (maxL := 2) (ret := some .int) (by decide) rfl (Nat.le_of_ble_eq_true rfl) ?_
  intro p e s m below meth c A ls E hV hl
  obtain ⟨hx, hb, hml, hr, hown, hts, hlocks, hK, hA, hN⟩ := E
  have hown : s.vm.findClass RX1 = some m.cls := hown
  have hin1 : ∀ w ∈ wsX10, w ∈ wsX1_append := fun _ h => List.mem_cons_of_mem _ (List.mem_append_right _ h)
  have hl : lv_has ls 2 [(0, .ref (h 0)), (1, .int v1)] := hl
  refine lv_iload_n hx hb dX1_append_0 rfl (lv_at hl 1 rfl) ?_
  refine lv_bipush (v := nI 97) hx hb dX1_append_1 (by decide) ?_
  refine z_icmp_lt (tgt := 12) hx hb dX1_append_3 (by decide) (fun c3 => ?_) (fun c3 => ?_)
  · rw [nI_toInt (n := 97) (by omega)] at c3
    refine lv_ldc (v := -1000001) hx hb hown (hts _ (List.mem_of_getElem? (i := 1) rfl)) dX1_append_12 ?_
    have e1 : okR 97 108 v1 = 0 := okR_no (by omega)
    exact q_iret (W1 := wC h ga gb cA n tx T C K L P u ua ub) hx hb hr hlocks hV dX1_append_14 ⟨by unfold aApp; rw [e1]; rfl, by unfold nApp tApp; rw [e1]; rfl⟩
  · rw [nI_toInt (n := 97) (by omega)] at c3
    refine lv_iload_n hx hb dX1_append_6 rfl (lv_at hl 1 rfl) ?_
    refine lv_bipush (v := nI 108) hx hb dX1_append_7 (by decide) ?_
    refine z_icmp_le (tgt := 15) hx hb dX1_append_9 (by decide) (fun c9 => ?_) (fun c9 => ?_)
    · rw [nI_toInt (n := 108) (by omega)] at c9
      obtain ⟨k1, hk0, hk1, rfl⟩ := okR_g (lo := 97) (hi := 108) (by decide) (by omega) (by omega)
      refine lv_aload_n hx hb dX1_append_15 rfl (lv_at hl 0 rfl) ?_
      refine q_get (C := RX1) (T := TX1) (N := 12) (ci := 1) (v := .int (nI n)) hx hb hts hin1 hown hK hV 0 rfl rfl 1 (by decide) (List.mem_of_getElem? (i := 2) rfl) rfl dX1_append_16 ?_
      refine lv_bipush (v := nI 60) hx hb dX1_append_19 (by decide) ?_
      refine q_icmp_lt (x := n) (y := 60) (tgt := 27) hx hb dX1_append_21 (by decide) (by omega) (by omega) (fun c21 => ?_) (fun c21 => ?_)
      · refine lv_aload_n hx hb dX1_append_27 rfl (lv_at hl 0 rfl) ?_
        refine q_get (C := RX1) (T := TX1) (N := 12) (ci := 1) (v := .ref (h 1)) hx hb hts hin1 hown hK hV 0 rfl rfl 0 (by decide) (List.mem_of_getElem? (i := 4) rfl) rfl dX1_append_28 ?_
        refine lv_aload_n hx hb dX1_append_31 rfl (lv_at hl 0 rfl) ?_
        refine q_get (C := RX1) (T := TX1) (N := 12) (ci := 1) (v := .int (nI n)) hx hb hts hin1 hown hK hV 0 rfl rfl 1 (by decide) (List.mem_of_getElem? (i := 2) rfl) rfl dX1_append_32 ?_
        refine lv_iload_n hx hb dX1_append_35 rfl (lv_at hl 1 rfl) ?_
        refine lv_bipush (v := nI 97) hx hb dX1_append_36 (by decide) ?_
        refine q_isub2 (x := k1) (y := 97) (z := (k1 - 97)) hx hb (by omega) dX1_append_38 ?_
        refine q_iast (n := 60) (k := n) (v := (k1 - 97)) (f := tx) (wC h ga gb cA n (up tx n (k1 - 97)) T C K L P u ua ub) hx hb hK hV 1 rfl (by omega) (by decide) rfl dX1_append_39 (fun H locs hV => ?_)
        refine lv_aload_n hx hb dX1_append_40 rfl (lv_at hl 0 rfl) ?_
        refine lv_dup hx hb dX1_append_41 rfl ?_
        refine q_get (C := RX1) (T := TX1) (N := 12) (ci := 1) (v := .int (nI n)) hx hb hts hin1 hown hK hV 0 rfl rfl 1 (by decide) (List.mem_of_getElem? (i := 2) rfl) rfl dX1_append_42 ?_
        refine lv_iconst (v := nI 1) hx hb dX1_append_45 (by decide) ?_
        refine q_iadd2 (x := n) (y := 1) (z := n + 1) hx hb (by omega) dX1_append_46 ?_
        refine q_put (C := RX1) (T := TX1) (N := 12) (ci := 1) (v := .int (nI (n + 1))) (wC h ga gb cA (n + 1) (up tx n (k1 - 97)) T C K L P u ua ub) hx hb hts hin1 tyX1 tyX1_ok nmX1 hown hK hV 0 rfl rfl 1 (by decide) (List.mem_of_getElem? (i := 2) rfl) rfl rfl rfl (Nat.le_of_ble_eq_true rfl) rfl dX1_append_47 (fun H locs hV => ?_)
        refine lv_aload_n hx hb dX1_append_50 rfl (lv_at hl 0 rfl) ?_
        refine q_get (C := RX1) (T := TX1) (N := 12) (ci := 1) (v := .int (nI (n + 1))) hx hb hts hin1 hown hK hV 0 rfl rfl 1 (by decide) (List.mem_of_getElem? (i := 2) rfl) rfl dX1_append_51 ?_
        have e1 := okR_k hk0 hk1 (by decide)
        exact q_iret (W1 := wC h ga gb cA (n + 1) (up tx n (k1 - 97)) T C K L P u ua ub) hx hb hr hlocks hV dX1_append_54 ⟨by unfold aApp; rw [e1, if_pos rfl, if_pos (by omega)], by unfold nApp tApp; rw [e1, if_pos rfl, if_pos (by omega), if_pos rfl, if_pos (by omega), iN_nI (by omega)]⟩
      · refine lv_ldc (v := -1000002) hx hb hown (hts _ (List.mem_of_getElem? (i := 3) rfl)) dX1_append_24 ?_
        have e1 := okR_k hk0 hk1 (by decide)
        exact q_iret (W1 := wC h ga gb cA n tx T C K L P u ua ub) hx hb hr hlocks hV dX1_append_26 ⟨by unfold aApp; rw [e1, if_pos rfl, if_neg (by omega)], by unfold nApp tApp; rw [e1, if_pos rfl, if_neg (by omega), if_pos rfl, if_neg (by omega)]⟩
    · rw [nI_toInt (n := 108) (by omega)] at c9
      refine lv_ldc (v := -1000001) hx hb hown (hts _ (List.mem_of_getElem? (i := 1) rfl)) dX1_append_12 ?_
      have e1 : okR 97 108 v1 = 0 := okR_no (by omega)
      exact q_iret (W1 := wC h ga gb cA n tx T C K L P u ua ub) hx hb hr hlocks hV dX1_append_14 ⟨by unfold aApp; rw [e1]; rfl, by unfold nApp tApp; rw [e1]; rfl⟩
abbrev rm_X1_clearText : Room := { frames := 0, cells := 0, slots := 0, locals := 0 }
set_option maxHeartbeats 4000000 in
set_option maxRecDepth 100000 in
theorem c_X1_clearText (l : Launch) (D : va_G) (h : Nat → Nat) (ga : Nat) (gb : Nat) (cA : ClassId) (n : Nat) (tx : Nat → Nat) (T : Nat) (C : Nat) (K : Nat) (L : Nat → Nat) (P : Nat → Nat) (u : Nat) (ua : Nat → Nat) (ub : Nat → Nat)    : CTi l D cA yX1_clearText wsX1_clearText rm_X1_clearText [.ref (h 0)] (wC h ga gb cA n tx T C K L P u ua ub) (fun r W1 => r = nI n ∧ W1 = wC h ga gb cA 0 tx T C K L P u ua ub) := by
  refine CTi.mk (cc := cX1_clearText) (maxL := 2) (ret := some .int) (by decide) rfl (Nat.le_of_ble_eq_true rfl) ?_
  intro p e s m below meth c A ls E hV hl
  obtain ⟨hx, hb, hml, hr, hown, hts, hlocks, hK, hA, hN⟩ := E
  have hown : s.vm.findClass RX1 = some m.cls := hown
  have hin1 : ∀ w ∈ wsX10, w ∈ wsX1_clearText := fun _ h => List.mem_cons_of_mem _ (List.mem_append_right _ h)
  have hl : lv_has ls 2 [(0, .ref (h 0))] := hl
  refine lv_aload_n hx hb dX1_clearText_0 rfl (lv_at hl 0 rfl) ?_
  refine q_get (C := RX1) (T := TX1) (N := 12) (ci := 1) (v := .int (nI n)) hx hb hts hin1 hown hK hV 0 rfl rfl 1 (by decide) (List.mem_of_getElem? (i := 1) rfl) rfl dX1_clearText_1 ?_
  refine lv_istore_n (lv' := [(1, .int (nI n)), (0, .ref (h 0))]) hx hb dX1_clearText_4 rfl hl (by decide) rfl (fun ls hl => ?_)
  refine lv_aload_n hx hb dX1_clearText_5 rfl (lv_at hl 1 rfl) ?_
  refine lv_iconst (v := nI 0) hx hb dX1_clearText_6 (by decide) ?_
  refine q_put (C := RX1) (T := TX1) (N := 12) (ci := 1) (v := .int (nI 0)) (wC h ga gb cA 0 tx T C K L P u ua ub) hx hb hts hin1 tyX1 tyX1_ok nmX1 hown hK hV 0 rfl rfl 1 (by decide) (List.mem_of_getElem? (i := 1) rfl) rfl rfl rfl (Nat.le_of_ble_eq_true rfl) rfl dX1_clearText_7 (fun H locs hV => ?_)
  refine lv_iload_n hx hb dX1_clearText_10 rfl (lv_at hl 0 rfl) ?_
  exact q_iret (W1 := wC h ga gb cA 0 tx T C K L P u ua ub) hx hb hr hlocks hV dX1_clearText_11 ⟨rfl, rfl⟩
abbrev rm_X1_pairCount : Room := { frames := 1, cells := 0, slots := 0, locals := 23 }
set_option maxHeartbeats 4000000 in
set_option maxRecDepth 100000 in
theorem c_X1_pairCount (l : Launch) (D : va_G) (h : Nat → Nat) (ga : Nat) (gb : Nat) (cA : ClassId) (n : Nat) (tx : Nat → Nat) (T : Nat) (C : Nat) (K : Nat) (L : Nat → Nat) (P : Nat → Nat) (u : Nat) (ua : Nat → Nat) (ub : Nat → Nat) (v1 : Int32) (v2 : Int32)  (hn : n ≤ 60) (htx : ∀ i, tx i < 12) : CTi l D cA yX1_pairCount wsX1_pairCount rm_X1_pairCount [.ref (h 0), .int v1, .int v2] (wC h ga gb cA n tx T C K L P u ua ub) (fun r W1 => r = aPair n tx v1 v2 ∧ W1 = wC h ga gb cA n tx T C K L P u ua ub) := by
  refine CTi.mk (cc := cX1_pairCount) (maxL := 5) (ret := some .int) (by decide) rfl (Nat.le_of_ble_eq_true rfl) ?_
  intro p e s m below meth c A ls E hV hl
  obtain ⟨hx, hb, hml, hr, hown, hts, hlocks, hK, hA, hN⟩ := E
  have hown : s.vm.findClass RX1 = some m.cls := hown
  have hin1 : ∀ w ∈ wsX10, w ∈ wsX1_pairCount := fun _ h => List.mem_cons_of_mem _ (List.mem_append_right _ h)
  have hl : lv_has ls 5 [(0, .ref (h 0)), (1, .int v1), (2, .int v2)] := hl
  refine lv_iload_n hx hb dX1_pairCount_0 rfl (lv_at hl 1 rfl) ?_
  refine k_S_i (w0 := wC h ga gb cA n tx T C K L P u ua ub) (wc := ([] : va_W)) (As := [.int v1]) (rest := []) hx hb hml hown hts hK hA hN hV hl.1 (c_X1_isNumber l D cA v1  ) gX1_pairCount_X1_isNumber rfl rfl rfl hdX1_isNumber ⟨Nat.le_of_ble_eq_true rfl, Nat.le_of_ble_eq_true rfl⟩ rfl rfl (Nat.le_of_ble_eq_true rfl) dX1_pairCount_1 ⟨Nat.zero_le _, Nat.zero_le _⟩ (fun r W1 H locs hp hV => ?_)
  obtain ⟨hp1, hp2⟩ := hp
  replace hp1 := hp1.symm
  subst hp1
  replace hp2 := hp2.symm
  subst hp2
  have hV : qV D A s.heap (wC h ga gb cA n tx T C K L P u ua ub) H locs := hV
  have f1 := okR_le 0 11 v1
  refine q_if_eq (x := (okR 0 11 v1)) (tgt := 14) hx hb dX1_pairCount_4 (by decide) (by omega) (fun c4 => ?_) (fun c4 => ?_)
  · refine lv_ldc (v := -1000003) hx hb hown (hts _ (List.mem_of_getElem? (i := 1) rfl)) dX1_pairCount_14 ?_
    exact q_iret (W1 := wC h ga gb cA n tx T C K L P u ua ub) hx hb hr hlocks hV dX1_pairCount_16 ⟨(aPair_no (by omega)).symm, rfl⟩
  · obtain ⟨k1, -, hk1, rfl⟩ := okR_1 (by decide) c4
    refine lv_iload_n hx hb dX1_pairCount_7 rfl (lv_at hl 2 rfl) ?_
    refine k_S_i (w0 := wC h ga gb cA n tx T C K L P u ua ub) (wc := ([] : va_W)) (As := [.int v2]) (rest := []) hx hb hml hown hts hK hA hN hV hl.1 (c_X1_isNumber l D cA v2  ) gX1_pairCount_X1_isNumber rfl rfl rfl hdX1_isNumber ⟨Nat.le_of_ble_eq_true rfl, Nat.le_of_ble_eq_true rfl⟩ rfl rfl (Nat.le_of_ble_eq_true rfl) dX1_pairCount_8 ⟨Nat.zero_le _, Nat.zero_le _⟩ (fun r W1 H locs hp hV => ?_)
    obtain ⟨hp1, hp2⟩ := hp
    replace hp1 := hp1.symm
    subst hp1
    replace hp2 := hp2.symm
    subst hp2
    have hV : qV D A s.heap (wC h ga gb cA n tx T C K L P u ua ub) H locs := hV
    have f2 := okR_le 0 11 v2
    refine q_if_ne (x := (okR 0 11 v2)) (tgt := 17) hx hb dX1_pairCount_11 (by decide) (by omega) (fun c11 => ?_) (fun c11 => ?_)
    · obtain ⟨k2, -, hk2, rfl⟩ := okR_1 (by decide) c11
      refine lv_iconst (v := nI 0) hx hb dX1_pairCount_17 (by decide) ?_
      refine lv_istore_n (lv' := [(3, .int (nI 0)), (0, .ref (h 0)), (1, .int (nI k1)), (2, .int (nI k2))]) hx hb dX1_pairCount_18 rfl hl (by decide) rfl (fun ls hl => ?_)
      refine lv_iconst (v := nI 1) hx hb dX1_pairCount_19 (by decide) ?_
      refine lv_istore (lv' := [(4, .int (nI 1)), (3, .int (nI 0)), (0, .ref (h 0)), (1, .int (nI k1)), (2, .int (nI k2))]) hx hb dX1_pairCount_20 hl (by decide) rfl (fun ls hl => ?_)
      have lp22 : ∀ (d22 : Nat) (j : Nat) (H : Heap) (locs : List Loc) (ls : Array Slot), (61 ≤ j + d22) → (j = 0 ∨ j + 1 ≤ n) → qV D A s.heap (wC h ga gb cA n tx T C K L P u ua ub) H locs → lv_has ls 5 [(0, .ref (h 0)), (1, .int (nI k1)), (2, .int (nI k2)), (3, .int (nI (prc tx k1 k2 j))), (4, .int (nI (j + 1)))] → W p l e rm_X1_pairCount s m ([.ref (h 0), .int (nI k1), .int (nI k2)] : List Value).toArray below meth c H locs 0 0 (MQ below (va_Qi (fun r W1 => r = aPair n tx (nI k1) (nI k2) ∧ W1 = wC h ga gb cA n tx T C K L P u ua ub) (cPost D A) A) ([.ref (h 0), .int (nI k1), .int (nI k2)] : List Value).toArray s 0 0 A) (F0 m 22 ls []) := by
        intro d22
        induction d22 with
        | zero => intro j H locs ls hm22 hj hV hl; exfalso; omega
        | succ d22 ih22 =>
          intro j H locs ls hm22 hj hV hl
          have f0 := prc_le tx k1 k2 j
          refine lv_iload hx hb dX1_pairCount_22 (lv_at hl 4 rfl) ?_
          refine lv_aload_n hx hb dX1_pairCount_24 rfl (lv_at hl 0 rfl) ?_
          refine q_get (C := RX1) (T := TX1) (N := 12) (ci := 1) (v := .int (nI n)) hx hb hts hin1 hown hK hV 0 rfl rfl 1 (by decide) (List.mem_of_getElem? (i := 2) rfl) rfl dX1_pairCount_25 ?_
          refine q_icmp_ge (x := j + 1) (y := n) (tgt := 64) hx hb dX1_pairCount_28 (by decide) (by omega) (by omega) (fun c28 => ?_) (fun c28 => ?_)
          · refine lv_iload_n hx hb dX1_pairCount_64 rfl (lv_at hl 3 rfl) ?_
            have ej : j = n - 1 := by omega
            exact q_iret (W1 := wC h ga gb cA n tx T C K L P u ua ub) hx hb hr hlocks hV dX1_pairCount_65 ⟨by rw [aPair_ok hk1 hk2, ej], rfl⟩
          · refine lv_aload_n hx hb dX1_pairCount_31 rfl (lv_at hl 0 rfl) ?_
            refine q_get (C := RX1) (T := TX1) (N := 12) (ci := 1) (v := .ref (h 1)) hx hb hts hin1 hown hK hV 0 rfl rfl 0 (by decide) (List.mem_of_getElem? (i := 3) rfl) rfl dX1_pairCount_32 ?_
            refine lv_iload hx hb dX1_pairCount_35 (lv_at hl 4 rfl) ?_
            refine lv_iconst (v := nI 1) hx hb dX1_pairCount_37 (by decide) ?_
            refine q_isub2 (x := j + 1) (y := 1) (z := j) hx hb (by omega) dX1_pairCount_38 ?_
            refine q_iald (n := 60) (k := j) (f := tx) hx hb hK hV 1 rfl (by omega) (by omega) dX1_pairCount_39 ?_
            have f3 := htx j
            refine lv_aload_n hx hb dX1_pairCount_40 rfl (lv_at hl 0 rfl) ?_
            refine q_get (C := RX1) (T := TX1) (N := 12) (ci := 1) (v := .ref (h 1)) hx hb hts hin1 hown hK hV 0 rfl rfl 0 (by decide) (List.mem_of_getElem? (i := 3) rfl) rfl dX1_pairCount_41 ?_
            refine lv_iload hx hb dX1_pairCount_44 (lv_at hl 4 rfl) ?_
            refine q_iald (n := 60) (k := j + 1) (f := tx) hx hb hK hV 1 rfl (by omega) (by omega) dX1_pairCount_46 ?_
            have f4 := htx (j + 1)
            refine lv_iload_n hx hb dX1_pairCount_47 rfl (lv_at hl 1 rfl) ?_
            refine lv_iload_n hx hb dX1_pairCount_48 rfl (lv_at hl 2 rfl) ?_
            refine k_S_i (w0 := wC h ga gb cA n tx T C K L P u ua ub) (wc := ([] : va_W)) (As := [.int (nI (tx j)), .int (nI (tx (j + 1))), .int (nI k1), .int (nI k2)]) (rest := []) hx hb hml hown hts hK hA hN hV hl.1 (c_X1_isPairOf l D cA (tx j) (tx (j + 1)) k1 k2  (by first | omega | assumption) (by first | omega | assumption) (by first | omega | assumption) (by first | omega | assumption)) gX1_pairCount_X1_isPairOf rfl rfl rfl hdX1_isPairOf ⟨Nat.le_of_ble_eq_true rfl, Nat.le_of_ble_eq_true rfl⟩ rfl rfl (Nat.le_of_ble_eq_true rfl) dX1_pairCount_49 ⟨Nat.zero_le _, Nat.zero_le _⟩ (fun r W1 H locs hp hV => ?_)
            obtain ⟨hp1, hp2⟩ := hp
            replace hp1 := hp1.symm
            subst hp1
            replace hp2 := hp2.symm
            subst hp2
            have hV : qV D A s.heap (wC h ga gb cA n tx T C K L P u ua ub) H locs := hV
            have f5 := ite_le (((tx j) = k1 ∧ (tx (j + 1)) = k2) ∨ ((tx j) = k2 ∧ (tx (j + 1)) = k1))
            refine q_if_eq (x := (if ((tx j) = k1 ∧ (tx (j + 1)) = k2) ∨ ((tx j) = k2 ∧ (tx (j + 1)) = k1) then 1 else 0)) (tgt := 58) hx hb dX1_pairCount_52 (by decide) (by omega) (fun c52 => ?_) (fun c52 => ?_)
            · have c52 := ite0 c52
              refine q_iinc (x := j + 1) (z := j + 2) (lv' := [(4, .int (nI (j + 2))), (0, .ref (h 0)), (1, .int (nI k1)), (2, .int (nI k2)), (3, .int (nI (prc tx k1 k2 j)))]) hx hb dX1_pairCount_58 hl (k := 4) rfl (dd := 1) rfl (by omega) (by decide) rfl (fun ls hl => ?_)
              refine lv_goto (tgt := 22) hx hb dX1_pairCount_61 (by decide) ?_
              have e1 : prc tx k1 k2 (j + 1) = (prc tx k1 k2 j) := by show prc tx k1 k2 j + _ = _; rw [if_neg c52, Nat.add_zero]
              exact ih22  (j + 1) _ _ _ (by omega) (by first | omega | assumption) hV (by rw [e1]; exact lv_sub hl [1, 2, 3, 4, 0] rfl)
            · have c52 := ite1 c52
              refine q_iinc (x := (prc tx k1 k2 j)) (z := (prc tx k1 k2 j) + 1) (lv' := [(3, .int (nI ((prc tx k1 k2 j) + 1))), (0, .ref (h 0)), (1, .int (nI k1)), (2, .int (nI k2)), (4, .int (nI (j + 1)))]) hx hb dX1_pairCount_55 hl (k := 3) rfl (dd := 1) rfl (by omega) (by decide) rfl (fun ls hl => ?_)
              refine q_iinc (x := j + 1) (z := j + 2) (lv' := [(4, .int (nI (j + 2))), (3, .int (nI ((prc tx k1 k2 j) + 1))), (0, .ref (h 0)), (1, .int (nI k1)), (2, .int (nI k2))]) hx hb dX1_pairCount_58 hl (k := 4) rfl (dd := 1) rfl (by omega) (by decide) rfl (fun ls hl => ?_)
              refine lv_goto (tgt := 22) hx hb dX1_pairCount_61 (by decide) ?_
              have e1 : prc tx k1 k2 (j + 1) = (prc tx k1 k2 j) + 1 := by show prc tx k1 k2 j + _ = _; rw [if_pos c52]
              exact ih22  (j + 1) _ _ _ (by omega) (by first | omega | assumption) hV (by rw [e1]; exact lv_sub hl [2, 3, 4, 1, 0] rfl)
      exact lp22 61 0 _ _ _ (by omega) (by first | omega | assumption) hV (lv_sub hl [2, 3, 4, 1, 0] rfl)
    · refine lv_ldc (v := -1000003) hx hb hown (hts _ (List.mem_of_getElem? (i := 1) rfl)) dX1_pairCount_14 ?_
      exact q_iret (W1 := wC h ga gb cA n tx T C K L P u ua ub) hx hb hr hlocks hV dX1_pairCount_16 ⟨(aPair_no (by omega)).symm, rfl⟩
abbrev rm_X1_setTravelTime : Room := { frames := 0, cells := 0, slots := 0, locals := 0 }
set_option maxHeartbeats 4000000 in
set_option maxRecDepth 100000 in
theorem c_X1_setTravelTime (l : Launch) (D : va_G) (h : Nat → Nat) (ga : Nat) (gb : Nat) (cA : ClassId) (n : Nat) (tx : Nat → Nat) (T : Nat) (C : Nat) (K : Nat) (L : Nat → Nat) (P : Nat → Nat) (u : Nat) (ua : Nat → Nat) (ub : Nat → Nat) (v1 : Int32)   : CTi l D cA yX1_setTravelTime wsX1_setTravelTime rm_X1_setTravelTime [.ref (h 0), .int v1] (wC h ga gb cA n tx T C K L P u ua ub) (fun r W1 => r = aSet 1 20 T v1 ∧ W1 = wC h ga gb cA n tx (nSet 1 20 T v1) C K L P u ua ub) := by
  refine CTi.mk (cc := cX1_setTravelTime) (maxL := 3) (ret := some .int) (by decide) rfl (Nat.le_of_ble_eq_true rfl) ?_
  intro p e s m below meth c A ls E hV hl
  obtain ⟨hx, hb, hml, hr, hown, hts, hlocks, hK, hA, hN⟩ := E
  have hown : s.vm.findClass RX1 = some m.cls := hown
  have hin1 : ∀ w ∈ wsX10, w ∈ wsX1_setTravelTime := fun _ h => List.mem_cons_of_mem _ (List.mem_append_right _ h)
  have hl : lv_has ls 3 [(0, .ref (h 0)), (1, .int v1)] := hl
  refine lv_iload_n hx hb dX1_setTravelTime_0 rfl (lv_at hl 1 rfl) ?_
  refine lv_iconst (v := nI 1) hx hb dX1_setTravelTime_1 (by decide) ?_
  refine z_icmp_lt (tgt := 11) hx hb dX1_setTravelTime_2 (by decide) (fun c2 => ?_) (fun c2 => ?_)
  · rw [nI_toInt (n := 1) (by omega)] at c2
    refine lv_ldc (v := -1000003) hx hb hown (hts _ (List.mem_of_getElem? (i := 1) rfl)) dX1_setTravelTime_11 ?_
    have e1 : okR 1 20 v1 = 0 := okR_no (by omega)
    exact q_iret (W1 := wC h ga gb cA n tx T C K L P u ua ub) hx hb hr hlocks hV dX1_setTravelTime_13 ⟨(aSet_no e1).symm, by rw [nSet_no e1]⟩
  · rw [nI_toInt (n := 1) (by omega)] at c2
    refine lv_iload_n hx hb dX1_setTravelTime_5 rfl (lv_at hl 1 rfl) ?_
    refine lv_bipush (v := nI 20) hx hb dX1_setTravelTime_6 (by decide) ?_
    refine z_icmp_le (tgt := 14) hx hb dX1_setTravelTime_8 (by decide) (fun c8 => ?_) (fun c8 => ?_)
    · rw [nI_toInt (n := 20) (by omega)] at c8
      obtain ⟨k1, hk0, hk1, rfl⟩ := okR_g (lo := 1) (hi := 20) (by decide) (by omega) (by omega)
      refine lv_aload_n hx hb dX1_setTravelTime_14 rfl (lv_at hl 0 rfl) ?_
      refine q_get (C := RX1) (T := TX1) (N := 12) (ci := 1) (v := .int (nI T)) hx hb hts hin1 hown hK hV 0 rfl rfl 2 (by decide) (List.mem_of_getElem? (i := 2) rfl) rfl dX1_setTravelTime_15 ?_
      refine lv_istore_n (lv' := [(2, .int (nI T)), (0, .ref (h 0)), (1, .int (nI k1))]) hx hb dX1_setTravelTime_18 rfl hl (by decide) rfl (fun ls hl => ?_)
      refine lv_aload_n hx hb dX1_setTravelTime_19 rfl (lv_at hl 1 rfl) ?_
      refine lv_iload_n hx hb dX1_setTravelTime_20 rfl (lv_at hl 2 rfl) ?_
      refine q_put (C := RX1) (T := TX1) (N := 12) (ci := 1) (v := .int (nI k1)) (wC h ga gb cA n tx k1 C K L P u ua ub) hx hb hts hin1 tyX1 tyX1_ok nmX1 hown hK hV 0 rfl rfl 2 (by decide) (List.mem_of_getElem? (i := 2) rfl) rfl rfl rfl (Nat.le_of_ble_eq_true rfl) rfl dX1_setTravelTime_21 (fun H locs hV => ?_)
      refine lv_iload_n hx hb dX1_setTravelTime_24 rfl (lv_at hl 0 rfl) ?_
      exact q_iret (W1 := wC h ga gb cA n tx k1 C K L P u ua ub) hx hb hr hlocks hV dX1_setTravelTime_25 ⟨(aSet_ok hk0 hk1 (by decide)).symm, by rw [nSet_ok hk0 hk1 (by decide)]⟩
    · rw [nI_toInt (n := 20) (by omega)] at c8
      refine lv_ldc (v := -1000003) hx hb hown (hts _ (List.mem_of_getElem? (i := 1) rfl)) dX1_setTravelTime_11 ?_
      have e1 : okR 1 20 v1 = 0 := okR_no (by omega)
      exact q_iret (W1 := wC h ga gb cA n tx T C K L P u ua ub) hx hb hr hlocks hV dX1_setTravelTime_13 ⟨(aSet_no e1).symm, by rw [nSet_no e1]⟩
abbrev rm_X1_setClashDistance : Room := { frames := 0, cells := 0, slots := 0, locals := 0 }
set_option maxHeartbeats 4000000 in
set_option maxRecDepth 100000 in
theorem c_X1_setClashDistance (l : Launch) (D : va_G) (h : Nat → Nat) (ga : Nat) (gb : Nat) (cA : ClassId) (n : Nat) (tx : Nat → Nat) (T : Nat) (C : Nat) (K : Nat) (L : Nat → Nat) (P : Nat → Nat) (u : Nat) (ua : Nat → Nat) (ub : Nat → Nat) (v1 : Int32)   : CTi l D cA yX1_setClashDistance wsX1_setClashDistance rm_X1_setClashDistance [.ref (h 0), .int v1] (wC h ga gb cA n tx T C K L P u ua ub) (fun r W1 => r = aSet 1 5 C v1 ∧ W1 = wC h ga gb cA n tx T (nSet 1 5 C v1) K L P u ua ub) := by
  refine CTi.mk (cc := cX1_setClashDistance) (maxL := 3) (ret := some .int) (by decide) rfl (Nat.le_of_ble_eq_true rfl) ?_
  intro p e s m below meth c A ls E hV hl
  obtain ⟨hx, hb, hml, hr, hown, hts, hlocks, hK, hA, hN⟩ := E
  have hown : s.vm.findClass RX1 = some m.cls := hown
  have hin1 : ∀ w ∈ wsX10, w ∈ wsX1_setClashDistance := fun _ h => List.mem_cons_of_mem _ (List.mem_append_right _ h)
  have hl : lv_has ls 3 [(0, .ref (h 0)), (1, .int v1)] := hl
  refine lv_iload_n hx hb dX1_setClashDistance_0 rfl (lv_at hl 1 rfl) ?_
  refine lv_iconst (v := nI 1) hx hb dX1_setClashDistance_1 (by decide) ?_
  refine z_icmp_lt (tgt := 10) hx hb dX1_setClashDistance_2 (by decide) (fun c2 => ?_) (fun c2 => ?_)
  · rw [nI_toInt (n := 1) (by omega)] at c2
    refine lv_ldc (v := -1000003) hx hb hown (hts _ (List.mem_of_getElem? (i := 1) rfl)) dX1_setClashDistance_10 ?_
    have e1 : okR 1 5 v1 = 0 := okR_no (by omega)
    exact q_iret (W1 := wC h ga gb cA n tx T C K L P u ua ub) hx hb hr hlocks hV dX1_setClashDistance_12 ⟨(aSet_no e1).symm, by rw [nSet_no e1]⟩
  · rw [nI_toInt (n := 1) (by omega)] at c2
    refine lv_iload_n hx hb dX1_setClashDistance_5 rfl (lv_at hl 1 rfl) ?_
    refine lv_iconst (v := nI 5) hx hb dX1_setClashDistance_6 (by decide) ?_
    refine z_icmp_le (tgt := 13) hx hb dX1_setClashDistance_7 (by decide) (fun c7 => ?_) (fun c7 => ?_)
    · rw [nI_toInt (n := 5) (by omega)] at c7
      obtain ⟨k1, hk0, hk1, rfl⟩ := okR_g (lo := 1) (hi := 5) (by decide) (by omega) (by omega)
      refine lv_aload_n hx hb dX1_setClashDistance_13 rfl (lv_at hl 0 rfl) ?_
      refine q_get (C := RX1) (T := TX1) (N := 12) (ci := 1) (v := .int (nI C)) hx hb hts hin1 hown hK hV 0 rfl rfl 3 (by decide) (List.mem_of_getElem? (i := 2) rfl) rfl dX1_setClashDistance_14 ?_
      refine lv_istore_n (lv' := [(2, .int (nI C)), (0, .ref (h 0)), (1, .int (nI k1))]) hx hb dX1_setClashDistance_17 rfl hl (by decide) rfl (fun ls hl => ?_)
      refine lv_aload_n hx hb dX1_setClashDistance_18 rfl (lv_at hl 1 rfl) ?_
      refine lv_iload_n hx hb dX1_setClashDistance_19 rfl (lv_at hl 2 rfl) ?_
      refine q_put (C := RX1) (T := TX1) (N := 12) (ci := 1) (v := .int (nI k1)) (wC h ga gb cA n tx T k1 K L P u ua ub) hx hb hts hin1 tyX1 tyX1_ok nmX1 hown hK hV 0 rfl rfl 3 (by decide) (List.mem_of_getElem? (i := 2) rfl) rfl rfl rfl (Nat.le_of_ble_eq_true rfl) rfl dX1_setClashDistance_20 (fun H locs hV => ?_)
      refine lv_iload_n hx hb dX1_setClashDistance_23 rfl (lv_at hl 0 rfl) ?_
      exact q_iret (W1 := wC h ga gb cA n tx T k1 K L P u ua ub) hx hb hr hlocks hV dX1_setClashDistance_24 ⟨(aSet_ok hk0 hk1 (by decide)).symm, by rw [nSet_ok hk0 hk1 (by decide)]⟩
    · rw [nI_toInt (n := 5) (by omega)] at c7
      refine lv_ldc (v := -1000003) hx hb hown (hts _ (List.mem_of_getElem? (i := 1) rfl)) dX1_setClashDistance_10 ?_
      have e1 : okR 1 5 v1 = 0 := okR_no (by omega)
      exact q_iret (W1 := wC h ga gb cA n tx T C K L P u ua ub) hx hb hr hlocks hV dX1_setClashDistance_12 ⟨(aSet_no e1).symm, by rw [nSet_no e1]⟩
abbrev rm_X1_setClearingTime : Room := { frames := 0, cells := 0, slots := 0, locals := 0 }
set_option maxHeartbeats 4000000 in
set_option maxRecDepth 100000 in
theorem c_X1_setClearingTime (l : Launch) (D : va_G) (h : Nat → Nat) (ga : Nat) (gb : Nat) (cA : ClassId) (n : Nat) (tx : Nat → Nat) (T : Nat) (C : Nat) (K : Nat) (L : Nat → Nat) (P : Nat → Nat) (u : Nat) (ua : Nat → Nat) (ub : Nat → Nat) (v1 : Int32)   : CTi l D cA yX1_setClearingTime wsX1_setClearingTime rm_X1_setClearingTime [.ref (h 0), .int v1] (wC h ga gb cA n tx T C K L P u ua ub) (fun r W1 => r = aSet 0 50 K v1 ∧ W1 = wC h ga gb cA n tx T C (nSet 0 50 K v1) L P u ua ub) := by
  refine CTi.mk (cc := cX1_setClearingTime) (maxL := 3) (ret := some .int) (by decide) rfl (Nat.le_of_ble_eq_true rfl) ?_
  intro p e s m below meth c A ls E hV hl
  obtain ⟨hx, hb, hml, hr, hown, hts, hlocks, hK, hA, hN⟩ := E
  have hown : s.vm.findClass RX1 = some m.cls := hown
  have hin1 : ∀ w ∈ wsX10, w ∈ wsX1_setClearingTime := fun _ h => List.mem_cons_of_mem _ (List.mem_append_right _ h)
  have hl : lv_has ls 3 [(0, .ref (h 0)), (1, .int v1)] := hl
  refine lv_iload_n hx hb dX1_setClearingTime_0 rfl (lv_at hl 1 rfl) ?_
  refine z_if_lt (tgt := 10) hx hb dX1_setClearingTime_1 (by decide) (fun c1 => ?_) (fun c1 => ?_)
  · refine lv_ldc (v := -1000003) hx hb hown (hts _ (List.mem_of_getElem? (i := 1) rfl)) dX1_setClearingTime_10 ?_
    have e1 : okR 0 50 v1 = 0 := okR_no (by omega)
    exact q_iret (W1 := wC h ga gb cA n tx T C K L P u ua ub) hx hb hr hlocks hV dX1_setClearingTime_12 ⟨(aSet_no e1).symm, by rw [nSet_no e1]⟩
  · refine lv_iload_n hx hb dX1_setClearingTime_4 rfl (lv_at hl 1 rfl) ?_
    refine lv_bipush (v := nI 50) hx hb dX1_setClearingTime_5 (by decide) ?_
    refine z_icmp_le (tgt := 13) hx hb dX1_setClearingTime_7 (by decide) (fun c7 => ?_) (fun c7 => ?_)
    · rw [nI_toInt (n := 50) (by omega)] at c7
      obtain ⟨k1, hk0, hk1, rfl⟩ := okR_g (lo := 0) (hi := 50) (by decide) (by omega) (by omega)
      refine lv_aload_n hx hb dX1_setClearingTime_13 rfl (lv_at hl 0 rfl) ?_
      refine q_get (C := RX1) (T := TX1) (N := 12) (ci := 1) (v := .int (nI K)) hx hb hts hin1 hown hK hV 0 rfl rfl 4 (by decide) (List.mem_of_getElem? (i := 2) rfl) rfl dX1_setClearingTime_14 ?_
      refine lv_istore_n (lv' := [(2, .int (nI K)), (0, .ref (h 0)), (1, .int (nI k1))]) hx hb dX1_setClearingTime_17 rfl hl (by decide) rfl (fun ls hl => ?_)
      refine lv_aload_n hx hb dX1_setClearingTime_18 rfl (lv_at hl 1 rfl) ?_
      refine lv_iload_n hx hb dX1_setClearingTime_19 rfl (lv_at hl 2 rfl) ?_
      refine q_put (C := RX1) (T := TX1) (N := 12) (ci := 1) (v := .int (nI k1)) (wC h ga gb cA n tx T C k1 L P u ua ub) hx hb hts hin1 tyX1 tyX1_ok nmX1 hown hK hV 0 rfl rfl 4 (by decide) (List.mem_of_getElem? (i := 2) rfl) rfl rfl rfl (Nat.le_of_ble_eq_true rfl) rfl dX1_setClearingTime_20 (fun H locs hV => ?_)
      refine lv_iload_n hx hb dX1_setClearingTime_23 rfl (lv_at hl 0 rfl) ?_
      exact q_iret (W1 := wC h ga gb cA n tx T C k1 L P u ua ub) hx hb hr hlocks hV dX1_setClearingTime_24 ⟨(aSet_ok hk0 hk1 (by decide)).symm, by rw [nSet_ok hk0 hk1 (by decide)]⟩
    · rw [nI_toInt (n := 50) (by omega)] at c7
      refine lv_ldc (v := -1000003) hx hb hown (hts _ (List.mem_of_getElem? (i := 1) rfl)) dX1_setClearingTime_10 ?_
      have e1 : okR 0 50 v1 = 0 := okR_no (by omega)
      exact q_iret (W1 := wC h ga gb cA n tx T C K L P u ua ub) hx hb hr hlocks hV dX1_setClearingTime_12 ⟨(aSet_no e1).symm, by rw [nSet_no e1]⟩
abbrev rm_X1_textIsLayout : Room := { frames := 0, cells := 0, slots := 0, locals := 0 }
set_option maxHeartbeats 4000000 in
set_option maxRecDepth 100000 in
theorem c_X1_textIsLayout (l : Launch) (D : va_G) (h : Nat → Nat) (ga : Nat) (gb : Nat) (cA : ClassId) (n : Nat) (tx : Nat → Nat) (T : Nat) (C : Nat) (K : Nat) (L : Nat → Nat) (P : Nat → Nat) (u : Nat) (ua : Nat → Nat) (ub : Nat → Nat)   (hn : n ≤ 60) (htx : ∀ i, tx i < 12) : CTi l D cA yX1_textIsLayout wsX1_textIsLayout rm_X1_textIsLayout [.ref (h 0)] (wC h ga gb cA n tx T C K L P u ua ub) (fun r W1 => r = nI (isLy n tx) ∧ W1 = wC h ga gb cA n tx T C K L P u ua ub) := by
  refine CTi.mk (cc := cX1_textIsLayout) (maxL := 3) (ret := some .boolean) (by decide) rfl (Nat.le_of_ble_eq_true rfl) ?_
  intro p e s m below meth c A ls E hV hl
  obtain ⟨hx, hb, hml, hr, hown, hts, hlocks, hK, hA, hN⟩ := E
  have hown : s.vm.findClass RX1 = some m.cls := hown
  have hin1 : ∀ w ∈ wsX10, w ∈ wsX1_textIsLayout := fun _ h => List.mem_cons_of_mem _ (List.mem_append_right _ h)
  have hl : lv_has ls 3 [(0, .ref (h 0))] := hl
  refine lv_aload_n hx hb dX1_textIsLayout_0 rfl (lv_at hl 0 rfl) ?_
  refine q_get (C := RX1) (T := TX1) (N := 12) (ci := 1) (v := .int (nI n)) hx hb hts hin1 hown hK hV 0 rfl rfl 1 (by decide) (List.mem_of_getElem? (i := 1) rfl) rfl dX1_textIsLayout_1 ?_
  refine lv_bipush (v := nI 12) hx hb dX1_textIsLayout_4 (by decide) ?_
  refine q_icmp_eq (x := n) (y := 12) (tgt := 11) hx hb dX1_textIsLayout_6 (by decide) (by omega) (by omega) (fun c6 => ?_) (fun c6 => ?_)
  · refine lv_iconst (v := nI 0) hx hb dX1_textIsLayout_11 (by decide) ?_
    refine lv_istore_n (lv' := [(1, .int (nI 0)), (0, .ref (h 0))]) hx hb dX1_textIsLayout_12 rfl hl (by decide) rfl (fun ls hl => ?_)
    refine lv_iconst (v := nI 0) hx hb dX1_textIsLayout_13 (by decide) ?_
    refine lv_istore_n (lv' := [(2, .int (nI 0)), (1, .int (nI 0)), (0, .ref (h 0))]) hx hb dX1_textIsLayout_14 rfl hl (by decide) rfl (fun ls hl => ?_)
    have lp15 : ∀ (d15 : Nat) (j : Nat) (H : Heap) (locs : List Loc) (ls : Array Slot), (13 ≤ j + d15) → (j ≤ 12) → qV D A s.heap (wC h ga gb cA n tx T C K L P u ua ub) H locs → lv_has ls 3 [(0, .ref (h 0)), (1, .int (msk tx j)), (2, .int (nI j))] → W p l e rm_X1_textIsLayout s m ([.ref (h 0)] : List Value).toArray below meth c H locs 0 0 (MQ below (va_Qi (fun r W1 => r = nI (isLy n tx) ∧ W1 = wC h ga gb cA n tx T C K L P u ua ub) (cPost D A) A) ([.ref (h 0)] : List Value).toArray s 0 0 A) (F0 m 15 ls []) := by
      intro d15
      induction d15 with
      | zero => intro j H locs ls hm15 hj hV hl; exfalso; omega
      | succ d15 ih15 =>
        intro j H locs ls hm15 hj hV hl
        refine lv_iload_n hx hb dX1_textIsLayout_15 rfl (lv_at hl 2 rfl) ?_
        refine lv_bipush (v := nI 12) hx hb dX1_textIsLayout_16 (by decide) ?_
        refine q_icmp_ge (x := j) (y := 12) (tgt := 38) hx hb dX1_textIsLayout_18 (by decide) (by omega) (by omega) (fun c18 => ?_) (fun c18 => ?_)
        · have ej : j = 12 := by omega
          subst ej
          refine lv_iload_n hx hb dX1_textIsLayout_38 rfl (lv_at hl 1 rfl) ?_
          refine lv_sipush (v := nI 4095) hx hb dX1_textIsLayout_39 (by decide) ?_
          refine z_icmp_ne (tgt := 49) hx hb dX1_textIsLayout_42 (by decide) (fun c42 => ?_) (fun c42 => ?_)
          · refine lv_iconst (v := nI 0) hx hb dX1_textIsLayout_49 (by decide) ?_
            exact q_zret (W1 := wC h ga gb cA n tx T C K L P u ua ub) hx hb hr hlocks hV dX1_textIsLayout_50 (by first | rfl | exact nb01 (by omega)) ⟨by unfold isLy; rw [if_neg (fun q => c42 q.2)], rfl⟩
          · refine lv_iconst (v := nI 1) hx hb dX1_textIsLayout_45 (by decide) ?_
            refine lv_goto (tgt := 50) hx hb dX1_textIsLayout_46 (by decide) ?_
            exact q_zret (W1 := wC h ga gb cA n tx T C K L P u ua ub) hx hb hr hlocks hV dX1_textIsLayout_50 (by first | rfl | exact nb01 (by omega)) ⟨by unfold isLy; rw [if_pos ⟨by omega, c42⟩], rfl⟩
        · refine lv_iload_n hx hb dX1_textIsLayout_21 rfl (lv_at hl 1 rfl) ?_
          refine lv_iconst (v := nI 1) hx hb dX1_textIsLayout_22 (by decide) ?_
          refine lv_aload_n hx hb dX1_textIsLayout_23 rfl (lv_at hl 0 rfl) ?_
          refine q_get (C := RX1) (T := TX1) (N := 12) (ci := 1) (v := .ref (h 1)) hx hb hts hin1 hown hK hV 0 rfl rfl 0 (by decide) (List.mem_of_getElem? (i := 2) rfl) rfl dX1_textIsLayout_24 ?_
          refine lv_iload_n hx hb dX1_textIsLayout_27 rfl (lv_at hl 2 rfl) ?_
          refine q_iald (n := 60) (k := j) (f := tx) hx hb hK hV 1 rfl (by omega) (by omega) dX1_textIsLayout_28 ?_
          have f1 := htx j
          refine lv_ishl hx hb dX1_textIsLayout_29 ?_
          refine lv_ior hx hb dX1_textIsLayout_30 ?_
          refine lv_istore_n (lv' := [(1, .int ((msk tx j) ||| ((nI 1) <<< ((nI (tx j)) &&& 31)))), (0, .ref (h 0)), (2, .int (nI j))]) hx hb dX1_textIsLayout_31 rfl hl (by decide) rfl (fun ls hl => ?_)
          refine q_iinc (x := j) (z := j + 1) (lv' := [(2, .int (nI (j + 1))), (1, .int ((msk tx j) ||| ((nI 1) <<< ((nI (tx j)) &&& 31)))), (0, .ref (h 0))]) hx hb dX1_textIsLayout_32 hl (k := 2) rfl (dd := 1) rfl (by omega) (by decide) rfl (fun ls hl => ?_)
          refine lv_goto (tgt := 15) hx hb dX1_textIsLayout_35 (by decide) ?_
          exact ih15  (j + 1) _ _ _ (by omega) (by first | omega | assumption) hV (lv_sub hl [2, 1, 0] rfl)
    exact lp15 13 0 _ _ _ (by omega) (by first | omega | assumption) hV (lv_sub hl [2, 1, 0] rfl)
  · refine lv_iconst (v := nI 0) hx hb dX1_textIsLayout_9 (by decide) ?_
    exact q_zret (W1 := wC h ga gb cA n tx T C K L P u ua ub) hx hb hr hlocks hV dX1_textIsLayout_10 (by first | rfl | exact nb01 (by omega)) ⟨by unfold isLy; rw [if_neg (by omega)], rfl⟩
abbrev rm_X1_place : Room := { frames := 0, cells := 0, slots := 0, locals := 0 }
set_option maxHeartbeats 4000000 in
set_option maxRecDepth 100000 in
theorem c_X1_place (l : Launch) (D : va_G) (h : Nat → Nat) (ga : Nat) (gb : Nat) (cA : ClassId) (n : Nat) (tx : Nat → Nat) (T : Nat) (C : Nat) (K : Nat) (L : Nat → Nat) (P : Nat → Nat) (u : Nat) (ua : Nat → Nat) (ub : Nat → Nat) (a : Nat) (b : Nat)  (h_a : a < 12) (h_b : b < 12) : CTv l D cA yX1_place wsX1_place rm_X1_place [.ref (h 0), .int (nI a), .int (nI b)] (wC h ga gb cA n tx T C K L P u ua ub) (fun W1 => W1 = wC h ga gb cA n tx T C K (up L b a) (up P a b) u ua ub) := by
  refine CTv.mk (cc := cX1_place) (maxL := 3) (ret := none) (by decide) rfl (Nat.le_of_ble_eq_true rfl) ?_
  intro p e s m below meth c A ls E hV hl
  obtain ⟨hx, hb, hml, hr, hown, hts, hlocks, hK, hA, hN⟩ := E
  have hown : s.vm.findClass RX1 = some m.cls := hown
  have hin1 : ∀ w ∈ wsX10, w ∈ wsX1_place := fun _ h => List.mem_cons_of_mem _ (List.mem_append_right _ h)
  have hl : lv_has ls 3 [(0, .ref (h 0)), (1, .int (nI a)), (2, .int (nI b))] := hl
  refine lv_aload_n hx hb dX1_place_0 rfl (lv_at hl 0 rfl) ?_
  refine q_get (C := RX1) (T := TX1) (N := 12) (ci := 1) (v := .ref (h 2)) hx hb hts hin1 hown hK hV 0 rfl rfl 5 (by decide) (List.mem_of_getElem? (i := 1) rfl) rfl dX1_place_1 ?_
  refine lv_iload_n hx hb dX1_place_4 rfl (lv_at hl 2 rfl) ?_
  refine lv_iload_n hx hb dX1_place_5 rfl (lv_at hl 1 rfl) ?_
  refine q_iast (n := 12) (k := b) (v := a) (f := L) (wC h ga gb cA n tx T C K (up L b a) P u ua ub) hx hb hK hV 2 rfl (by omega) (by decide) rfl dX1_place_6 (fun H locs hV => ?_)
  refine lv_aload_n hx hb dX1_place_7 rfl (lv_at hl 0 rfl) ?_
  refine q_get (C := RX1) (T := TX1) (N := 12) (ci := 1) (v := .ref (h 3)) hx hb hts hin1 hown hK hV 0 rfl rfl 6 (by decide) (List.mem_of_getElem? (i := 2) rfl) rfl dX1_place_8 ?_
  refine lv_iload_n hx hb dX1_place_11 rfl (lv_at hl 1 rfl) ?_
  refine lv_iload_n hx hb dX1_place_12 rfl (lv_at hl 2 rfl) ?_
  refine q_iast (n := 12) (k := a) (v := b) (f := P) (wC h ga gb cA n tx T C K (up L b a) (up P a b) u ua ub) hx hb hK hV 3 rfl (by omega) (by decide) rfl dX1_place_13 (fun H locs hV => ?_)
  exact q_vret (W1 := wC h ga gb cA n tx T C K (up L b a) (up P a b) u ua ub) hx hb hr hlocks hV dX1_place_14 rfl
abbrev rm_X1_exchange : Room := { frames := 1, cells := 0, slots := 0, locals := 22 }
set_option maxHeartbeats 4000000 in
set_option maxRecDepth 100000 in
theorem c_X1_exchange (l : Launch) (D : va_G) (h : Nat → Nat) (ga : Nat) (gb : Nat) (cA : ClassId) (n : Nat) (tx : Nat → Nat) (T : Nat) (C : Nat) (K : Nat) (L : Nat → Nat) (P : Nat → Nat) (u : Nat) (ua : Nat → Nat) (ub : Nat → Nat) (a : Nat) (b : Nat)  (h_a : a < 12) (h_b : b < 12) (hp : perm L P) : CTv l D cA yX1_exchange wsX1_exchange rm_X1_exchange [.ref (h 0), .int (nI a), .int (nI b)] (wC h ga gb cA n tx T C K L P u ua ub) (fun W1 => W1 = wC h ga gb cA n tx T C K (exL L a b) (exP L P a b) u ua ub) := by
  refine CTv.mk (cc := cX1_exchange) (maxL := 4) (ret := none) (by decide) rfl (Nat.le_of_ble_eq_true rfl) ?_
  intro p e s m below meth c A ls E hV hl
  obtain ⟨hx, hb, hml, hr, hown, hts, hlocks, hK, hA, hN⟩ := E
  have hown : s.vm.findClass RX1 = some m.cls := hown
  have hin1 : ∀ w ∈ wsX10, w ∈ wsX1_exchange := fun _ h => List.mem_cons_of_mem _ (List.mem_append_right _ h)
  have hl : lv_has ls 4 [(0, .ref (h 0)), (1, .int (nI a)), (2, .int (nI b))] := hl
  refine lv_aload_n hx hb dX1_exchange_0 rfl (lv_at hl 0 rfl) ?_
  refine q_get (C := RX1) (T := TX1) (N := 12) (ci := 1) (v := .ref (h 2)) hx hb hts hin1 hown hK hV 0 rfl rfl 5 (by decide) (List.mem_of_getElem? (i := 1) rfl) rfl dX1_exchange_1 ?_
  refine lv_iload_n hx hb dX1_exchange_4 rfl (lv_at hl 1 rfl) ?_
  refine q_iald (n := 12) (k := a) (f := L) hx hb hK hV 2 rfl (by omega) (by omega) dX1_exchange_5 ?_
  have f1 := hp.L (i := a) (by omega)
  refine lv_istore_n (lv' := [(3, .int (nI (L a))), (0, .ref (h 0)), (1, .int (nI a)), (2, .int (nI b))]) hx hb dX1_exchange_6 rfl hl (by decide) rfl (fun ls hl => ?_)
  refine lv_aload_n hx hb dX1_exchange_7 rfl (lv_at hl 1 rfl) ?_
  refine lv_aload_n hx hb dX1_exchange_8 rfl (lv_at hl 1 rfl) ?_
  refine q_get (C := RX1) (T := TX1) (N := 12) (ci := 1) (v := .ref (h 2)) hx hb hts hin1 hown hK hV 0 rfl rfl 5 (by decide) (List.mem_of_getElem? (i := 1) rfl) rfl dX1_exchange_9 ?_
  refine lv_iload_n hx hb dX1_exchange_12 rfl (lv_at hl 3 rfl) ?_
  refine q_iald (n := 12) (k := b) (f := L) hx hb hK hV 2 rfl (by omega) (by omega) dX1_exchange_13 ?_
  have f2 := hp.L (i := b) (by omega)
  refine lv_iload_n hx hb dX1_exchange_14 rfl (lv_at hl 2 rfl) ?_
  refine k_V_v (w0 := ([] : va_W)) (wc := wC h ga gb cA n tx T C K L P u ua ub) (b := h 0) (As := [.int (nI (L b)), .int (nI a)]) (rest := []) hx hb hml hown hts hK hA hN hV hl.1 (c_X1_place l D h ga gb cA n tx T C K L P u ua ub (L b) a  (by first | omega | assumption) (by first | omega | assumption)) gX1_exchange_X1_place rfl rfl rfl hdX1_place ⟨Nat.le_of_ble_eq_true rfl, Nat.le_of_ble_eq_true rfl⟩ 0 1 rfl rfl rfl rfl rfl (Nat.le_of_ble_eq_true rfl) dX1_exchange_15 ⟨Nat.zero_le _, Nat.zero_le _⟩ (fun W1 H locs hp hV => ?_)
  subst hp
  have hV : qV D A s.heap (wC h ga gb cA n tx T C K (up L a (L b)) (up P (L b) a) u ua ub) H locs := hV
  refine lv_aload_n hx hb dX1_exchange_18 rfl (lv_at hl 1 rfl) ?_
  refine lv_iload_n hx hb dX1_exchange_19 rfl (lv_at hl 0 rfl) ?_
  refine lv_iload_n hx hb dX1_exchange_20 rfl (lv_at hl 3 rfl) ?_
  refine k_V_v (w0 := ([] : va_W)) (wc := wC h ga gb cA n tx T C K (up L a (L b)) (up P (L b) a) u ua ub) (b := h 0) (As := [.int (nI (L a)), .int (nI b)]) (rest := []) hx hb hml hown hts hK hA hN hV hl.1 (c_X1_place l D h ga gb cA n tx T C K (up L a (L b)) (up P (L b) a) u ua ub (L a) b  (by first | omega | assumption) (by first | omega | assumption)) gX1_exchange_X1_place rfl rfl rfl hdX1_place ⟨Nat.le_of_ble_eq_true rfl, Nat.le_of_ble_eq_true rfl⟩ 0 1 rfl rfl rfl rfl rfl (Nat.le_of_ble_eq_true rfl) dX1_exchange_21 ⟨Nat.zero_le _, Nat.zero_le _⟩ (fun W1 H locs hp hV => ?_)
  subst hp
  have hV : qV D A s.heap (wC h ga gb cA n tx T C K (up (up L a (L b)) b (L a)) (up (up P (L b) a) (L a) b) u ua ub) H locs := hV
  exact q_vret (W1 := wC h ga gb cA n tx T C K (up (up L a (L b)) b (L a)) (up (up P (L b) a) (L a) b) u ua ub) hx hb hr hlocks hV dX1_exchange_24 rfl
abbrev rm_X1_loadLayout : Room := { frames := 1, cells := 0, slots := 0, locals := 22 }
set_option maxHeartbeats 4000000 in
set_option maxRecDepth 100000 in
theorem c_X1_loadLayout (l : Launch) (D : va_G) (h : Nat → Nat) (ga : Nat) (gb : Nat) (cA : ClassId) (n : Nat) (tx : Nat → Nat) (T : Nat) (C : Nat) (K : Nat) (L : Nat → Nat) (P : Nat → Nat) (u : Nat) (ua : Nat → Nat) (ub : Nat → Nat)   (hn : n ≤ 60) (htx : ∀ i, tx i < 12) : CTi l D cA yX1_loadLayout wsX1_loadLayout rm_X1_loadLayout [.ref (h 0)] (wC h ga gb cA n tx T C K L P u ua ub) (fun r W1 => r = aLd n tx ∧ W1 = wC h ga gb cA (nLd n tx) tx T C K ((yLd n tx (L, P, u, ua, ub)).1) ((yLd n tx (L, P, u, ua, ub)).2.1) ((yLd n tx (L, P, u, ua, ub)).2.2.1) ((yLd n tx (L, P, u, ua, ub)).2.2.2.1) ((yLd n tx (L, P, u, ua, ub)).2.2.2.2)) := by
  refine CTi.mk (cc := cX1_loadLayout) (maxL := 2) (ret := some .int) (by decide) rfl (Nat.le_of_ble_eq_true rfl) ?_
  intro p e s m below meth c A ls E hV hl
  obtain ⟨hx, hb, hml, hr, hown, hts, hlocks, hK, hA, hN⟩ := E
  have hown : s.vm.findClass RX1 = some m.cls := hown
  have hin1 : ∀ w ∈ wsX10, w ∈ wsX1_loadLayout := fun _ h => List.mem_cons_of_mem _ (List.mem_append_right _ h)
  have hl : lv_has ls 2 [(0, .ref (h 0))] := hl
  refine lv_aload_n hx hb dX1_loadLayout_0 rfl (lv_at hl 0 rfl) ?_
  refine k_V_i (w0 := ([] : va_W)) (wc := wC h ga gb cA n tx T C K L P u ua ub) (b := h 0) (As := []) (rest := []) hx hb hml hown hts hK hA hN hV hl.1 (c_X1_textIsLayout l D h ga gb cA n tx T C K L P u ua ub   (by first | omega | assumption) (by first | omega | assumption)) gX1_loadLayout_X1_textIsLayout rfl rfl rfl hdX1_textIsLayout ⟨Nat.le_of_ble_eq_true rfl, Nat.le_of_ble_eq_true rfl⟩ 0 1 rfl rfl rfl rfl rfl (Nat.le_of_ble_eq_true rfl) dX1_loadLayout_1 ⟨Nat.zero_le _, Nat.zero_le _⟩ (fun r W1 H locs hp hV => ?_)
  obtain ⟨hp1, hp2⟩ := hp
  replace hp1 := hp1.symm
  subst hp1
  replace hp2 := hp2.symm
  subst hp2
  have hV : qV D A s.heap (wC h ga gb cA n tx T C K L P u ua ub) H locs := hV
  have f1 := isLy_le n tx
  refine q_if_ne (x := (isLy n tx)) (tgt := 10) hx hb dX1_loadLayout_4 (by decide) (by omega) (fun c4 => ?_) (fun c4 => ?_)
  · refine lv_iconst (v := nI 0) hx hb dX1_loadLayout_10 (by decide) ?_
    refine lv_istore_n (lv' := [(1, .int (nI 0)), (0, .ref (h 0))]) hx hb dX1_loadLayout_11 rfl hl (by decide) rfl (fun ls hl => ?_)
    have lp12 : ∀ (d12 : Nat) (j : Nat) (H : Heap) (locs : List Loc) (ls : Array Slot), (13 ≤ j + d12) → (j ≤ 12) → qV D A s.heap (wC h ga gb cA n tx T C K (ldL L tx j) (ldP P tx j) u ua ub) H locs → lv_has ls 2 [(0, .ref (h 0)), (1, .int (nI j))] → W p l e rm_X1_loadLayout s m ([.ref (h 0)] : List Value).toArray below meth c H locs 0 0 (MQ below (va_Qi (fun r W1 => r = aLd n tx ∧ W1 = wC h ga gb cA (nLd n tx) tx T C K ((yLd n tx (L, P, u, ua, ub)).1) ((yLd n tx (L, P, u, ua, ub)).2.1) ((yLd n tx (L, P, u, ua, ub)).2.2.1) ((yLd n tx (L, P, u, ua, ub)).2.2.2.1) ((yLd n tx (L, P, u, ua, ub)).2.2.2.2)) (cPost D A) A) ([.ref (h 0)] : List Value).toArray s 0 0 A) (F0 m 12 ls []) := by
      intro d12
      induction d12 with
      | zero => intro j H locs ls hm12 hj hV hl; exfalso; omega
      | succ d12 ih12 =>
        intro j H locs ls hm12 hj hV hl
        refine lv_iload_n hx hb dX1_loadLayout_12 rfl (lv_at hl 1 rfl) ?_
        refine lv_bipush (v := nI 12) hx hb dX1_loadLayout_13 (by decide) ?_
        refine q_icmp_ge (x := j) (y := 12) (tgt := 35) hx hb dX1_loadLayout_15 (by decide) (by omega) (by omega) (fun c15 => ?_) (fun c15 => ?_)
        · have ej : j = 12 := by omega
          subst ej
          refine lv_aload_n hx hb dX1_loadLayout_35 rfl (lv_at hl 0 rfl) ?_
          refine lv_iconst (v := nI 0) hx hb dX1_loadLayout_36 (by decide) ?_
          refine q_put (C := RX1) (T := TX1) (N := 12) (ci := 1) (v := .int (nI 0)) (wC h ga gb cA 0 tx T C K (ldL L tx 12) (ldP P tx 12) u ua ub) hx hb hts hin1 tyX1 tyX1_ok nmX1 hown hK hV 0 rfl rfl 1 (by decide) (List.mem_of_getElem? (i := 3) rfl) rfl rfl rfl (Nat.le_of_ble_eq_true rfl) rfl dX1_loadLayout_37 (fun H locs hV => ?_)
          refine lv_aload_n hx hb dX1_loadLayout_40 rfl (lv_at hl 0 rfl) ?_
          refine lv_iconst (v := nI 0) hx hb dX1_loadLayout_41 (by decide) ?_
          refine q_put (C := RX1) (T := TX1) (N := 12) (ci := 1) (v := .int (nI 0)) (wC h ga gb cA 0 tx T C K (ldL L tx 12) (ldP P tx 12) 0 ua ub) hx hb hts hin1 tyX1 tyX1_ok nmX1 hown hK hV 0 rfl rfl 9 (by decide) (List.mem_of_getElem? (i := 4) rfl) rfl rfl rfl (Nat.le_of_ble_eq_true rfl) rfl dX1_loadLayout_42 (fun H locs hV => ?_)
          refine lv_bipush (v := nI 12) hx hb dX1_loadLayout_45 (by decide) ?_
          have e1 : isLy n tx = 1 := by omega
          exact q_iret (W1 := wC h ga gb cA 0 tx T C K (ldL L tx 12) (ldP P tx 12) 0 ua ub) hx hb hr hlocks hV dX1_loadLayout_47 ⟨by unfold aLd; rw [if_pos e1], by unfold nLd yLd; rw [if_pos e1, if_pos e1]⟩
        · refine lv_aload_n hx hb dX1_loadLayout_18 rfl (lv_at hl 0 rfl) ?_
          refine lv_aload_n hx hb dX1_loadLayout_19 rfl (lv_at hl 0 rfl) ?_
          refine q_get (C := RX1) (T := TX1) (N := 12) (ci := 1) (v := .ref (h 1)) hx hb hts hin1 hown hK hV 0 rfl rfl 0 (by decide) (List.mem_of_getElem? (i := 2) rfl) rfl dX1_loadLayout_20 ?_
          refine lv_iload_n hx hb dX1_loadLayout_23 rfl (lv_at hl 1 rfl) ?_
          refine q_iald (n := 60) (k := j) (f := tx) hx hb hK hV 1 rfl (by omega) (by omega) dX1_loadLayout_24 ?_
          have f2 := htx j
          refine lv_iload_n hx hb dX1_loadLayout_25 rfl (lv_at hl 1 rfl) ?_
          refine k_V_v (w0 := ([] : va_W)) (wc := wC h ga gb cA n tx T C K (ldL L tx j) (ldP P tx j) u ua ub) (b := h 0) (As := [.int (nI (tx j)), .int (nI j)]) (rest := []) hx hb hml hown hts hK hA hN hV hl.1 (c_X1_place l D h ga gb cA n tx T C K (ldL L tx j) (ldP P tx j) u ua ub (tx j) j  (by first | omega | assumption) (by first | omega | assumption)) gX1_loadLayout_X1_place rfl rfl rfl hdX1_place ⟨Nat.le_of_ble_eq_true rfl, Nat.le_of_ble_eq_true rfl⟩ 0 1 rfl rfl rfl rfl rfl (Nat.le_of_ble_eq_true rfl) dX1_loadLayout_26 ⟨Nat.zero_le _, Nat.zero_le _⟩ (fun W1 H locs hp hV => ?_)
          subst hp
          have hV : qV D A s.heap (wC h ga gb cA n tx T C K (up (ldL L tx j) j (tx j)) (up (ldP P tx j) (tx j) j) u ua ub) H locs := hV
          refine q_iinc (x := j) (z := j + 1) (lv' := [(1, .int (nI (j + 1))), (0, .ref (h 0))]) hx hb dX1_loadLayout_29 hl (k := 1) rfl (dd := 1) rfl (by omega) (by decide) rfl (fun ls hl => ?_)
          refine lv_goto (tgt := 12) hx hb dX1_loadLayout_32 (by decide) ?_
          exact ih12  (j + 1) _ _ _ (by omega) (by first | omega | assumption) hV (lv_sub hl [1, 0] rfl)
    exact lp12 13 0 _ _ _ (by omega) (by first | omega | assumption) hV (lv_sub hl [1, 0] rfl)
  · refine lv_ldc (v := -1000004) hx hb hown (hts _ (List.mem_of_getElem? (i := 1) rfl)) dX1_loadLayout_7 ?_
    have e1 : ¬ isLy n tx = 1 := by omega
    exact q_iret (W1 := wC h ga gb cA n tx T C K L P u ua ub) hx hb hr hlocks hV dX1_loadLayout_9 ⟨by unfold aLd; rw [if_neg e1], by unfold nLd yLd; rw [if_neg e1, if_neg e1]⟩
abbrev rm_X1_letterAt : Room := { frames := 1, cells := 0, slots := 0, locals := 20 }
set_option maxHeartbeats 4000000 in
set_option maxRecDepth 100000 in
theorem c_X1_letterAt (l : Launch) (D : va_G) (h : Nat → Nat) (ga : Nat) (gb : Nat) (cA : ClassId) (n : Nat) (tx : Nat → Nat) (T : Nat) (C : Nat) (K : Nat) (L : Nat → Nat) (P : Nat → Nat) (u : Nat) (ua : Nat → Nat) (ub : Nat → Nat) (v1 : Int32)   : CTi l D cA yX1_letterAt wsX1_letterAt rm_X1_letterAt [.ref (h 0), .int v1] (wC h ga gb cA n tx T C K L P u ua ub) (fun r W1 => r = aAt L v1 ∧ W1 = wC h ga gb cA n tx T C K L P u ua ub) := by
  refine CTi.mk (cc := cX1_letterAt) (maxL := 2) (ret := some .int) (by decide) rfl (Nat.le_of_ble_eq_true rfl) ?_
  intro p e s m below meth c A ls E hV hl
  obtain ⟨hx, hb, hml, hr, hown, hts, hlocks, hK, hA, hN⟩ := E
  have hown : s.vm.findClass RX1 = some m.cls := hown
  have hin1 : ∀ w ∈ wsX10, w ∈ wsX1_letterAt := fun _ h => List.mem_cons_of_mem _ (List.mem_append_right _ h)
  have hl : lv_has ls 2 [(0, .ref (h 0)), (1, .int v1)] := hl
  refine lv_iload_n hx hb dX1_letterAt_0 rfl (lv_at hl 1 rfl) ?_
  refine k_S_i (w0 := wC h ga gb cA n tx T C K L P u ua ub) (wc := ([] : va_W)) (As := [.int v1]) (rest := []) hx hb hml hown hts hK hA hN hV hl.1 (c_X1_isNumber l D cA v1  ) gX1_letterAt_X1_isNumber rfl rfl rfl hdX1_isNumber ⟨Nat.le_of_ble_eq_true rfl, Nat.le_of_ble_eq_true rfl⟩ rfl rfl (Nat.le_of_ble_eq_true rfl) dX1_letterAt_1 ⟨Nat.zero_le _, Nat.zero_le _⟩ (fun r W1 H locs hp hV => ?_)
  obtain ⟨hp1, hp2⟩ := hp
  replace hp1 := hp1.symm
  subst hp1
  replace hp2 := hp2.symm
  subst hp2
  have hV : qV D A s.heap (wC h ga gb cA n tx T C K L P u ua ub) H locs := hV
  have f1 := okR_le 0 11 v1
  refine q_if_eq (x := (okR 0 11 v1)) (tgt := 16) hx hb dX1_letterAt_4 (by decide) (by omega) (fun c4 => ?_) (fun c4 => ?_)
  · refine lv_ldc (v := -1000003) hx hb hown (hts _ (List.mem_of_getElem? (i := 2) rfl)) dX1_letterAt_16 ?_
    exact q_iret (W1 := wC h ga gb cA n tx T C K L P u ua ub) hx hb hr hlocks hV dX1_letterAt_18 ⟨by first | exact (aAt_ok hk1).symm | exact (aAt_no c4).symm, rfl⟩
  · obtain ⟨k1, -, hk1, rfl⟩ := okR_1 (by decide) c4
    refine lv_aload_n hx hb dX1_letterAt_7 rfl (lv_at hl 0 rfl) ?_
    refine q_get (C := RX1) (T := TX1) (N := 12) (ci := 1) (v := .ref (h 2)) hx hb hts hin1 hown hK hV 0 rfl rfl 5 (by decide) (List.mem_of_getElem? (i := 1) rfl) rfl dX1_letterAt_8 ?_
    refine lv_iload_n hx hb dX1_letterAt_11 rfl (lv_at hl 1 rfl) ?_
    refine q_iald (n := 12) (k := k1) (f := L) hx hb hK hV 2 rfl (by omega) (by omega) dX1_letterAt_12 ?_
    refine lv_goto (tgt := 18) hx hb dX1_letterAt_13 (by decide) ?_
    exact q_iret (W1 := wC h ga gb cA n tx T C K L P u ua ub) hx hb hr hlocks hV dX1_letterAt_18 ⟨by first | exact (aAt_ok hk1).symm | exact (aAt_no c4).symm, rfl⟩
abbrev rm_X1_positionOf : Room := { frames := 1, cells := 0, slots := 0, locals := 20 }
set_option maxHeartbeats 4000000 in
set_option maxRecDepth 100000 in
theorem c_X1_positionOf (l : Launch) (D : va_G) (h : Nat → Nat) (ga : Nat) (gb : Nat) (cA : ClassId) (n : Nat) (tx : Nat → Nat) (T : Nat) (C : Nat) (K : Nat) (L : Nat → Nat) (P : Nat → Nat) (u : Nat) (ua : Nat → Nat) (ub : Nat → Nat) (v1 : Int32)   : CTi l D cA yX1_positionOf wsX1_positionOf rm_X1_positionOf [.ref (h 0), .int v1] (wC h ga gb cA n tx T C K L P u ua ub) (fun r W1 => r = aAt P v1 ∧ W1 = wC h ga gb cA n tx T C K L P u ua ub) := by
  refine CTi.mk (cc := cX1_positionOf) (maxL := 2) (ret := some .int) (by decide) rfl (Nat.le_of_ble_eq_true rfl) ?_
  intro p e s m below meth c A ls E hV hl
  obtain ⟨hx, hb, hml, hr, hown, hts, hlocks, hK, hA, hN⟩ := E
  have hown : s.vm.findClass RX1 = some m.cls := hown
  have hin1 : ∀ w ∈ wsX10, w ∈ wsX1_positionOf := fun _ h => List.mem_cons_of_mem _ (List.mem_append_right _ h)
  have hl : lv_has ls 2 [(0, .ref (h 0)), (1, .int v1)] := hl
  refine lv_iload_n hx hb dX1_positionOf_0 rfl (lv_at hl 1 rfl) ?_
  refine k_S_i (w0 := wC h ga gb cA n tx T C K L P u ua ub) (wc := ([] : va_W)) (As := [.int v1]) (rest := []) hx hb hml hown hts hK hA hN hV hl.1 (c_X1_isNumber l D cA v1  ) gX1_positionOf_X1_isNumber rfl rfl rfl hdX1_isNumber ⟨Nat.le_of_ble_eq_true rfl, Nat.le_of_ble_eq_true rfl⟩ rfl rfl (Nat.le_of_ble_eq_true rfl) dX1_positionOf_1 ⟨Nat.zero_le _, Nat.zero_le _⟩ (fun r W1 H locs hp hV => ?_)
  obtain ⟨hp1, hp2⟩ := hp
  replace hp1 := hp1.symm
  subst hp1
  replace hp2 := hp2.symm
  subst hp2
  have hV : qV D A s.heap (wC h ga gb cA n tx T C K L P u ua ub) H locs := hV
  have f1 := okR_le 0 11 v1
  refine q_if_eq (x := (okR 0 11 v1)) (tgt := 16) hx hb dX1_positionOf_4 (by decide) (by omega) (fun c4 => ?_) (fun c4 => ?_)
  · refine lv_ldc (v := -1000003) hx hb hown (hts _ (List.mem_of_getElem? (i := 2) rfl)) dX1_positionOf_16 ?_
    exact q_iret (W1 := wC h ga gb cA n tx T C K L P u ua ub) hx hb hr hlocks hV dX1_positionOf_18 ⟨by first | exact (aAt_ok hk1).symm | exact (aAt_no c4).symm, rfl⟩
  · obtain ⟨k1, -, hk1, rfl⟩ := okR_1 (by decide) c4
    refine lv_aload_n hx hb dX1_positionOf_7 rfl (lv_at hl 0 rfl) ?_
    refine q_get (C := RX1) (T := TX1) (N := 12) (ci := 1) (v := .ref (h 3)) hx hb hts hin1 hown hK hV 0 rfl rfl 6 (by decide) (List.mem_of_getElem? (i := 1) rfl) rfl dX1_positionOf_8 ?_
    refine lv_iload_n hx hb dX1_positionOf_11 rfl (lv_at hl 1 rfl) ?_
    refine q_iald (n := 12) (k := k1) (f := P) hx hb hK hV 3 rfl (by omega) (by omega) dX1_positionOf_12 ?_
    refine lv_goto (tgt := 18) hx hb dX1_positionOf_13 (by decide) ?_
    exact q_iret (W1 := wC h ga gb cA n tx T C K L P u ua ub) hx hb hr hlocks hV dX1_positionOf_18 ⟨by first | exact (aAt_ok hk1).symm | exact (aAt_no c4).symm, rfl⟩
abbrev rm_X1_forgetOldestSwap : Room := { frames := 0, cells := 0, slots := 0, locals := 0 }
set_option maxHeartbeats 4000000 in
set_option maxRecDepth 100000 in
theorem c_X1_forgetOldestSwap (l : Launch) (D : va_G) (h : Nat → Nat) (ga : Nat) (gb : Nat) (cA : ClassId) (n : Nat) (tx : Nat → Nat) (T : Nat) (C : Nat) (K : Nat) (L : Nat → Nat) (P : Nat → Nat) (u : Nat) (ua : Nat → Nat) (ub : Nat → Nat)    : CTv l D cA yX1_forgetOldestSwap wsX1_forgetOldestSwap rm_X1_forgetOldestSwap [.ref (h 0)] (wC h ga gb cA n tx T C K L P u ua ub) (fun W1 => W1 = wC h ga gb cA n tx T C K L P 29 (shf ua 29) (shf ub 29)) := by
  refine CTv.mk (cc := cX1_forgetOldestSwap) (maxL := 2) (ret := none) (by decide) rfl (Nat.le_of_ble_eq_true rfl) ?_
  intro p e s m below meth c A ls E hV hl
  obtain ⟨hx, hb, hml, hr, hown, hts, hlocks, hK, hA, hN⟩ := E
  have hown : s.vm.findClass RX1 = some m.cls := hown
  have hin1 : ∀ w ∈ wsX10, w ∈ wsX1_forgetOldestSwap := fun _ h => List.mem_cons_of_mem _ (List.mem_append_right _ h)
  have hl : lv_has ls 2 [(0, .ref (h 0))] := hl
  refine lv_iconst (v := nI 1) hx hb dX1_forgetOldestSwap_0 (by decide) ?_
  refine lv_istore_n (lv' := [(1, .int (nI 1)), (0, .ref (h 0))]) hx hb dX1_forgetOldestSwap_1 rfl hl (by decide) rfl (fun ls hl => ?_)
  have lp2 : ∀ (d2 : Nat) (j : Nat) (H : Heap) (locs : List Loc) (ls : Array Slot), (30 ≤ j + d2) → (j ≤ 29) → qV D A s.heap (wC h ga gb cA n tx T C K L P u (shf ua j) (shf ub j)) H locs → lv_has ls 2 [(0, .ref (h 0)), (1, .int (nI (j + 1)))] → W p l e rm_X1_forgetOldestSwap s m ([.ref (h 0)] : List Value).toArray below meth c H locs 0 0 (MQ below (va_Qv (fun W1 => W1 = wC h ga gb cA n tx T C K L P 29 (shf ua 29) (shf ub 29)) (cPost D A) A) ([.ref (h 0)] : List Value).toArray s 0 0 A) (F0 m 2 ls []) := by
    intro d2
    induction d2 with
    | zero => intro j H locs ls hm2 hj hV hl; exfalso; omega
    | succ d2 ih2 =>
      intro j H locs ls hm2 hj hV hl
      refine lv_iload_n hx hb dX1_forgetOldestSwap_2 rfl (lv_at hl 1 rfl) ?_
      refine lv_bipush (v := nI 30) hx hb dX1_forgetOldestSwap_3 (by decide) ?_
      refine q_icmp_ge (x := j + 1) (y := 30) (tgt := 42) hx hb dX1_forgetOldestSwap_5 (by decide) (by omega) (by omega) (fun c5 => ?_) (fun c5 => ?_)
      · refine lv_aload_n hx hb dX1_forgetOldestSwap_42 rfl (lv_at hl 0 rfl) ?_
        refine lv_bipush (v := nI 29) hx hb dX1_forgetOldestSwap_43 (by decide) ?_
        refine q_put (C := RX1) (T := TX1) (N := 12) (ci := 1) (v := .int (nI 29)) (wC h ga gb cA n tx T C K L P 29 (shf ua j) (shf ub j)) hx hb hts hin1 tyX1 tyX1_ok nmX1 hown hK hV 0 rfl rfl 9 (by decide) (List.mem_of_getElem? (i := 3) rfl) rfl rfl rfl (Nat.le_of_ble_eq_true rfl) rfl dX1_forgetOldestSwap_45 (fun H locs hV => ?_)
        have ej : j = 29 := by omega
        exact q_vret (W1 := wC h ga gb cA n tx T C K L P 29 (shf ua j) (shf ub j)) hx hb hr hlocks hV dX1_forgetOldestSwap_48 (by rw [ej])
      · refine lv_aload_n hx hb dX1_forgetOldestSwap_8 rfl (lv_at hl 0 rfl) ?_
        refine q_get (C := RX1) (T := TX1) (N := 12) (ci := 1) (v := .ref (h 4)) hx hb hts hin1 hown hK hV 0 rfl rfl 7 (by decide) (List.mem_of_getElem? (i := 1) rfl) rfl dX1_forgetOldestSwap_9 ?_
        refine lv_iload_n hx hb dX1_forgetOldestSwap_12 rfl (lv_at hl 1 rfl) ?_
        refine lv_iconst (v := nI 1) hx hb dX1_forgetOldestSwap_13 (by decide) ?_
        refine q_isub2 (x := j + 1) (y := 1) (z := j) hx hb (by omega) dX1_forgetOldestSwap_14 ?_
        refine lv_aload_n hx hb dX1_forgetOldestSwap_15 rfl (lv_at hl 0 rfl) ?_
        refine q_get (C := RX1) (T := TX1) (N := 12) (ci := 1) (v := .ref (h 4)) hx hb hts hin1 hown hK hV 0 rfl rfl 7 (by decide) (List.mem_of_getElem? (i := 1) rfl) rfl dX1_forgetOldestSwap_16 ?_
        refine lv_iload_n hx hb dX1_forgetOldestSwap_19 rfl (lv_at hl 1 rfl) ?_
        refine q_iald (n := 30) (k := j + 1) (f := shf ua j) hx hb hK hV 4 rfl (by omega) (by omega) dX1_forgetOldestSwap_20 ?_
        refine q_iast (n := 30) (k := j) (v := ((shf ua j) (j + 1))) (f := shf ua j) (wC h ga gb cA n tx T C K L P u (up (shf ua j) j ((shf ua j) (j + 1))) (shf ub j)) hx hb hK hV 4 rfl (by omega) (by decide) rfl dX1_forgetOldestSwap_21 (fun H locs hV => ?_)
        refine lv_aload_n hx hb dX1_forgetOldestSwap_22 rfl (lv_at hl 0 rfl) ?_
        refine q_get (C := RX1) (T := TX1) (N := 12) (ci := 1) (v := .ref (h 5)) hx hb hts hin1 hown hK hV 0 rfl rfl 8 (by decide) (List.mem_of_getElem? (i := 2) rfl) rfl dX1_forgetOldestSwap_23 ?_
        refine lv_iload_n hx hb dX1_forgetOldestSwap_26 rfl (lv_at hl 1 rfl) ?_
        refine lv_iconst (v := nI 1) hx hb dX1_forgetOldestSwap_27 (by decide) ?_
        refine q_isub2 (x := j + 1) (y := 1) (z := j) hx hb (by omega) dX1_forgetOldestSwap_28 ?_
        refine lv_aload_n hx hb dX1_forgetOldestSwap_29 rfl (lv_at hl 0 rfl) ?_
        refine q_get (C := RX1) (T := TX1) (N := 12) (ci := 1) (v := .ref (h 5)) hx hb hts hin1 hown hK hV 0 rfl rfl 8 (by decide) (List.mem_of_getElem? (i := 2) rfl) rfl dX1_forgetOldestSwap_30 ?_
        refine lv_iload_n hx hb dX1_forgetOldestSwap_33 rfl (lv_at hl 1 rfl) ?_
        refine q_iald (n := 30) (k := j + 1) (f := shf ub j) hx hb hK hV 5 rfl (by omega) (by omega) dX1_forgetOldestSwap_34 ?_
        refine q_iast (n := 30) (k := j) (v := ((shf ub j) (j + 1))) (f := shf ub j) (wC h ga gb cA n tx T C K L P u (up (shf ua j) j ((shf ua j) (j + 1))) (up (shf ub j) j ((shf ub j) (j + 1)))) hx hb hK hV 5 rfl (by omega) (by decide) rfl dX1_forgetOldestSwap_35 (fun H locs hV => ?_)
        refine q_iinc (x := j + 1) (z := j + 2) (lv' := [(1, .int (nI (j + 2))), (0, .ref (h 0))]) hx hb dX1_forgetOldestSwap_36 hl (k := 1) rfl (dd := 1) rfl (by omega) (by decide) rfl (fun ls hl => ?_)
        refine lv_goto (tgt := 2) hx hb dX1_forgetOldestSwap_39 (by decide) ?_
        have e1 : shf ua (j + 1) = up (shf ua j) j (shf ua j (j + 1)) := by rw [shf_at, shf_s]
        have e2 : shf ub (j + 1) = up (shf ub j) j (shf ub j (j + 1)) := by rw [shf_at, shf_s]
        exact ih2  (j + 1) _ _ _ (by omega) (by first | omega | assumption) (by rw [e1, e2]; exact hV) (lv_sub hl [1, 0] rfl)
  exact lp2 30 0 _ _ _ (by omega) (by first | omega | assumption) (by rw [shf_0, shf_0]; exact hV) (lv_sub hl [1, 0] rfl)
abbrev rm_X1_makeSwap : Room := { frames := 2, cells := 0, slots := 0, locals := 45 }
set_option maxHeartbeats 4000000 in
set_option maxRecDepth 100000 in
theorem c_X1_makeSwap (l : Launch) (D : va_G) (h : Nat → Nat) (ga : Nat) (gb : Nat) (cA : ClassId) (n : Nat) (tx : Nat → Nat) (T : Nat) (C : Nat) (K : Nat) (L : Nat → Nat) (P : Nat → Nat) (u : Nat) (ua : Nat → Nat) (ub : Nat → Nat) (a : Nat) (b : Nat)  (h_a : a < 12) (h_b : b < 12) (hp : perm L P) (hu : u ≤ 30) : CTv l D cA yX1_makeSwap wsX1_makeSwap rm_X1_makeSwap [.ref (h 0), .int (nI a), .int (nI b)] (wC h ga gb cA n tx T C K L P u ua ub) (fun W1 => W1 = wC h ga gb cA n tx T C K (exL L a b) (exP L P a b) (pshU u) (pshA ua u a) (pshA ub u b)) := by
  refine CTv.mk (cc := cX1_makeSwap) (maxL := 3) (ret := none) (by decide) rfl (Nat.le_of_ble_eq_true rfl) ?_
  intro p e s m below meth c A ls E hV hl
  obtain ⟨hx, hb, hml, hr, hown, hts, hlocks, hK, hA, hN⟩ := E
  have hown : s.vm.findClass RX1 = some m.cls := hown
  have hin1 : ∀ w ∈ wsX10, w ∈ wsX1_makeSwap := fun _ h => List.mem_cons_of_mem _ (List.mem_append_right _ h)
  have hl : lv_has ls 3 [(0, .ref (h 0)), (1, .int (nI a)), (2, .int (nI b))] := hl
  refine lv_aload_n hx hb dX1_makeSwap_0 rfl (lv_at hl 0 rfl) ?_
  refine lv_iload_n hx hb dX1_makeSwap_1 rfl (lv_at hl 1 rfl) ?_
  refine lv_iload_n hx hb dX1_makeSwap_2 rfl (lv_at hl 2 rfl) ?_
  refine k_V_v (w0 := ([] : va_W)) (wc := wC h ga gb cA n tx T C K L P u ua ub) (b := h 0) (As := [.int (nI a), .int (nI b)]) (rest := []) hx hb hml hown hts hK hA hN hV hl.1 (c_X1_exchange l D h ga gb cA n tx T C K L P u ua ub a b  (by first | omega | assumption) (by first | omega | assumption) (by first | omega | assumption)) gX1_makeSwap_X1_exchange rfl rfl rfl hdX1_exchange ⟨Nat.le_of_ble_eq_true rfl, Nat.le_of_ble_eq_true rfl⟩ 0 1 rfl rfl rfl rfl rfl (Nat.le_of_ble_eq_true rfl) dX1_makeSwap_3 ⟨Nat.zero_le _, Nat.zero_le _⟩ (fun W1 H locs hp hV => ?_)
  subst hp
  have hV : qV D A s.heap (wC h ga gb cA n tx T C K (exL L a b) (exP L P a b) u ua ub) H locs := hV
  refine lv_aload_n hx hb dX1_makeSwap_6 rfl (lv_at hl 0 rfl) ?_
  refine q_get (C := RX1) (T := TX1) (N := 12) (ci := 1) (v := .int (nI u)) hx hb hts hin1 hown hK hV 0 rfl rfl 9 (by decide) (List.mem_of_getElem? (i := 1) rfl) rfl dX1_makeSwap_7 ?_
  refine lv_bipush (v := nI 30) hx hb dX1_makeSwap_10 (by decide) ?_
  refine q_icmp_lt (x := u) (y := 30) (tgt := 19) hx hb dX1_makeSwap_12 (by decide) (by omega) (by omega) (fun c12 => ?_) (fun c12 => ?_)
  · refine lv_aload_n hx hb dX1_makeSwap_19 rfl (lv_at hl 0 rfl) ?_
    refine q_get (C := RX1) (T := TX1) (N := 12) (ci := 1) (v := .ref (h 4)) hx hb hts hin1 hown hK hV 0 rfl rfl 7 (by decide) (List.mem_of_getElem? (i := 2) rfl) rfl dX1_makeSwap_20 ?_
    refine lv_aload_n hx hb dX1_makeSwap_23 rfl (lv_at hl 0 rfl) ?_
    refine q_get (C := RX1) (T := TX1) (N := 12) (ci := 1) (v := .int (nI u)) hx hb hts hin1 hown hK hV 0 rfl rfl 9 (by decide) (List.mem_of_getElem? (i := 1) rfl) rfl dX1_makeSwap_24 ?_
    refine lv_iload_n hx hb dX1_makeSwap_27 rfl (lv_at hl 1 rfl) ?_
    refine q_iast (n := 30) (k := u) (v := a) (f := ua) (wC h ga gb cA n tx T C K (exL L a b) (exP L P a b) u (up ua u a) ub) hx hb hK hV 4 rfl (by omega) (by decide) rfl dX1_makeSwap_28 (fun H locs hV => ?_)
    refine lv_aload_n hx hb dX1_makeSwap_29 rfl (lv_at hl 0 rfl) ?_
    refine q_get (C := RX1) (T := TX1) (N := 12) (ci := 1) (v := .ref (h 5)) hx hb hts hin1 hown hK hV 0 rfl rfl 8 (by decide) (List.mem_of_getElem? (i := 3) rfl) rfl dX1_makeSwap_30 ?_
    refine lv_aload_n hx hb dX1_makeSwap_33 rfl (lv_at hl 0 rfl) ?_
    refine q_get (C := RX1) (T := TX1) (N := 12) (ci := 1) (v := .int (nI u)) hx hb hts hin1 hown hK hV 0 rfl rfl 9 (by decide) (List.mem_of_getElem? (i := 1) rfl) rfl dX1_makeSwap_34 ?_
    refine lv_iload_n hx hb dX1_makeSwap_37 rfl (lv_at hl 2 rfl) ?_
    refine q_iast (n := 30) (k := u) (v := b) (f := ub) (wC h ga gb cA n tx T C K (exL L a b) (exP L P a b) u (up ua u a) (up ub u b)) hx hb hK hV 5 rfl (by omega) (by decide) rfl dX1_makeSwap_38 (fun H locs hV => ?_)
    refine lv_aload_n hx hb dX1_makeSwap_39 rfl (lv_at hl 0 rfl) ?_
    refine lv_dup hx hb dX1_makeSwap_40 rfl ?_
    refine q_get (C := RX1) (T := TX1) (N := 12) (ci := 1) (v := .int (nI u)) hx hb hts hin1 hown hK hV 0 rfl rfl 9 (by decide) (List.mem_of_getElem? (i := 1) rfl) rfl dX1_makeSwap_41 ?_
    refine lv_iconst (v := nI 1) hx hb dX1_makeSwap_44 (by decide) ?_
    refine q_iadd2 (x := u) (y := 1) (z := u + 1) hx hb (by omega) dX1_makeSwap_45 ?_
    refine q_put (C := RX1) (T := TX1) (N := 12) (ci := 1) (v := .int (nI (u + 1))) (wC h ga gb cA n tx T C K (exL L a b) (exP L P a b) (u + 1) (up ua u a) (up ub u b)) hx hb hts hin1 tyX1 tyX1_ok nmX1 hown hK hV 0 rfl rfl 9 (by decide) (List.mem_of_getElem? (i := 1) rfl) rfl rfl rfl (Nat.le_of_ble_eq_true rfl) rfl dX1_makeSwap_46 (fun H locs hV => ?_)
    exact q_vret (W1 := wC h ga gb cA n tx T C K (exL L a b) (exP L P a b) (u + 1) (up ua u a) (up ub u b)) hx hb hr hlocks hV dX1_makeSwap_49 (by unfold pshU pshA; rw [if_pos (by omega), if_pos (by omega), if_pos (by omega)])
  · refine lv_aload_n hx hb dX1_makeSwap_15 rfl (lv_at hl 0 rfl) ?_
    refine k_V_v (w0 := ([] : va_W)) (wc := wC h ga gb cA n tx T C K (exL L a b) (exP L P a b) u ua ub) (b := h 0) (As := []) (rest := []) hx hb hml hown hts hK hA hN hV hl.1 (c_X1_forgetOldestSwap l D h ga gb cA n tx T C K (exL L a b) (exP L P a b) u ua ub   ) gX1_makeSwap_X1_forgetOldestSwap rfl rfl rfl hdX1_forgetOldestSwap ⟨Nat.le_of_ble_eq_true rfl, Nat.le_of_ble_eq_true rfl⟩ 0 1 rfl rfl rfl rfl rfl (Nat.le_of_ble_eq_true rfl) dX1_makeSwap_16 ⟨Nat.zero_le _, Nat.zero_le _⟩ (fun W1 H locs hp hV => ?_)
    subst hp
    have hV : qV D A s.heap (wC h ga gb cA n tx T C K (exL L a b) (exP L P a b) 29 (shf ua 29) (shf ub 29)) H locs := hV
    refine lv_aload_n hx hb dX1_makeSwap_19 rfl (lv_at hl 0 rfl) ?_
    refine q_get (C := RX1) (T := TX1) (N := 12) (ci := 1) (v := .ref (h 4)) hx hb hts hin1 hown hK hV 0 rfl rfl 7 (by decide) (List.mem_of_getElem? (i := 2) rfl) rfl dX1_makeSwap_20 ?_
    refine lv_aload_n hx hb dX1_makeSwap_23 rfl (lv_at hl 0 rfl) ?_
    refine q_get (C := RX1) (T := TX1) (N := 12) (ci := 1) (v := .int (nI 29)) hx hb hts hin1 hown hK hV 0 rfl rfl 9 (by decide) (List.mem_of_getElem? (i := 1) rfl) rfl dX1_makeSwap_24 ?_
    refine lv_iload_n hx hb dX1_makeSwap_27 rfl (lv_at hl 1 rfl) ?_
    refine q_iast (n := 30) (k := 29) (v := a) (f := shf ua 29) (wC h ga gb cA n tx T C K (exL L a b) (exP L P a b) 29 (up (shf ua 29) 29 a) (shf ub 29)) hx hb hK hV 4 rfl (by omega) (by decide) rfl dX1_makeSwap_28 (fun H locs hV => ?_)
    refine lv_aload_n hx hb dX1_makeSwap_29 rfl (lv_at hl 0 rfl) ?_
    refine q_get (C := RX1) (T := TX1) (N := 12) (ci := 1) (v := .ref (h 5)) hx hb hts hin1 hown hK hV 0 rfl rfl 8 (by decide) (List.mem_of_getElem? (i := 3) rfl) rfl dX1_makeSwap_30 ?_
    refine lv_aload_n hx hb dX1_makeSwap_33 rfl (lv_at hl 0 rfl) ?_
    refine q_get (C := RX1) (T := TX1) (N := 12) (ci := 1) (v := .int (nI 29)) hx hb hts hin1 hown hK hV 0 rfl rfl 9 (by decide) (List.mem_of_getElem? (i := 1) rfl) rfl dX1_makeSwap_34 ?_
    refine lv_iload_n hx hb dX1_makeSwap_37 rfl (lv_at hl 2 rfl) ?_
    refine q_iast (n := 30) (k := 29) (v := b) (f := shf ub 29) (wC h ga gb cA n tx T C K (exL L a b) (exP L P a b) 29 (up (shf ua 29) 29 a) (up (shf ub 29) 29 b)) hx hb hK hV 5 rfl (by omega) (by decide) rfl dX1_makeSwap_38 (fun H locs hV => ?_)
    refine lv_aload_n hx hb dX1_makeSwap_39 rfl (lv_at hl 0 rfl) ?_
    refine lv_dup hx hb dX1_makeSwap_40 rfl ?_
    refine q_get (C := RX1) (T := TX1) (N := 12) (ci := 1) (v := .int (nI 29)) hx hb hts hin1 hown hK hV 0 rfl rfl 9 (by decide) (List.mem_of_getElem? (i := 1) rfl) rfl dX1_makeSwap_41 ?_
    refine lv_iconst (v := nI 1) hx hb dX1_makeSwap_44 (by decide) ?_
    refine q_iadd2 (x := 29) (y := 1) (z := 30) hx hb (by omega) dX1_makeSwap_45 ?_
    refine q_put (C := RX1) (T := TX1) (N := 12) (ci := 1) (v := .int (nI 30)) (wC h ga gb cA n tx T C K (exL L a b) (exP L P a b) 30 (up (shf ua 29) 29 a) (up (shf ub 29) 29 b)) hx hb hts hin1 tyX1 tyX1_ok nmX1 hown hK hV 0 rfl rfl 9 (by decide) (List.mem_of_getElem? (i := 1) rfl) rfl rfl rfl (Nat.le_of_ble_eq_true rfl) rfl dX1_makeSwap_46 (fun H locs hV => ?_)
    have hV := hV.arr 4 rfl (g := pshA ua u a) (pshA_cls (by omega))
    have hV := hV.arr 5 rfl (g := pshA ub u b) (pshA_cls (by omega))
    exact q_vret (W1 := wC h ga gb cA n tx T C K (exL L a b) (exP L P a b) 30 (pshA ua u a) (pshA ub u b)) hx hb hr hlocks hV dX1_makeSwap_49 (by unfold pshU; rw [if_neg (by omega)])
abbrev rm_X1_closeness : Room := { frames := 1, cells := 0, slots := 0, locals := 21 }
set_option maxHeartbeats 4000000 in
set_option maxRecDepth 100000 in
theorem c_X1_closeness (l : Launch) (D : va_G) (h : Nat → Nat) (ga : Nat) (gb : Nat) (cA : ClassId) (n : Nat) (tx : Nat → Nat) (T : Nat) (C : Nat) (K : Nat) (L : Nat → Nat) (P : Nat → Nat) (u : Nat) (ua : Nat → Nat) (ub : Nat → Nat) (a : Nat) (b : Nat)  (h_a : a < 12) (h_b : b < 12) (hC : C ≤ 5) (hp : perm L P) : CTi l D cA yX1_closeness wsX1_closeness rm_X1_closeness [.ref (h 0), .int (nI a), .int (nI b)] (wC h ga gb cA n tx T C K L P u ua ub) (fun r W1 => r = nI (clos C P a b) ∧ W1 = wC h ga gb cA n tx T C K L P u ua ub) := by
  refine CTi.mk (cc := cX1_closeness) (maxL := 4) (ret := some .int) (by decide) rfl (Nat.le_of_ble_eq_true rfl) ?_
  intro p e s m below meth c A ls E hV hl
  obtain ⟨hx, hb, hml, hr, hown, hts, hlocks, hK, hA, hN⟩ := E
  have hown : s.vm.findClass RX1 = some m.cls := hown
  have hin1 : ∀ w ∈ wsX10, w ∈ wsX1_closeness := fun _ h => List.mem_cons_of_mem _ (List.mem_append_right _ h)
  have hl : lv_has ls 4 [(0, .ref (h 0)), (1, .int (nI a)), (2, .int (nI b))] := hl
  refine lv_iload_n hx hb dX1_closeness_0 rfl (lv_at hl 1 rfl) ?_
  refine lv_iload_n hx hb dX1_closeness_1 rfl (lv_at hl 2 rfl) ?_
  refine q_icmp_ne (x := a) (y := b) (tgt := 7) hx hb dX1_closeness_2 (by decide) (by omega) (by omega) (fun c2 => ?_) (fun c2 => ?_)
  · refine lv_aload_n hx hb dX1_closeness_7 rfl (lv_at hl 0 rfl) ?_
    refine q_get (C := RX1) (T := TX1) (N := 12) (ci := 1) (v := .ref (h 3)) hx hb hts hin1 hown hK hV 0 rfl rfl 6 (by decide) (List.mem_of_getElem? (i := 1) rfl) rfl dX1_closeness_8 ?_
    refine lv_iload_n hx hb dX1_closeness_11 rfl (lv_at hl 1 rfl) ?_
    refine q_iald (n := 12) (k := a) (f := P) hx hb hK hV 3 rfl (by omega) (by omega) dX1_closeness_12 ?_
    have f1 := hp.P (i := a) (by omega)
    refine lv_aload_n hx hb dX1_closeness_13 rfl (lv_at hl 0 rfl) ?_
    refine q_get (C := RX1) (T := TX1) (N := 12) (ci := 1) (v := .ref (h 3)) hx hb hts hin1 hown hK hV 0 rfl rfl 6 (by decide) (List.mem_of_getElem? (i := 1) rfl) rfl dX1_closeness_14 ?_
    refine lv_iload_n hx hb dX1_closeness_17 rfl (lv_at hl 2 rfl) ?_
    refine q_iald (n := 12) (k := b) (f := P) hx hb hK hV 3 rfl (by omega) (by omega) dX1_closeness_18 ?_
    have f2 := hp.P (i := b) (by omega)
    refine lv_isub hx hb dX1_closeness_19 ?_
    refine q_abs (x := (P a)) (y := (P b)) hx hb (hml.trans hl.1.symm) hown (hts _ (List.mem_of_getElem? (i := 2) rfl)) (hts _ (List.mem_of_getElem? (i := 3) rfl)) (hts _ (List.mem_of_getElem? (i := 4) rfl)) (hts _ (List.mem_of_getElem? (i := 5) rfl)) (by decide) (by decide) (Nat.zero_le _) (Nat.zero_le _) (by omega) (by omega) dX1_closeness_20 ?_
    refine lv_istore_n (lv' := [(3, .int (nI (((P a) - (P b)) + ((P b) - (P a))))), (0, .ref (h 0)), (1, .int (nI a)), (2, .int (nI b))]) hx hb dX1_closeness_23 rfl hl (by decide) rfl (fun ls hl => ?_)
    refine lv_iconst (v := nI 0) hx hb dX1_closeness_24 (by decide) ?_
    refine lv_aload_n hx hb dX1_closeness_25 rfl (lv_at hl 1 rfl) ?_
    refine q_get (C := RX1) (T := TX1) (N := 12) (ci := 1) (v := .int (nI C)) hx hb hts hin1 hown hK hV 0 rfl rfl 3 (by decide) (List.mem_of_getElem? (i := 6) rfl) rfl dX1_closeness_26 ?_
    refine lv_iconst (v := nI 1) hx hb dX1_closeness_29 (by decide) ?_
    refine q_iadd2 (x := C) (y := 1) (z := C + 1) hx hb (by omega) dX1_closeness_30 ?_
    refine lv_iload_n hx hb dX1_closeness_31 rfl (lv_at hl 0 rfl) ?_
    refine lv_isub hx hb dX1_closeness_32 ?_
    refine q_max0 (x := (C + 1)) (y := (((P a) - (P b)) + ((P b) - (P a)))) hx hb (hml.trans hl.1.symm) hown (hts _ (List.mem_of_getElem? (i := 7) rfl)) (hts _ (List.mem_of_getElem? (i := 8) rfl)) (hts _ (List.mem_of_getElem? (i := 4) rfl)) (hts _ (List.mem_of_getElem? (i := 9) rfl)) (by decide) (by decide) (Nat.zero_le _) (Nat.zero_le _) (by omega) (by omega) dX1_closeness_33 ?_
    exact q_iret (W1 := wC h ga gb cA n tx T C K L P u ua ub) hx hb hr hlocks hV dX1_closeness_36 ⟨by unfold clos; rw [if_neg c2], rfl⟩
  · refine lv_iconst (v := nI 0) hx hb dX1_closeness_5 (by decide) ?_
    exact q_iret (W1 := wC h ga gb cA n tx T C K L P u ua ub) hx hb hr hlocks hV dX1_closeness_6 ⟨by unfold clos; rw [if_pos c2], rfl⟩
abbrev rm_X1_cost : Room := { frames := 2, cells := 0, slots := 0, locals := 44 }
set_option maxHeartbeats 4000000 in
set_option maxRecDepth 100000 in
theorem c_X1_cost (l : Launch) (D : va_G) (h : Nat → Nat) (ga : Nat) (gb : Nat) (cA : ClassId) (n : Nat) (tx : Nat → Nat) (T : Nat) (C : Nat) (K : Nat) (L : Nat → Nat) (P : Nat → Nat) (u : Nat) (ua : Nat → Nat) (ub : Nat → Nat)   (hn : n ≤ 60) (htx : ∀ i, tx i < 12) (hC : C ≤ 5) (hp : perm L P) : CTi l D cA yX1_cost wsX1_cost rm_X1_cost [.ref (h 0)] (wC h ga gb cA n tx T C K L P u ua ub) (fun r W1 => r = nI (cst C P tx (n - 1)) ∧ W1 = wC h ga gb cA n tx T C K L P u ua ub) := by
  refine CTi.mk (cc := cX1_cost) (maxL := 3) (ret := some .int) (by decide) rfl (Nat.le_of_ble_eq_true rfl) ?_
  intro p e s m below meth c A ls E hV hl
  obtain ⟨hx, hb, hml, hr, hown, hts, hlocks, hK, hA, hN⟩ := E
  have hown : s.vm.findClass RX1 = some m.cls := hown
  have hin1 : ∀ w ∈ wsX10, w ∈ wsX1_cost := fun _ h => List.mem_cons_of_mem _ (List.mem_append_right _ h)
  have hl : lv_has ls 3 [(0, .ref (h 0))] := hl
  refine lv_iconst (v := nI 0) hx hb dX1_cost_0 (by decide) ?_
  refine lv_istore_n (lv' := [(1, .int (nI 0)), (0, .ref (h 0))]) hx hb dX1_cost_1 rfl hl (by decide) rfl (fun ls hl => ?_)
  refine lv_iconst (v := nI 1) hx hb dX1_cost_2 (by decide) ?_
  refine lv_istore_n (lv' := [(2, .int (nI 1)), (1, .int (nI 0)), (0, .ref (h 0))]) hx hb dX1_cost_3 rfl hl (by decide) rfl (fun ls hl => ?_)
  have lp4 : ∀ (d4 : Nat) (j : Nat) (H : Heap) (locs : List Loc) (ls : Array Slot), (61 ≤ j + d4) → (j = 0 ∨ j + 1 ≤ n) → qV D A s.heap (wC h ga gb cA n tx T C K L P u ua ub) H locs → lv_has ls 3 [(0, .ref (h 0)), (1, .int (nI (cst C P tx j))), (2, .int (nI (j + 1)))] → W p l e rm_X1_cost s m ([.ref (h 0)] : List Value).toArray below meth c H locs 0 0 (MQ below (va_Qi (fun r W1 => r = nI (cst C P tx (n - 1)) ∧ W1 = wC h ga gb cA n tx T C K L P u ua ub) (cPost D A) A) ([.ref (h 0)] : List Value).toArray s 0 0 A) (F0 m 4 ls []) := by
    intro d4
    induction d4 with
    | zero => intro j H locs ls hm4 hj hV hl; exfalso; omega
    | succ d4 ih4 =>
      intro j H locs ls hm4 hj hV hl
      refine lv_iload_n hx hb dX1_cost_4 rfl (lv_at hl 2 rfl) ?_
      refine lv_aload_n hx hb dX1_cost_5 rfl (lv_at hl 0 rfl) ?_
      refine q_get (C := RX1) (T := TX1) (N := 12) (ci := 1) (v := .int (nI n)) hx hb hts hin1 hown hK hV 0 rfl rfl 1 (by decide) (List.mem_of_getElem? (i := 1) rfl) rfl dX1_cost_6 ?_
      refine q_icmp_ge (x := j + 1) (y := n) (tgt := 39) hx hb dX1_cost_9 (by decide) (by omega) (by omega) (fun c9 => ?_) (fun c9 => ?_)
      · refine lv_iload_n hx hb dX1_cost_39 rfl (lv_at hl 1 rfl) ?_
        have ej : j = n - 1 := by omega
        exact q_iret (W1 := wC h ga gb cA n tx T C K L P u ua ub) hx hb hr hlocks hV dX1_cost_40 ⟨by rw [ej], rfl⟩
      · refine lv_iload_n hx hb dX1_cost_12 rfl (lv_at hl 1 rfl) ?_
        refine lv_aload_n hx hb dX1_cost_13 rfl (lv_at hl 0 rfl) ?_
        refine lv_aload_n hx hb dX1_cost_14 rfl (lv_at hl 0 rfl) ?_
        refine q_get (C := RX1) (T := TX1) (N := 12) (ci := 1) (v := .ref (h 1)) hx hb hts hin1 hown hK hV 0 rfl rfl 0 (by decide) (List.mem_of_getElem? (i := 2) rfl) rfl dX1_cost_15 ?_
        refine lv_iload_n hx hb dX1_cost_18 rfl (lv_at hl 2 rfl) ?_
        refine lv_iconst (v := nI 1) hx hb dX1_cost_19 (by decide) ?_
        refine q_isub2 (x := j + 1) (y := 1) (z := j) hx hb (by omega) dX1_cost_20 ?_
        refine q_iald (n := 60) (k := j) (f := tx) hx hb hK hV 1 rfl (by omega) (by omega) dX1_cost_21 ?_
        have f1 := htx j
        refine lv_aload_n hx hb dX1_cost_22 rfl (lv_at hl 0 rfl) ?_
        refine q_get (C := RX1) (T := TX1) (N := 12) (ci := 1) (v := .ref (h 1)) hx hb hts hin1 hown hK hV 0 rfl rfl 0 (by decide) (List.mem_of_getElem? (i := 2) rfl) rfl dX1_cost_23 ?_
        refine lv_iload_n hx hb dX1_cost_26 rfl (lv_at hl 2 rfl) ?_
        refine q_iald (n := 60) (k := j + 1) (f := tx) hx hb hK hV 1 rfl (by omega) (by omega) dX1_cost_27 ?_
        have f2 := htx (j + 1)
        refine k_V_i (w0 := ([] : va_W)) (wc := wC h ga gb cA n tx T C K L P u ua ub) (b := h 0) (As := [.int (nI (tx j)), .int (nI (tx (j + 1)))]) (rest := [.int (nI (cst C P tx j))]) hx hb hml hown hts hK hA hN hV hl.1 (c_X1_closeness l D h ga gb cA n tx T C K L P u ua ub (tx j) (tx (j + 1))  (by first | omega | assumption) (by first | omega | assumption) (by first | omega | assumption) (by first | omega | assumption)) gX1_cost_X1_closeness rfl rfl rfl hdX1_closeness ⟨Nat.le_of_ble_eq_true rfl, Nat.le_of_ble_eq_true rfl⟩ 0 1 rfl rfl rfl rfl rfl (Nat.le_of_ble_eq_true rfl) dX1_cost_28 ⟨Nat.zero_le _, Nat.zero_le _⟩ (fun r W1 H locs hp hV => ?_)
        obtain ⟨hp1, hp2⟩ := hp
        replace hp1 := hp1.symm
        subst hp1
        replace hp2 := hp2.symm
        subst hp2
        have hV : qV D A s.heap (wC h ga gb cA n tx T C K L P u ua ub) H locs := hV
        have f3 := clos_le C P (tx j) (tx (j + 1))
        refine q_iadd2 (x := (cst C P tx j)) (y := (clos C P (tx j) (tx (j + 1)))) (z := (cst C P tx j) + (clos C P (tx j) (tx (j + 1)))) hx hb (by omega) dX1_cost_31 ?_
        refine lv_istore_n (lv' := [(1, .int (nI ((cst C P tx j) + (clos C P (tx j) (tx (j + 1)))))), (0, .ref (h 0)), (2, .int (nI (j + 1)))]) hx hb dX1_cost_32 rfl hl (by decide) rfl (fun ls hl => ?_)
        refine q_iinc (x := j + 1) (z := j + 2) (lv' := [(2, .int (nI (j + 2))), (1, .int (nI ((cst C P tx j) + (clos C P (tx j) (tx (j + 1)))))), (0, .ref (h 0))]) hx hb dX1_cost_33 hl (k := 2) rfl (dd := 1) rfl (by omega) (by decide) rfl (fun ls hl => ?_)
        refine lv_goto (tgt := 4) hx hb dX1_cost_36 (by decide) ?_
        exact ih4  (j + 1) _ _ _ (by omega) (by first | omega | assumption) hV (lv_sub hl [2, 1, 0] rfl)
  exact lp4 61 0 _ _ _ (by omega) (by first | omega | assumption) hV (lv_sub hl [2, 1, 0] rfl)
abbrev rm_X1_costAfterSwap : Room := { frames := 3, cells := 0, slots := 0, locals := 66 }
set_option maxHeartbeats 4000000 in
set_option maxRecDepth 100000 in
theorem c_X1_costAfterSwap (l : Launch) (D : va_G) (h : Nat → Nat) (ga : Nat) (gb : Nat) (cA : ClassId) (n : Nat) (tx : Nat → Nat) (T : Nat) (C : Nat) (K : Nat) (L : Nat → Nat) (P : Nat → Nat) (u : Nat) (ua : Nat → Nat) (ub : Nat → Nat) (a : Nat) (b : Nat)  (h_a : a < 12) (h_b : b < 12) (hn : n ≤ 60) (htx : ∀ i, tx i < 12) (hC : C ≤ 5) (hp : perm L P) : CTi l D cA yX1_costAfterSwap wsX1_costAfterSwap rm_X1_costAfterSwap [.ref (h 0), .int (nI a), .int (nI b)] (wC h ga gb cA n tx T C K L P u ua ub) (fun r W1 => r = nI (caf C L P tx n a b) ∧ W1 = wC h ga gb cA n tx T C K L P u ua ub) := by
  refine CTi.mk (cc := cX1_costAfterSwap) (maxL := 4) (ret := some .int) (by decide) rfl (Nat.le_of_ble_eq_true rfl) ?_
  intro p e s m below meth c A ls E hV hl
  obtain ⟨hx, hb, hml, hr, hown, hts, hlocks, hK, hA, hN⟩ := E
  have hown : s.vm.findClass RX1 = some m.cls := hown
  have hin1 : ∀ w ∈ wsX10, w ∈ wsX1_costAfterSwap := fun _ h => List.mem_cons_of_mem _ (List.mem_append_right _ h)
  have hl : lv_has ls 4 [(0, .ref (h 0)), (1, .int (nI a)), (2, .int (nI b))] := hl
  refine lv_aload_n hx hb dX1_costAfterSwap_0 rfl (lv_at hl 0 rfl) ?_
  refine lv_iload_n hx hb dX1_costAfterSwap_1 rfl (lv_at hl 1 rfl) ?_
  refine lv_iload_n hx hb dX1_costAfterSwap_2 rfl (lv_at hl 2 rfl) ?_
  refine k_V_v (w0 := ([] : va_W)) (wc := wC h ga gb cA n tx T C K L P u ua ub) (b := h 0) (As := [.int (nI a), .int (nI b)]) (rest := []) hx hb hml hown hts hK hA hN hV hl.1 (c_X1_exchange l D h ga gb cA n tx T C K L P u ua ub a b  (by first | omega | assumption) (by first | omega | assumption) (by first | omega | assumption)) gX1_costAfterSwap_X1_exchange rfl rfl rfl hdX1_exchange ⟨Nat.le_of_ble_eq_true rfl, Nat.le_of_ble_eq_true rfl⟩ 0 1 rfl rfl rfl rfl rfl (Nat.le_of_ble_eq_true rfl) dX1_costAfterSwap_3 ⟨Nat.zero_le _, Nat.zero_le _⟩ (fun W1 H locs hp hV => ?_)
  subst hp
  have hV : qV D A s.heap (wC h ga gb cA n tx T C K (exL L a b) (exP L P a b) u ua ub) H locs := hV
  refine lv_aload_n hx hb dX1_costAfterSwap_6 rfl (lv_at hl 0 rfl) ?_
  refine k_V_i (w0 := ([] : va_W)) (wc := wC h ga gb cA n tx T C K (exL L a b) (exP L P a b) u ua ub) (b := h 0) (As := []) (rest := []) hx hb hml hown hts hK hA hN hV hl.1 (c_X1_cost l D h ga gb cA n tx T C K (exL L a b) (exP L P a b) u ua ub   (by first | omega | assumption) (by first | omega | assumption) (by first | omega | assumption) (hp.ex h_a h_b)) gX1_costAfterSwap_X1_cost rfl rfl rfl hdX1_cost ⟨Nat.le_of_ble_eq_true rfl, Nat.le_of_ble_eq_true rfl⟩ 0 1 rfl rfl rfl rfl rfl (Nat.le_of_ble_eq_true rfl) dX1_costAfterSwap_7 ⟨Nat.zero_le _, Nat.zero_le _⟩ (fun r W1 H locs hp hV => ?_)
  obtain ⟨hp1, hp2⟩ := hp
  replace hp1 := hp1.symm
  subst hp1
  replace hp2 := hp2.symm
  subst hp2
  have hV : qV D A s.heap (wC h ga gb cA n tx T C K (exL L a b) (exP L P a b) u ua ub) H locs := hV
  have f1 := cst_lt (exP L P a b) tx (j := n - 1) hC (by omega)
  refine lv_istore_n (lv' := [(3, .int (nI (cst C (exP L P a b) tx (n - 1)))), (0, .ref (h 0)), (1, .int (nI a)), (2, .int (nI b))]) hx hb dX1_costAfterSwap_10 rfl hl (by decide) rfl (fun ls hl => ?_)
  refine lv_aload_n hx hb dX1_costAfterSwap_11 rfl (lv_at hl 1 rfl) ?_
  refine lv_iload_n hx hb dX1_costAfterSwap_12 rfl (lv_at hl 2 rfl) ?_
  refine lv_iload_n hx hb dX1_costAfterSwap_13 rfl (lv_at hl 3 rfl) ?_
  refine k_V_v (w0 := ([] : va_W)) (wc := wC h ga gb cA n tx T C K (exL L a b) (exP L P a b) u ua ub) (b := h 0) (As := [.int (nI a), .int (nI b)]) (rest := []) hx hb hml hown hts hK hA hN hV hl.1 (c_X1_exchange l D h ga gb cA n tx T C K (exL L a b) (exP L P a b) u ua ub a b  (by first | omega | assumption) (by first | omega | assumption) (hp.ex h_a h_b)) gX1_costAfterSwap_X1_exchange rfl rfl rfl hdX1_exchange ⟨Nat.le_of_ble_eq_true rfl, Nat.le_of_ble_eq_true rfl⟩ 0 1 rfl rfl rfl rfl rfl (Nat.le_of_ble_eq_true rfl) dX1_costAfterSwap_14 ⟨Nat.zero_le _, Nat.zero_le _⟩ (fun W1 H locs hp hV => ?_)
  subst hp
  have hV : qV D A s.heap (wC h ga gb cA n tx T C K (exL (exL L a b) a b) (exP (exL L a b) (exP L P a b) a b) u ua ub) H locs := hV
  rw [exL_ex, exP_ex hp h_a h_b] at hV
  refine lv_iload_n hx hb dX1_costAfterSwap_17 rfl (lv_at hl 0 rfl) ?_
  exact q_iret (W1 := wC h ga gb cA n tx T C K L P u ua ub) hx hb hr hlocks hV dX1_costAfterSwap_18 ⟨rfl, rfl⟩
end
section
abbrev rm_X1_swap : Room := { frames := 3, cells := 0, slots := 0, locals := 67 }
set_option maxHeartbeats 4000000 in
set_option maxRecDepth 100000 in
theorem c_X1_swap (l : Launch) (D : va_G) (h : Nat → Nat) (ga : Nat) (gb : Nat) (cA : ClassId) (n : Nat) (tx : Nat → Nat) (T : Nat) (C : Nat) (K : Nat) (L : Nat → Nat) (P : Nat → Nat) (u : Nat) (ua : Nat → Nat) (ub : Nat → Nat) (v1 : Int32) (v2 : Int32)  (hn : n ≤ 60) (htx : ∀ i, tx i < 12) (hC : C ≤ 5) (hp : perm L P) (hu : u ≤ 30) : CTi l D cA yX1_swap wsX1_swap rm_X1_swap [.ref (h 0), .int v1, .int v2] (wC h ga gb cA n tx T C K L P u ua ub) (fun r W1 => r = aSw C tx n v1 v2 (L, P, u, ua, ub) ∧ W1 = wC h ga gb cA n tx T C K ((ySw v1 v2 (L, P, u, ua, ub)).1) ((ySw v1 v2 (L, P, u, ua, ub)).2.1) ((ySw v1 v2 (L, P, u, ua, ub)).2.2.1) ((ySw v1 v2 (L, P, u, ua, ub)).2.2.2.1) ((ySw v1 v2 (L, P, u, ua, ub)).2.2.2.2)) := by
  refine CTi.mk (cc := cX1_swap) (maxL := 4) (ret := some .int) (by decide) rfl (Nat.le_of_ble_eq_true rfl) ?_
  intro p e s m below meth c A ls E hV hl
  obtain ⟨hx, hb, hml, hr, hown, hts, hlocks, hK, hA, hN⟩ := E
  have hown : s.vm.findClass RX1 = some m.cls := hown
  have hin1 : ∀ w ∈ wsX10, w ∈ wsX1_swap := fun _ h => List.mem_cons_of_mem _ (List.mem_append_right _ h)
  have hl : lv_has ls 4 [(0, .ref (h 0)), (1, .int v1), (2, .int v2)] := hl
  refine lv_iload_n hx hb dX1_swap_0 rfl (lv_at hl 1 rfl) ?_
  refine lv_iload_n hx hb dX1_swap_1 rfl (lv_at hl 2 rfl) ?_
  refine k_S_i (w0 := wC h ga gb cA n tx T C K L P u ua ub) (wc := ([] : va_W)) (As := [.int v1, .int v2]) (rest := []) hx hb hml hown hts hK hA hN hV hl.1 (c_X1_swapError l D cA v1 v2  ) gX1_swap_X1_swapError rfl rfl rfl hdX1_swapError ⟨Nat.le_of_ble_eq_true rfl, Nat.le_of_ble_eq_true rfl⟩ rfl rfl (Nat.le_of_ble_eq_true rfl) dX1_swap_2 ⟨Nat.zero_le _, Nat.zero_le _⟩ (fun r W1 H locs hp hV => ?_)
  obtain ⟨hp1, hp2⟩ := hp
  replace hp1 := hp1.symm
  subst hp1
  replace hp2 := hp2.symm
  subst hp2
  have hV : qV D A s.heap (wC h ga gb cA n tx T C K L P u ua ub) H locs := hV
  refine lv_istore_n (lv' := [(3, .int (swErr v1 v2)), (0, .ref (h 0)), (1, .int v1), (2, .int v2)]) hx hb dX1_swap_5 rfl hl (by decide) rfl (fun ls hl => ?_)
  refine lv_iload_n hx hb dX1_swap_6 rfl (lv_at hl 0 rfl) ?_
  refine z_if_eq (tgt := 12) hx hb dX1_swap_7 (by decide) (fun c7 => ?_) (fun c7 => ?_)
  · obtain ⟨k1, k2, hk1, hk2, hne, rfl, rfl⟩ := swErr_0 c7
    refine lv_aload_n hx hb dX1_swap_12 rfl (lv_at hl 1 rfl) ?_
    refine lv_iload_n hx hb dX1_swap_13 rfl (lv_at hl 2 rfl) ?_
    refine lv_iload_n hx hb dX1_swap_14 rfl (lv_at hl 3 rfl) ?_
    refine k_V_v (w0 := ([] : va_W)) (wc := wC h ga gb cA n tx T C K L P u ua ub) (b := h 0) (As := [.int (nI k1), .int (nI k2)]) (rest := []) hx hb hml hown hts hK hA hN hV hl.1 (c_X1_makeSwap l D h ga gb cA n tx T C K L P u ua ub k1 k2  (by first | omega | assumption) (by first | omega | assumption) (by first | omega | assumption) (by first | omega | assumption)) gX1_swap_X1_makeSwap rfl rfl rfl hdX1_makeSwap ⟨Nat.le_of_ble_eq_true rfl, Nat.le_of_ble_eq_true rfl⟩ 0 1 rfl rfl rfl rfl rfl (Nat.le_of_ble_eq_true rfl) dX1_swap_15 ⟨Nat.zero_le _, Nat.zero_le _⟩ (fun W1 H locs hp hV => ?_)
    subst hp
    have hV : qV D A s.heap (wC h ga gb cA n tx T C K (exL L k1 k2) (exP L P k1 k2) (pshU u) (pshA ua u k1) (pshA ub u k2)) H locs := hV
    refine lv_aload_n hx hb dX1_swap_18 rfl (lv_at hl 1 rfl) ?_
    refine k_V_i (w0 := ([] : va_W)) (wc := wC h ga gb cA n tx T C K (exL L k1 k2) (exP L P k1 k2) (pshU u) (pshA ua u k1) (pshA ub u k2)) (b := h 0) (As := []) (rest := []) hx hb hml hown hts hK hA hN hV hl.1 (c_X1_cost l D h ga gb cA n tx T C K (exL L k1 k2) (exP L P k1 k2) (pshU u) (pshA ua u k1) (pshA ub u k2)   (by first | omega | assumption) (by first | omega | assumption) (by first | omega | assumption) (hp.ex hk1 hk2)) gX1_swap_X1_cost rfl rfl rfl hdX1_cost ⟨Nat.le_of_ble_eq_true rfl, Nat.le_of_ble_eq_true rfl⟩ 0 1 rfl rfl rfl rfl rfl (Nat.le_of_ble_eq_true rfl) dX1_swap_19 ⟨Nat.zero_le _, Nat.zero_le _⟩ (fun r W1 H locs hp hV => ?_)
    obtain ⟨hp1, hp2⟩ := hp
    replace hp1 := hp1.symm
    subst hp1
    replace hp2 := hp2.symm
    subst hp2
    have hV : qV D A s.heap (wC h ga gb cA n tx T C K (exL L k1 k2) (exP L P k1 k2) (pshU u) (pshA ua u k1) (pshA ub u k2)) H locs := hV
    have f1 := cst_lt (exP L P k1 k2) tx (j := n - 1) hC (by omega)
    exact q_iret (W1 := wC h ga gb cA n tx T C K (exL L k1 k2) (exP L P k1 k2) (pshU u) (pshA ua u k1) (pshA ub u k2)) hx hb hr hlocks hV dX1_swap_22 ⟨(aSw_ok hk1 hk2 hne (L, P, u, ua, ub)).symm, by rw [ySw_ok hk1 hk2 hne]; rfl⟩
  · refine lv_iload_n hx hb dX1_swap_10 rfl (lv_at hl 0 rfl) ?_
    exact q_iret (W1 := wC h ga gb cA n tx T C K L P u ua ub) hx hb hr hlocks hV dX1_swap_11 ⟨(aSw_no c7 _).symm, by rw [ySw_no c7]⟩
abbrev rm_X1_undo : Room := { frames := 3, cells := 0, slots := 0, locals := 66 }
set_option maxHeartbeats 4000000 in
set_option maxRecDepth 100000 in
theorem c_X1_undo (l : Launch) (D : va_G) (h : Nat → Nat) (ga : Nat) (gb : Nat) (cA : ClassId) (n : Nat) (tx : Nat → Nat) (T : Nat) (C : Nat) (K : Nat) (L : Nat → Nat) (P : Nat → Nat) (u : Nat) (ua : Nat → Nat) (ub : Nat → Nat)   (hn : n ≤ 60) (htx : ∀ i, tx i < 12) (hC : C ≤ 5) (hp : perm L P) (hu : u ≤ 30) (hua : ∀ i, ua i < 12) (hub : ∀ i, ub i < 12) : CTi l D cA yX1_undo wsX1_undo rm_X1_undo [.ref (h 0)] (wC h ga gb cA n tx T C K L P u ua ub) (fun r W1 => r = aUn C tx n (L, P, u, ua, ub) ∧ W1 = wC h ga gb cA n tx T C K ((yUn (L, P, u, ua, ub)).1) ((yUn (L, P, u, ua, ub)).2.1) ((yUn (L, P, u, ua, ub)).2.2.1) ((yUn (L, P, u, ua, ub)).2.2.2.1) ((yUn (L, P, u, ua, ub)).2.2.2.2)) := by
  refine CTi.mk (cc := cX1_undo) (maxL := 1) (ret := some .int) (by decide) rfl (Nat.le_of_ble_eq_true rfl) ?_
  intro p e s m below meth c A ls E hV hl
  obtain ⟨hx, hb, hml, hr, hown, hts, hlocks, hK, hA, hN⟩ := E
  have hown : s.vm.findClass RX1 = some m.cls := hown
  have hin1 : ∀ w ∈ wsX10, w ∈ wsX1_undo := fun _ h => List.mem_cons_of_mem _ (List.mem_append_right _ h)
  have hl : lv_has ls 1 [(0, .ref (h 0))] := hl
  refine lv_aload_n hx hb dX1_undo_0 rfl (lv_at hl 0 rfl) ?_
  refine q_get (C := RX1) (T := TX1) (N := 12) (ci := 1) (v := .int (nI u)) hx hb hts hin1 hown hK hV 0 rfl rfl 9 (by decide) (List.mem_of_getElem? (i := 1) rfl) rfl dX1_undo_1 ?_
  refine q_if_gt (x := u) (tgt := 10) hx hb dX1_undo_4 (by decide) (by omega) (fun c4 => ?_) (fun c4 => ?_)
  · refine lv_aload_n hx hb dX1_undo_10 rfl (lv_at hl 0 rfl) ?_
    refine lv_dup hx hb dX1_undo_11 rfl ?_
    refine q_get (C := RX1) (T := TX1) (N := 12) (ci := 1) (v := .int (nI u)) hx hb hts hin1 hown hK hV 0 rfl rfl 9 (by decide) (List.mem_of_getElem? (i := 1) rfl) rfl dX1_undo_12 ?_
    refine lv_iconst (v := nI 1) hx hb dX1_undo_15 (by decide) ?_
    refine q_isub2 (x := u) (y := 1) (z := (u - 1)) hx hb (by omega) dX1_undo_16 ?_
    refine q_put (C := RX1) (T := TX1) (N := 12) (ci := 1) (v := .int (nI (u - 1))) (wC h ga gb cA n tx T C K L P (u - 1) ua ub) hx hb hts hin1 tyX1 tyX1_ok nmX1 hown hK hV 0 rfl rfl 9 (by decide) (List.mem_of_getElem? (i := 1) rfl) rfl rfl rfl (Nat.le_of_ble_eq_true rfl) rfl dX1_undo_17 (fun H locs hV => ?_)
    refine lv_aload_n hx hb dX1_undo_20 rfl (lv_at hl 0 rfl) ?_
    refine lv_aload_n hx hb dX1_undo_21 rfl (lv_at hl 0 rfl) ?_
    refine q_get (C := RX1) (T := TX1) (N := 12) (ci := 1) (v := .ref (h 4)) hx hb hts hin1 hown hK hV 0 rfl rfl 7 (by decide) (List.mem_of_getElem? (i := 3) rfl) rfl dX1_undo_22 ?_
    refine lv_aload_n hx hb dX1_undo_25 rfl (lv_at hl 0 rfl) ?_
    refine q_get (C := RX1) (T := TX1) (N := 12) (ci := 1) (v := .int (nI (u - 1))) hx hb hts hin1 hown hK hV 0 rfl rfl 9 (by decide) (List.mem_of_getElem? (i := 1) rfl) rfl dX1_undo_26 ?_
    refine q_iald (n := 30) (k := (u - 1)) (f := ua) hx hb hK hV 4 rfl (by omega) (by omega) dX1_undo_29 ?_
    have f1 := hua (u - 1)
    refine lv_aload_n hx hb dX1_undo_30 rfl (lv_at hl 0 rfl) ?_
    refine q_get (C := RX1) (T := TX1) (N := 12) (ci := 1) (v := .ref (h 5)) hx hb hts hin1 hown hK hV 0 rfl rfl 8 (by decide) (List.mem_of_getElem? (i := 4) rfl) rfl dX1_undo_31 ?_
    refine lv_aload_n hx hb dX1_undo_34 rfl (lv_at hl 0 rfl) ?_
    refine q_get (C := RX1) (T := TX1) (N := 12) (ci := 1) (v := .int (nI (u - 1))) hx hb hts hin1 hown hK hV 0 rfl rfl 9 (by decide) (List.mem_of_getElem? (i := 1) rfl) rfl dX1_undo_35 ?_
    refine q_iald (n := 30) (k := (u - 1)) (f := ub) hx hb hK hV 5 rfl (by omega) (by omega) dX1_undo_38 ?_
    have f2 := hub (u - 1)
    refine k_V_v (w0 := ([] : va_W)) (wc := wC h ga gb cA n tx T C K L P (u - 1) ua ub) (b := h 0) (As := [.int (nI (ua (u - 1))), .int (nI (ub (u - 1)))]) (rest := []) hx hb hml hown hts hK hA hN hV hl.1 (c_X1_exchange l D h ga gb cA n tx T C K L P (u - 1) ua ub (ua (u - 1)) (ub (u - 1))  (by first | omega | assumption) (by first | omega | assumption) (by first | omega | assumption)) gX1_undo_X1_exchange rfl rfl rfl hdX1_exchange ⟨Nat.le_of_ble_eq_true rfl, Nat.le_of_ble_eq_true rfl⟩ 0 1 rfl rfl rfl rfl rfl (Nat.le_of_ble_eq_true rfl) dX1_undo_39 ⟨Nat.zero_le _, Nat.zero_le _⟩ (fun W1 H locs hp hV => ?_)
    subst hp
    have hV : qV D A s.heap (wC h ga gb cA n tx T C K (exL L (ua (u - 1)) (ub (u - 1))) (exP L P (ua (u - 1)) (ub (u - 1))) (u - 1) ua ub) H locs := hV
    refine lv_aload_n hx hb dX1_undo_42 rfl (lv_at hl 0 rfl) ?_
    refine k_V_i (w0 := ([] : va_W)) (wc := wC h ga gb cA n tx T C K (exL L (ua (u - 1)) (ub (u - 1))) (exP L P (ua (u - 1)) (ub (u - 1))) (u - 1) ua ub) (b := h 0) (As := []) (rest := []) hx hb hml hown hts hK hA hN hV hl.1 (c_X1_cost l D h ga gb cA n tx T C K (exL L (ua (u - 1)) (ub (u - 1))) (exP L P (ua (u - 1)) (ub (u - 1))) (u - 1) ua ub   (by first | omega | assumption) (by first | omega | assumption) (by first | omega | assumption) (hp.ex (by omega) (by omega))) gX1_undo_X1_cost rfl rfl rfl hdX1_cost ⟨Nat.le_of_ble_eq_true rfl, Nat.le_of_ble_eq_true rfl⟩ 0 1 rfl rfl rfl rfl rfl (Nat.le_of_ble_eq_true rfl) dX1_undo_43 ⟨Nat.zero_le _, Nat.zero_le _⟩ (fun r W1 H locs hp hV => ?_)
    obtain ⟨hp1, hp2⟩ := hp
    replace hp1 := hp1.symm
    subst hp1
    replace hp2 := hp2.symm
    subst hp2
    have hV : qV D A s.heap (wC h ga gb cA n tx T C K (exL L (ua (u - 1)) (ub (u - 1))) (exP L P (ua (u - 1)) (ub (u - 1))) (u - 1) ua ub) H locs := hV
    have f3 := cst_lt (exP L P (ua (u - 1)) (ub (u - 1))) tx (j := n - 1) hC (by omega)
    have e1 : ¬ (L, P, u, ua, ub).2.2.1 = 0 := by show ¬ u = 0; omega
    have e2 : yUn (L, P, u, ua, ub) = (exL L (ua (u - 1)) (ub (u - 1)), exP L P (ua (u - 1)) (ub (u - 1)), u - 1, ua, ub) := if_neg e1
    exact q_iret (W1 := wC h ga gb cA n tx T C K (exL L (ua (u - 1)) (ub (u - 1))) (exP L P (ua (u - 1)) (ub (u - 1))) (u - 1) ua ub) hx hb hr hlocks hV dX1_undo_46 ⟨by unfold aUn; rw [if_neg e1, e2], by rw [e2]⟩
  · refine lv_ldc (v := -1000006) hx hb hown (hts _ (List.mem_of_getElem? (i := 2) rfl)) dX1_undo_7 ?_
    have e1 : (L, P, u, ua, ub).2.2.1 = 0 := c4
    exact q_iret (W1 := wC h ga gb cA n tx T C K L P u ua ub) hx hb hr hlocks hV dX1_undo_9 ⟨by unfold aUn; rw [if_pos e1], by unfold yUn; rw [if_pos e1]⟩
abbrev rm_X1_undoCount : Room := { frames := 0, cells := 0, slots := 0, locals := 0 }
set_option maxHeartbeats 4000000 in
set_option maxRecDepth 100000 in
theorem c_X1_undoCount (l : Launch) (D : va_G) (h : Nat → Nat) (ga : Nat) (gb : Nat) (cA : ClassId) (n : Nat) (tx : Nat → Nat) (T : Nat) (C : Nat) (K : Nat) (L : Nat → Nat) (P : Nat → Nat) (u : Nat) (ua : Nat → Nat) (ub : Nat → Nat)    : CTi l D cA yX1_undoCount wsX1_undoCount rm_X1_undoCount [.ref (h 0)] (wC h ga gb cA n tx T C K L P u ua ub) (fun r W1 => r = nI u ∧ W1 = wC h ga gb cA n tx T C K L P u ua ub) := by
  refine CTi.mk (cc := cX1_undoCount) (maxL := 1) (ret := some .int) (by decide) rfl (Nat.le_of_ble_eq_true rfl) ?_
  intro p e s m below meth c A ls E hV hl
  obtain ⟨hx, hb, hml, hr, hown, hts, hlocks, hK, hA, hN⟩ := E
  have hown : s.vm.findClass RX1 = some m.cls := hown
  have hin1 : ∀ w ∈ wsX10, w ∈ wsX1_undoCount := fun _ h => List.mem_cons_of_mem _ (List.mem_append_right _ h)
  have hl : lv_has ls 1 [(0, .ref (h 0))] := hl
  refine lv_aload_n hx hb dX1_undoCount_0 rfl (lv_at hl 0 rfl) ?_
  refine q_get (C := RX1) (T := TX1) (N := 12) (ci := 1) (v := .int (nI u)) hx hb hts hin1 hown hK hV 0 rfl rfl 9 (by decide) (List.mem_of_getElem? (i := 1) rfl) rfl dX1_undoCount_1 ?_
  exact q_iret (W1 := wC h ga gb cA n tx T C K L P u ua ub) hx hb hr hlocks hV dX1_undoCount_4 ⟨rfl, rfl⟩
abbrev rm_X1_mirror : Room := { frames := 3, cells := 0, slots := 0, locals := 66 }
set_option maxHeartbeats 4000000 in
set_option maxRecDepth 100000 in
theorem c_X1_mirror (l : Launch) (D : va_G) (h : Nat → Nat) (ga : Nat) (gb : Nat) (cA : ClassId) (n : Nat) (tx : Nat → Nat) (T : Nat) (C : Nat) (K : Nat) (L : Nat → Nat) (P : Nat → Nat) (u : Nat) (ua : Nat → Nat) (ub : Nat → Nat)   (hn : n ≤ 60) (htx : ∀ i, tx i < 12) (hC : C ≤ 5) (hp : perm L P) : CTi l D cA yX1_mirror wsX1_mirror rm_X1_mirror [.ref (h 0)] (wC h ga gb cA n tx T C K L P u ua ub) (fun r W1 => r = nI (cst C (mir L P 6).2 tx (n - 1)) ∧ W1 = wC h ga gb cA n tx T C K ((mir L P 6).1) ((mir L P 6).2) 0 ua ub) := by
  refine CTi.mk (cc := cX1_mirror) (maxL := 2) (ret := some .int) (by decide) rfl (Nat.le_of_ble_eq_true rfl) ?_
  intro p e s m below meth c A ls E hV hl
  obtain ⟨hx, hb, hml, hr, hown, hts, hlocks, hK, hA, hN⟩ := E
  have hown : s.vm.findClass RX1 = some m.cls := hown
  have hin1 : ∀ w ∈ wsX10, w ∈ wsX1_mirror := fun _ h => List.mem_cons_of_mem _ (List.mem_append_right _ h)
  have hl : lv_has ls 2 [(0, .ref (h 0))] := hl
  refine lv_iconst (v := nI 0) hx hb dX1_mirror_0 (by decide) ?_
  refine lv_istore_n (lv' := [(1, .int (nI 0)), (0, .ref (h 0))]) hx hb dX1_mirror_1 rfl hl (by decide) rfl (fun ls hl => ?_)
  have lp2 : ∀ (d2 : Nat) (j : Nat) (H : Heap) (locs : List Loc) (ls : Array Slot), (7 ≤ j + d2) → (j ≤ 6) → qV D A s.heap (wC h ga gb cA n tx T C K ((mir L P j).1) ((mir L P j).2) u ua ub) H locs → lv_has ls 2 [(0, .ref (h 0)), (1, .int (nI j))] → W p l e rm_X1_mirror s m ([.ref (h 0)] : List Value).toArray below meth c H locs 0 0 (MQ below (va_Qi (fun r W1 => r = nI (cst C (mir L P 6).2 tx (n - 1)) ∧ W1 = wC h ga gb cA n tx T C K ((mir L P 6).1) ((mir L P 6).2) 0 ua ub) (cPost D A) A) ([.ref (h 0)] : List Value).toArray s 0 0 A) (F0 m 2 ls []) := by
    intro d2
    induction d2 with
    | zero => intro j H locs ls hm2 hj hV hl; exfalso; omega
    | succ d2 ih2 =>
      intro j H locs ls hm2 hj hV hl
      have hq := hp.mir j hj
      refine lv_iload_n hx hb dX1_mirror_2 rfl (lv_at hl 1 rfl) ?_
      refine lv_bipush (v := nI 6) hx hb dX1_mirror_3 (by decide) ?_
      refine q_icmp_ge (x := j) (y := 6) (tgt := 23) hx hb dX1_mirror_5 (by decide) (by omega) (by omega) (fun c5 => ?_) (fun c5 => ?_)
      · have ej : j = 6 := by omega
        subst ej
        refine lv_aload_n hx hb dX1_mirror_23 rfl (lv_at hl 0 rfl) ?_
        refine lv_iconst (v := nI 0) hx hb dX1_mirror_24 (by decide) ?_
        refine q_put (C := RX1) (T := TX1) (N := 12) (ci := 1) (v := .int (nI 0)) (wC h ga gb cA n tx T C K ((mir L P 6).1) ((mir L P 6).2) 0 ua ub) hx hb hts hin1 tyX1 tyX1_ok nmX1 hown hK hV 0 rfl rfl 9 (by decide) (List.mem_of_getElem? (i := 1) rfl) rfl rfl rfl (Nat.le_of_ble_eq_true rfl) rfl dX1_mirror_25 (fun H locs hV => ?_)
        refine lv_aload_n hx hb dX1_mirror_28 rfl (lv_at hl 0 rfl) ?_
        refine k_V_i (w0 := ([] : va_W)) (wc := wC h ga gb cA n tx T C K ((mir L P 6).1) ((mir L P 6).2) 0 ua ub) (b := h 0) (As := []) (rest := []) hx hb hml hown hts hK hA hN hV hl.1 (c_X1_cost l D h ga gb cA n tx T C K ((mir L P 6).1) ((mir L P 6).2) 0 ua ub   (by first | omega | assumption) (by first | omega | assumption) (by first | omega | assumption) hq) gX1_mirror_X1_cost rfl rfl rfl hdX1_cost ⟨Nat.le_of_ble_eq_true rfl, Nat.le_of_ble_eq_true rfl⟩ 0 1 rfl rfl rfl rfl rfl (Nat.le_of_ble_eq_true rfl) dX1_mirror_29 ⟨Nat.zero_le _, Nat.zero_le _⟩ (fun r W1 H locs hp hV => ?_)
        obtain ⟨hp1, hp2⟩ := hp
        replace hp1 := hp1.symm
        subst hp1
        replace hp2 := hp2.symm
        subst hp2
        have hV : qV D A s.heap (wC h ga gb cA n tx T C K ((mir L P 6).1) ((mir L P 6).2) 0 ua ub) H locs := hV
        have f1 := cst_lt ((mir L P 6).2) tx (j := n - 1) hC (by omega)
        exact q_iret (W1 := wC h ga gb cA n tx T C K ((mir L P 6).1) ((mir L P 6).2) 0 ua ub) hx hb hr hlocks hV dX1_mirror_32 ⟨rfl, rfl⟩
      · refine lv_aload_n hx hb dX1_mirror_8 rfl (lv_at hl 0 rfl) ?_
        refine lv_iload_n hx hb dX1_mirror_9 rfl (lv_at hl 1 rfl) ?_
        refine lv_bipush (v := nI 11) hx hb dX1_mirror_10 (by decide) ?_
        refine lv_iload_n hx hb dX1_mirror_12 rfl (lv_at hl 1 rfl) ?_
        refine q_isub2 (x := 11) (y := j) (z := (11 - j)) hx hb (by omega) dX1_mirror_13 ?_
        refine k_V_v (w0 := ([] : va_W)) (wc := wC h ga gb cA n tx T C K ((mir L P j).1) ((mir L P j).2) u ua ub) (b := h 0) (As := [.int (nI j), .int (nI (11 - j))]) (rest := []) hx hb hml hown hts hK hA hN hV hl.1 (c_X1_exchange l D h ga gb cA n tx T C K ((mir L P j).1) ((mir L P j).2) u ua ub j (11 - j)  (by first | omega | assumption) (by first | omega | assumption) hq) gX1_mirror_X1_exchange rfl rfl rfl hdX1_exchange ⟨Nat.le_of_ble_eq_true rfl, Nat.le_of_ble_eq_true rfl⟩ 0 1 rfl rfl rfl rfl rfl (Nat.le_of_ble_eq_true rfl) dX1_mirror_14 ⟨Nat.zero_le _, Nat.zero_le _⟩ (fun W1 H locs hp hV => ?_)
        subst hp
        have hV : qV D A s.heap (wC h ga gb cA n tx T C K (exL ((mir L P j).1) j (11 - j)) (exP ((mir L P j).1) ((mir L P j).2) j (11 - j)) u ua ub) H locs := hV
        refine q_iinc (x := j) (z := j + 1) (lv' := [(1, .int (nI (j + 1))), (0, .ref (h 0))]) hx hb dX1_mirror_17 hl (k := 1) rfl (dd := 1) rfl (by omega) (by decide) rfl (fun ls hl => ?_)
        refine lv_goto (tgt := 2) hx hb dX1_mirror_20 (by decide) ?_
        exact ih2  (j + 1) _ _ _ (by omega) (by first | omega | assumption) hV (lv_sub hl [1, 0] rfl)
  exact lp2 7 0 _ _ _ (by omega) (by first | omega | assumption) hV (lv_sub hl [1, 0] rfl)
abbrev rm_X1_gain : Room := { frames := 4, cells := 0, slots := 0, locals := 89 }
set_option maxHeartbeats 4000000 in
set_option maxRecDepth 100000 in
theorem c_X1_gain (l : Launch) (D : va_G) (h : Nat → Nat) (ga : Nat) (gb : Nat) (cA : ClassId) (n : Nat) (tx : Nat → Nat) (T : Nat) (C : Nat) (K : Nat) (L : Nat → Nat) (P : Nat → Nat) (u : Nat) (ua : Nat → Nat) (ub : Nat → Nat) (v1 : Int32) (v2 : Int32)  (hn : n ≤ 60) (htx : ∀ i, tx i < 12) (hC : C ≤ 5) (hp : perm L P) : CTi l D cA yX1_gain wsX1_gain rm_X1_gain [.ref (h 0), .int v1, .int v2] (wC h ga gb cA n tx T C K L P u ua ub) (fun r W1 => r = aGn C L P tx n v1 v2 ∧ W1 = wC h ga gb cA n tx T C K L P u ua ub) := by
  refine CTi.mk (cc := cX1_gain) (maxL := 4) (ret := some .int) (by decide) rfl (Nat.le_of_ble_eq_true rfl) ?_
  intro p e s m below meth c A ls E hV hl
  obtain ⟨hx, hb, hml, hr, hown, hts, hlocks, hK, hA, hN⟩ := E
  have hown : s.vm.findClass RX1 = some m.cls := hown
  have hin1 : ∀ w ∈ wsX10, w ∈ wsX1_gain := fun _ h => List.mem_cons_of_mem _ (List.mem_append_right _ h)
  have hl : lv_has ls 4 [(0, .ref (h 0)), (1, .int v1), (2, .int v2)] := hl
  refine lv_iload_n hx hb dX1_gain_0 rfl (lv_at hl 1 rfl) ?_
  refine lv_iload_n hx hb dX1_gain_1 rfl (lv_at hl 2 rfl) ?_
  refine k_S_i (w0 := wC h ga gb cA n tx T C K L P u ua ub) (wc := ([] : va_W)) (As := [.int v1, .int v2]) (rest := []) hx hb hml hown hts hK hA hN hV hl.1 (c_X1_swapError l D cA v1 v2  ) gX1_gain_X1_swapError rfl rfl rfl hdX1_swapError ⟨Nat.le_of_ble_eq_true rfl, Nat.le_of_ble_eq_true rfl⟩ rfl rfl (Nat.le_of_ble_eq_true rfl) dX1_gain_2 ⟨Nat.zero_le _, Nat.zero_le _⟩ (fun r W1 H locs hp hV => ?_)
  obtain ⟨hp1, hp2⟩ := hp
  replace hp1 := hp1.symm
  subst hp1
  replace hp2 := hp2.symm
  subst hp2
  have hV : qV D A s.heap (wC h ga gb cA n tx T C K L P u ua ub) H locs := hV
  refine lv_istore_n (lv' := [(3, .int (swErr v1 v2)), (0, .ref (h 0)), (1, .int v1), (2, .int v2)]) hx hb dX1_gain_5 rfl hl (by decide) rfl (fun ls hl => ?_)
  refine lv_iload_n hx hb dX1_gain_6 rfl (lv_at hl 0 rfl) ?_
  refine z_if_eq (tgt := 12) hx hb dX1_gain_7 (by decide) (fun c7 => ?_) (fun c7 => ?_)
  · obtain ⟨k1, k2, hk1, hk2, hne, rfl, rfl⟩ := swErr_0 c7
    refine lv_aload_n hx hb dX1_gain_12 rfl (lv_at hl 1 rfl) ?_
    refine k_V_i (w0 := ([] : va_W)) (wc := wC h ga gb cA n tx T C K L P u ua ub) (b := h 0) (As := []) (rest := []) hx hb hml hown hts hK hA hN hV hl.1 (c_X1_cost l D h ga gb cA n tx T C K L P u ua ub   (by first | omega | assumption) (by first | omega | assumption) (by first | omega | assumption) (by first | omega | assumption)) gX1_gain_X1_cost rfl rfl rfl hdX1_cost ⟨Nat.le_of_ble_eq_true rfl, Nat.le_of_ble_eq_true rfl⟩ 0 1 rfl rfl rfl rfl rfl (Nat.le_of_ble_eq_true rfl) dX1_gain_13 ⟨Nat.zero_le _, Nat.zero_le _⟩ (fun r W1 H locs hp hV => ?_)
    obtain ⟨hp1, hp2⟩ := hp
    replace hp1 := hp1.symm
    subst hp1
    replace hp2 := hp2.symm
    subst hp2
    have hV : qV D A s.heap (wC h ga gb cA n tx T C K L P u ua ub) H locs := hV
    have f1 := cst_lt P tx (j := n - 1) hC (by omega)
    refine lv_aload_n hx hb dX1_gain_16 rfl (lv_at hl 1 rfl) ?_
    refine lv_iload_n hx hb dX1_gain_17 rfl (lv_at hl 2 rfl) ?_
    refine lv_iload_n hx hb dX1_gain_18 rfl (lv_at hl 3 rfl) ?_
    refine k_V_i (w0 := ([] : va_W)) (wc := wC h ga gb cA n tx T C K L P u ua ub) (b := h 0) (As := [.int (nI k1), .int (nI k2)]) (rest := [.int (nI (cst C P tx (n - 1)))]) hx hb hml hown hts hK hA hN hV hl.1 (c_X1_costAfterSwap l D h ga gb cA n tx T C K L P u ua ub k1 k2  (by first | omega | assumption) (by first | omega | assumption) (by first | omega | assumption) (by first | omega | assumption) (by first | omega | assumption) (by first | omega | assumption)) gX1_gain_X1_costAfterSwap rfl rfl rfl hdX1_costAfterSwap ⟨Nat.le_of_ble_eq_true rfl, Nat.le_of_ble_eq_true rfl⟩ 0 1 rfl rfl rfl rfl rfl (Nat.le_of_ble_eq_true rfl) dX1_gain_19 ⟨Nat.zero_le _, Nat.zero_le _⟩ (fun r W1 H locs hp hV => ?_)
    obtain ⟨hp1, hp2⟩ := hp
    replace hp1 := hp1.symm
    subst hp1
    replace hp2 := hp2.symm
    subst hp2
    have hV : qV D A s.heap (wC h ga gb cA n tx T C K L P u ua ub) H locs := hV
    have f2 := caf_le L P tx k1 k2 hC hn
    refine lv_isub hx hb dX1_gain_22 ?_
    exact q_iret (W1 := wC h ga gb cA n tx T C K L P u ua ub) hx hb hr hlocks hV dX1_gain_23 ⟨(aGn_ok hk1 hk2 hne).symm, rfl⟩
  · refine lv_iload_n hx hb dX1_gain_10 rfl (lv_at hl 0 rfl) ?_
    exact q_iret (W1 := wC h ga gb cA n tx T C K L P u ua ub) hx hb hr hlocks hV dX1_gain_11 ⟨(aGn_no c7).symm, rfl⟩
abbrev rm_X1_bestSwap : Room := { frames := 4, cells := 0, slots := 0, locals := 89 }
set_option maxHeartbeats 4000000 in
set_option maxRecDepth 100000 in
theorem c_X1_bestSwap (l : Launch) (D : va_G) (h : Nat → Nat) (ga : Nat) (gb : Nat) (cA : ClassId) (n : Nat) (tx : Nat → Nat) (T : Nat) (C : Nat) (K : Nat) (L : Nat → Nat) (P : Nat → Nat) (u : Nat) (ua : Nat → Nat) (ub : Nat → Nat)   (hn : n ≤ 60) (htx : ∀ i, tx i < 12) (hC : C ≤ 5) (hp : perm L P) : CTi l D cA yX1_bestSwap wsX1_bestSwap rm_X1_bestSwap [.ref (h 0)] (wC h ga gb cA n tx T C K L P u ua ub) (fun r W1 => r = bV (bst C L P tx n) ∧ W1 = wC h ga gb cA n tx T C K L P u ua ub) := by
  refine CTi.mk (cc := cX1_bestSwap) (maxL := 6) (ret := some .int) (by decide) rfl (Nat.le_of_ble_eq_true rfl) ?_
  intro p e s m below meth c A ls E hV hl
  obtain ⟨hx, hb, hml, hr, hown, hts, hlocks, hK, hA, hN⟩ := E
  have hown : s.vm.findClass RX1 = some m.cls := hown
  have hin1 : ∀ w ∈ wsX10, w ∈ wsX1_bestSwap := fun _ h => List.mem_cons_of_mem _ (List.mem_append_right _ h)
  have hl : lv_has ls 6 [(0, .ref (h 0))] := hl
  refine lv_aload_n hx hb dX1_bestSwap_0 rfl (lv_at hl 0 rfl) ?_
  refine k_V_i (w0 := ([] : va_W)) (wc := wC h ga gb cA n tx T C K L P u ua ub) (b := h 0) (As := []) (rest := []) hx hb hml hown hts hK hA hN hV hl.1 (c_X1_cost l D h ga gb cA n tx T C K L P u ua ub   (by first | omega | assumption) (by first | omega | assumption) (by first | omega | assumption) (by first | omega | assumption)) gX1_bestSwap_X1_cost rfl rfl rfl hdX1_cost ⟨Nat.le_of_ble_eq_true rfl, Nat.le_of_ble_eq_true rfl⟩ 0 1 rfl rfl rfl rfl rfl (Nat.le_of_ble_eq_true rfl) dX1_bestSwap_1 ⟨Nat.zero_le _, Nat.zero_le _⟩ (fun r W1 H locs hp hV => ?_)
  obtain ⟨hp1, hp2⟩ := hp
  replace hp1 := hp1.symm
  subst hp1
  replace hp2 := hp2.symm
  subst hp2
  have hV : qV D A s.heap (wC h ga gb cA n tx T C K L P u ua ub) H locs := hV
  have f1 := cst_lt P tx (j := n - 1) hC (by omega)
  refine lv_istore_n (lv' := [(1, .int (nI (cst C P tx (n - 1)))), (0, .ref (h 0))]) hx hb dX1_bestSwap_4 rfl hl (by decide) rfl (fun ls hl => ?_)
  refine lv_ldc (v := -1000006) hx hb hown (hts _ (List.mem_of_getElem? (i := 1) rfl)) dX1_bestSwap_5 ?_
  refine lv_istore_n (lv' := [(2, .int (-1000006)), (1, .int (nI (cst C P tx (n - 1)))), (0, .ref (h 0))]) hx hb dX1_bestSwap_7 rfl hl (by decide) rfl (fun ls hl => ?_)
  refine lv_iconst (v := nI 0) hx hb dX1_bestSwap_8 (by decide) ?_
  refine lv_istore_n (lv' := [(3, .int (nI 0)), (2, .int (-1000006)), (1, .int (nI (cst C P tx (n - 1)))), (0, .ref (h 0))]) hx hb dX1_bestSwap_9 rfl hl (by decide) rfl (fun ls hl => ?_)
  have lp10 : ∀ (d10 : Nat) (i : Nat) (H : Heap) (locs : List Loc) (ls : Array Slot), (13 ≤ i + d10) → (i ≤ 12) → qV D A s.heap (wC h ga gb cA n tx T C K L P u ua ub) H locs → lv_has ls 6 [(0, .ref (h 0)), (1, .int (nI ((bO (caf C L P tx n) (cst C P tx (n - 1)) i).1))), (2, .int (bV (bO (caf C L P tx n) (cst C P tx (n - 1)) i).2)), (3, .int (nI i))] → W p l e rm_X1_bestSwap s m ([.ref (h 0)] : List Value).toArray below meth c H locs 0 0 (MQ below (va_Qi (fun r W1 => r = bV (bst C L P tx n) ∧ W1 = wC h ga gb cA n tx T C K L P u ua ub) (cPost D A) A) ([.ref (h 0)] : List Value).toArray s 0 0 A) (F0 m 10 ls []) := by
    intro d10
    induction d10 with
    | zero => intro i H locs ls hm10 hi hV hl; exfalso; omega
    | succ d10 ih10 =>
      intro i H locs ls hm10 hi hV hl
      refine lv_iload_n hx hb dX1_bestSwap_10 rfl (lv_at hl 3 rfl) ?_
      refine lv_bipush (v := nI 12) hx hb dX1_bestSwap_11 (by decide) ?_
      refine q_icmp_ge (x := i) (y := 12) (tgt := 66) hx hb dX1_bestSwap_13 (by decide) (by omega) (by omega) (fun c13 => ?_) (fun c13 => ?_)
      · refine lv_iload_n hx hb dX1_bestSwap_66 rfl (lv_at hl 2 rfl) ?_
        have ei : i = 12 := by omega
        subst ei
        exact q_iret (W1 := wC h ga gb cA n tx T C K L P u ua ub) hx hb hr hlocks hV dX1_bestSwap_67 ⟨rfl, rfl⟩
      · refine lv_iload_n hx hb dX1_bestSwap_16 rfl (lv_at hl 3 rfl) ?_
        refine lv_iconst (v := nI 1) hx hb dX1_bestSwap_17 (by decide) ?_
        refine q_iadd2 (x := i) (y := 1) (z := i + 1) hx hb (by omega) dX1_bestSwap_18 ?_
        refine lv_istore (lv' := [(4, .int (nI (i + 1))), (0, .ref (h 0)), (1, .int (nI ((bO (caf C L P tx n) (cst C P tx (n - 1)) i).1))), (2, .int (bV (bO (caf C L P tx n) (cst C P tx (n - 1)) i).2)), (3, .int (nI i))]) hx hb dX1_bestSwap_19 hl (by decide) rfl (fun ls hl => ?_)
        have lp21 : ∀ (d21 : Nat) (j : Nat) (H : Heap) (locs : List Loc) (ls : Array Slot), (13 ≤ i + 1 + j + d21) → (i + 1 + j ≤ 12) → qV D A s.heap (wC h ga gb cA n tx T C K L P u ua ub) H locs → lv_has ls 6 [(0, .ref (h 0)), (1, .int (nI ((bIn (caf C L P tx n) i (bO (caf C L P tx n) (cst C P tx (n - 1)) i) j).1))), (2, .int (bV (bIn (caf C L P tx n) i (bO (caf C L P tx n) (cst C P tx (n - 1)) i) j).2)), (3, .int (nI i)), (4, .int (nI (i + j + 1)))] → W p l e rm_X1_bestSwap s m ([.ref (h 0)] : List Value).toArray below meth c H locs 0 0 (MQ below (va_Qi (fun r W1 => r = bV (bst C L P tx n) ∧ W1 = wC h ga gb cA n tx T C K L P u ua ub) (cPost D A) A) ([.ref (h 0)] : List Value).toArray s 0 0 A) (F0 m 21 ls []) := by
          intro d21
          induction d21 with
          | zero => intro j H locs ls hm21 hj hV hl; exfalso; omega
          | succ d21 ih21 =>
            intro j H locs ls hm21 hj hV hl
            have f1 := bIn_le (caf C L P tx n) i (bO (caf C L P tx n) (cst C P tx (n - 1)) i) j
            have f2 := bO_le (caf C L P tx n) (cst C P tx (n - 1)) i
            have f3 := cst_lt P tx (j := n - 1) hC (by omega)
            refine lv_iload hx hb dX1_bestSwap_21 (lv_at hl 4 rfl) ?_
            refine lv_bipush (v := nI 12) hx hb dX1_bestSwap_23 (by decide) ?_
            refine q_icmp_ge (x := i + j + 1) (y := 12) (tgt := 60) hx hb dX1_bestSwap_25 (by decide) (by omega) (by omega) (fun c25 => ?_) (fun c25 => ?_)
            · have ej : j = 11 - i := by omega
              subst ej
              refine q_iinc (x := i) (z := i + 1) (lv' := [(3, .int (nI (i + 1))), (0, .ref (h 0)), (1, .int (nI ((bIn (caf C L P tx n) i (bO (caf C L P tx n) (cst C P tx (n - 1)) i) (11 - i)).1))), (2, .int (bV (bIn (caf C L P tx n) i (bO (caf C L P tx n) (cst C P tx (n - 1)) i) (11 - i)).2)), (4, .int (nI (i + (11 - i) + 1)))]) hx hb dX1_bestSwap_60 hl (k := 3) rfl (dd := 1) rfl (by omega) (by decide) rfl (fun ls hl => ?_)
              refine lv_goto (tgt := 10) hx hb dX1_bestSwap_63 (by decide) ?_
              exact ih10  (i + 1) _ _ _ (by omega) (by first | omega | assumption) hV (lv_sub hl [1, 2, 3, 0] rfl)
            · refine lv_aload_n hx hb dX1_bestSwap_28 rfl (lv_at hl 0 rfl) ?_
              refine lv_iload_n hx hb dX1_bestSwap_29 rfl (lv_at hl 3 rfl) ?_
              refine lv_iload hx hb dX1_bestSwap_30 (lv_at hl 4 rfl) ?_
              refine k_V_i (w0 := ([] : va_W)) (wc := wC h ga gb cA n tx T C K L P u ua ub) (b := h 0) (As := [.int (nI i), .int (nI (i + j + 1))]) (rest := []) hx hb hml hown hts hK hA hN hV hl.1 (c_X1_costAfterSwap l D h ga gb cA n tx T C K L P u ua ub i (i + j + 1)  (by first | omega | assumption) (by first | omega | assumption) (by first | omega | assumption) (by first | omega | assumption) (by first | omega | assumption) (by first | omega | assumption)) gX1_bestSwap_X1_costAfterSwap rfl rfl rfl hdX1_costAfterSwap ⟨Nat.le_of_ble_eq_true rfl, Nat.le_of_ble_eq_true rfl⟩ 0 1 rfl rfl rfl rfl rfl (Nat.le_of_ble_eq_true rfl) dX1_bestSwap_32 ⟨Nat.zero_le _, Nat.zero_le _⟩ (fun r W1 H locs hp hV => ?_)
              obtain ⟨hp1, hp2⟩ := hp
              replace hp1 := hp1.symm
              subst hp1
              replace hp2 := hp2.symm
              subst hp2
              have hV : qV D A s.heap (wC h ga gb cA n tx T C K L P u ua ub) H locs := hV
              have f2 := caf_le L P tx i (i + j + 1) hC hn
              refine lv_istore (lv' := [(5, .int (nI (caf C L P tx n i (i + j + 1)))), (0, .ref (h 0)), (1, .int (nI ((bIn (caf C L P tx n) i (bO (caf C L P tx n) (cst C P tx (n - 1)) i) j).1))), (2, .int (bV (bIn (caf C L P tx n) i (bO (caf C L P tx n) (cst C P tx (n - 1)) i) j).2)), (3, .int (nI i)), (4, .int (nI (i + j + 1)))]) hx hb dX1_bestSwap_35 hl (by decide) rfl (fun ls hl => ?_)
              refine lv_iload hx hb dX1_bestSwap_37 (lv_at hl 0 rfl) ?_
              refine lv_iload_n hx hb dX1_bestSwap_39 rfl (lv_at hl 2 rfl) ?_
              refine q_icmp_ge (x := (caf C L P tx n i (i + j + 1))) (y := ((bIn (caf C L P tx n) i (bO (caf C L P tx n) (cst C P tx (n - 1)) i) j).1)) (tgt := 54) hx hb dX1_bestSwap_40 (by decide) (by omega) (by omega) (fun c40 => ?_) (fun c40 => ?_)
              · refine q_iinc (x := i + j + 1) (z := i + j + 2) (lv' := [(4, .int (nI (i + j + 2))), (5, .int (nI (caf C L P tx n i (i + j + 1)))), (0, .ref (h 0)), (1, .int (nI ((bIn (caf C L P tx n) i (bO (caf C L P tx n) (cst C P tx (n - 1)) i) j).1))), (2, .int (bV (bIn (caf C L P tx n) i (bO (caf C L P tx n) (cst C P tx (n - 1)) i) j).2)), (3, .int (nI i))]) hx hb dX1_bestSwap_54 hl (k := 5) rfl (dd := 1) rfl (by omega) (by decide) rfl (fun ls hl => ?_)
                refine lv_goto (tgt := 21) hx hb dX1_bestSwap_57 (by decide) ?_
                have e0 : (bIn (caf C L P tx n) i (bO (caf C L P tx n) (cst C P tx (n - 1)) i) (j + 1)) = (bIn (caf C L P tx n) i (bO (caf C L P tx n) (cst C P tx (n - 1)) i) j) := if_neg (by omega)
                exact ih21  (j + 1) _ _ _ (by omega) (by first | omega | assumption) hV (by rw [e0]; exact lv_sub hl [2, 3, 4, 5, 0] rfl)
              · refine lv_iload hx hb dX1_bestSwap_43 (lv_at hl 0 rfl) ?_
                refine lv_istore_n (lv' := [(1, .int (nI (caf C L P tx n i (i + j + 1)))), (5, .int (nI (caf C L P tx n i (i + j + 1)))), (0, .ref (h 0)), (2, .int (bV (bIn (caf C L P tx n) i (bO (caf C L P tx n) (cst C P tx (n - 1)) i) j).2)), (3, .int (nI i)), (4, .int (nI (i + j + 1)))]) hx hb dX1_bestSwap_45 rfl hl (by decide) rfl (fun ls hl => ?_)
                refine lv_bipush (v := nI 100) hx hb dX1_bestSwap_46 (by decide) ?_
                refine lv_iload_n hx hb dX1_bestSwap_48 rfl (lv_at hl 4 rfl) ?_
                refine q_imul2 (x := 100) (y := i) (z := 100 * i) hx hb (by omega) dX1_bestSwap_49 ?_
                refine lv_iload hx hb dX1_bestSwap_50 (lv_at hl 5 rfl) ?_
                refine q_iadd2 (x := 100 * i) (y := i + j + 1) (z := 101 * i + j + 1) hx hb (by omega) dX1_bestSwap_52 ?_
                refine lv_istore_n (lv' := [(2, .int (nI (101 * i + j + 1))), (1, .int (nI (caf C L P tx n i (i + j + 1)))), (5, .int (nI (caf C L P tx n i (i + j + 1)))), (0, .ref (h 0)), (3, .int (nI i)), (4, .int (nI (i + j + 1)))]) hx hb dX1_bestSwap_53 rfl hl (by decide) rfl (fun ls hl => ?_)
                refine q_iinc (x := i + j + 1) (z := i + j + 2) (lv' := [(4, .int (nI (i + j + 2))), (2, .int (nI (101 * i + j + 1))), (1, .int (nI (caf C L P tx n i (i + j + 1)))), (5, .int (nI (caf C L P tx n i (i + j + 1)))), (0, .ref (h 0)), (3, .int (nI i))]) hx hb dX1_bestSwap_54 hl (k := 5) rfl (dd := 1) rfl (by omega) (by decide) rfl (fun ls hl => ?_)
                refine lv_goto (tgt := 21) hx hb dX1_bestSwap_57 (by decide) ?_
                have e0 : (bIn (caf C L P tx n) i (bO (caf C L P tx n) (cst C P tx (n - 1)) i) (j + 1)) = (caf C L P tx n i (i + j + 1), 100 * i + (i + j + 1)) := if_pos (by omega)
                have e2 : bV (100 * i + (i + j + 1)) = nI (101 * i + j + 1) := by rw [bV_nI (by omega)]; congr 1; omega
                exact ih21  (j + 1) _ _ _ (by omega) (by first | omega | assumption) hV (by rw [e0, e2]; exact lv_sub hl [4, 2, 1, 5, 0] rfl)
        exact lp21 13 0 _ _ _ (by omega) (by first | omega | assumption) hV (lv_sub hl [1, 2, 3, 4, 0] rfl)
  exact lp10 13 0 _ _ _ (by omega) (by first | omega | assumption) hV (lv_sub hl [3, 2, 1, 0] rfl)
abbrev rm_X1_closenessOf : Room := { frames := 2, cells := 0, slots := 0, locals := 44 }
set_option maxHeartbeats 4000000 in
set_option maxRecDepth 100000 in
theorem c_X1_closenessOf (l : Launch) (D : va_G) (h : Nat → Nat) (ga : Nat) (gb : Nat) (cA : ClassId) (n : Nat) (tx : Nat → Nat) (T : Nat) (C : Nat) (K : Nat) (L : Nat → Nat) (P : Nat → Nat) (u : Nat) (ua : Nat → Nat) (ub : Nat → Nat) (a : Nat)  (h_a : a < 12) (hn : n ≤ 60) (htx : ∀ i, tx i < 12) (hC : C ≤ 5) (hp : perm L P) : CTi l D cA yX1_closenessOf wsX1_closenessOf rm_X1_closenessOf [.ref (h 0), .int (nI a)] (wC h ga gb cA n tx T C K L P u ua ub) (fun r W1 => r = nI (prt C P tx a (n - 1)) ∧ W1 = wC h ga gb cA n tx T C K L P u ua ub) := by
  refine CTi.mk (cc := cX1_closenessOf) (maxL := 4) (ret := some .int) (by decide) rfl (Nat.le_of_ble_eq_true rfl) ?_
  intro p e s m below meth c A ls E hV hl
  obtain ⟨hx, hb, hml, hr, hown, hts, hlocks, hK, hA, hN⟩ := E
  have hown : s.vm.findClass RX1 = some m.cls := hown
  have hin1 : ∀ w ∈ wsX10, w ∈ wsX1_closenessOf := fun _ h => List.mem_cons_of_mem _ (List.mem_append_right _ h)
  have hl : lv_has ls 4 [(0, .ref (h 0)), (1, .int (nI a))] := hl
  refine lv_iconst (v := nI 0) hx hb dX1_closenessOf_0 (by decide) ?_
  refine lv_istore_n (lv' := [(2, .int (nI 0)), (0, .ref (h 0)), (1, .int (nI a))]) hx hb dX1_closenessOf_1 rfl hl (by decide) rfl (fun ls hl => ?_)
  refine lv_iconst (v := nI 1) hx hb dX1_closenessOf_2 (by decide) ?_
  refine lv_istore_n (lv' := [(3, .int (nI 1)), (2, .int (nI 0)), (0, .ref (h 0)), (1, .int (nI a))]) hx hb dX1_closenessOf_3 rfl hl (by decide) rfl (fun ls hl => ?_)
  have lp4 : ∀ (d4 : Nat) (j : Nat) (H : Heap) (locs : List Loc) (ls : Array Slot), (61 ≤ j + d4) → (j = 0 ∨ j + 1 ≤ n) → qV D A s.heap (wC h ga gb cA n tx T C K L P u ua ub) H locs → lv_has ls 4 [(0, .ref (h 0)), (1, .int (nI a)), (2, .int (nI (prt C P tx a j))), (3, .int (nI (j + 1)))] → W p l e rm_X1_closenessOf s m ([.ref (h 0), .int (nI a)] : List Value).toArray below meth c H locs 0 0 (MQ below (va_Qi (fun r W1 => r = nI (prt C P tx a (n - 1)) ∧ W1 = wC h ga gb cA n tx T C K L P u ua ub) (cPost D A) A) ([.ref (h 0), .int (nI a)] : List Value).toArray s 0 0 A) (F0 m 4 ls []) := by
    intro d4
    induction d4 with
    | zero => intro j H locs ls hm4 hj hV hl; exfalso; omega
    | succ d4 ih4 =>
      intro j H locs ls hm4 hj hV hl
      have g1 := prt_le C P tx a j
      have g2 := cst_lt P tx (j := j) hC (by omega)
      refine lv_iload_n hx hb dX1_closenessOf_4 rfl (lv_at hl 3 rfl) ?_
      refine lv_aload_n hx hb dX1_closenessOf_5 rfl (lv_at hl 0 rfl) ?_
      refine q_get (C := RX1) (T := TX1) (N := 12) (ci := 1) (v := .int (nI n)) hx hb hts hin1 hown hK hV 0 rfl rfl 1 (by decide) (List.mem_of_getElem? (i := 1) rfl) rfl dX1_closenessOf_6 ?_
      refine q_icmp_ge (x := j + 1) (y := n) (tgt := 61) hx hb dX1_closenessOf_9 (by decide) (by omega) (by omega) (fun c9 => ?_) (fun c9 => ?_)
      · refine lv_iload_n hx hb dX1_closenessOf_61 rfl (lv_at hl 2 rfl) ?_
        have ej : j = n - 1 := by omega
        exact q_iret (W1 := wC h ga gb cA n tx T C K L P u ua ub) hx hb hr hlocks hV dX1_closenessOf_62 ⟨by rw [ej], rfl⟩
      · refine lv_aload_n hx hb dX1_closenessOf_12 rfl (lv_at hl 0 rfl) ?_
        refine q_get (C := RX1) (T := TX1) (N := 12) (ci := 1) (v := .ref (h 1)) hx hb hts hin1 hown hK hV 0 rfl rfl 0 (by decide) (List.mem_of_getElem? (i := 2) rfl) rfl dX1_closenessOf_13 ?_
        refine lv_iload_n hx hb dX1_closenessOf_16 rfl (lv_at hl 3 rfl) ?_
        refine lv_iconst (v := nI 1) hx hb dX1_closenessOf_17 (by decide) ?_
        refine q_isub2 (x := j + 1) (y := 1) (z := j) hx hb (by omega) dX1_closenessOf_18 ?_
        refine q_iald (n := 60) (k := j) (f := tx) hx hb hK hV 1 rfl (by omega) (by omega) dX1_closenessOf_19 ?_
        have f1 := htx j
        refine lv_iload_n hx hb dX1_closenessOf_20 rfl (lv_at hl 1 rfl) ?_
        refine q_icmp_eq (x := (tx j)) (y := a) (tgt := 34) hx hb dX1_closenessOf_21 (by decide) (by omega) (by omega) (fun c21 => ?_) (fun c21 => ?_)
        · refine lv_iload_n hx hb dX1_closenessOf_34 rfl (lv_at hl 2 rfl) ?_
          refine lv_aload_n hx hb dX1_closenessOf_35 rfl (lv_at hl 0 rfl) ?_
          refine lv_aload_n hx hb dX1_closenessOf_36 rfl (lv_at hl 0 rfl) ?_
          refine q_get (C := RX1) (T := TX1) (N := 12) (ci := 1) (v := .ref (h 1)) hx hb hts hin1 hown hK hV 0 rfl rfl 0 (by decide) (List.mem_of_getElem? (i := 2) rfl) rfl dX1_closenessOf_37 ?_
          refine lv_iload_n hx hb dX1_closenessOf_40 rfl (lv_at hl 3 rfl) ?_
          refine lv_iconst (v := nI 1) hx hb dX1_closenessOf_41 (by decide) ?_
          refine q_isub2 (x := j + 1) (y := 1) (z := j) hx hb (by omega) dX1_closenessOf_42 ?_
          refine q_iald (n := 60) (k := j) (f := tx) hx hb hK hV 1 rfl (by omega) (by omega) dX1_closenessOf_43 ?_
          have f2 := htx j
          refine lv_aload_n hx hb dX1_closenessOf_44 rfl (lv_at hl 0 rfl) ?_
          refine q_get (C := RX1) (T := TX1) (N := 12) (ci := 1) (v := .ref (h 1)) hx hb hts hin1 hown hK hV 0 rfl rfl 0 (by decide) (List.mem_of_getElem? (i := 2) rfl) rfl dX1_closenessOf_45 ?_
          refine lv_iload_n hx hb dX1_closenessOf_48 rfl (lv_at hl 3 rfl) ?_
          refine q_iald (n := 60) (k := j + 1) (f := tx) hx hb hK hV 1 rfl (by omega) (by omega) dX1_closenessOf_49 ?_
          have f3 := htx (j + 1)
          refine k_V_i (w0 := ([] : va_W)) (wc := wC h ga gb cA n tx T C K L P u ua ub) (b := h 0) (As := [.int (nI (tx j)), .int (nI (tx (j + 1)))]) (rest := [.int (nI (prt C P tx a j))]) hx hb hml hown hts hK hA hN hV hl.1 (c_X1_closeness l D h ga gb cA n tx T C K L P u ua ub (tx j) (tx (j + 1))  (by first | omega | assumption) (by first | omega | assumption) (by first | omega | assumption) (by first | omega | assumption)) gX1_closenessOf_X1_closeness rfl rfl rfl hdX1_closeness ⟨Nat.le_of_ble_eq_true rfl, Nat.le_of_ble_eq_true rfl⟩ 0 1 rfl rfl rfl rfl rfl (Nat.le_of_ble_eq_true rfl) dX1_closenessOf_50 ⟨Nat.zero_le _, Nat.zero_le _⟩ (fun r W1 H locs hp hV => ?_)
          obtain ⟨hp1, hp2⟩ := hp
          replace hp1 := hp1.symm
          subst hp1
          replace hp2 := hp2.symm
          subst hp2
          have hV : qV D A s.heap (wC h ga gb cA n tx T C K L P u ua ub) H locs := hV
          have f4 := clos_le C P (tx j) (tx (j + 1))
          refine q_iadd2 (x := (prt C P tx a j)) (y := (clos C P (tx j) (tx (j + 1)))) (z := (prt C P tx a j) + (clos C P (tx j) (tx (j + 1)))) hx hb (by omega) dX1_closenessOf_53 ?_
          refine lv_istore_n (lv' := [(2, .int (nI ((prt C P tx a j) + (clos C P (tx j) (tx (j + 1)))))), (0, .ref (h 0)), (1, .int (nI a)), (3, .int (nI (j + 1)))]) hx hb dX1_closenessOf_54 rfl hl (by decide) rfl (fun ls hl => ?_)
          refine q_iinc (x := j + 1) (z := j + 2) (lv' := [(3, .int (nI (j + 2))), (2, .int (nI ((prt C P tx a j) + (clos C P (tx j) (tx (j + 1)))))), (0, .ref (h 0)), (1, .int (nI a))]) hx hb dX1_closenessOf_55 hl (k := 3) rfl (dd := 1) rfl (by omega) (by decide) rfl (fun ls hl => ?_)
          refine lv_goto (tgt := 4) hx hb dX1_closenessOf_58 (by decide) ?_
          have e1 : prt C P tx a (j + 1) = (prt C P tx a j) + (clos C P (tx j) (tx (j + 1))) := by show prt C P tx a j + _ = _; rw [if_pos (by omega)]
          exact ih4  (j + 1) _ _ _ (by omega) (by first | omega | assumption) hV (by rw [e1]; exact lv_sub hl [2, 3, 1, 0] rfl)
        · refine lv_aload_n hx hb dX1_closenessOf_24 rfl (lv_at hl 0 rfl) ?_
          refine q_get (C := RX1) (T := TX1) (N := 12) (ci := 1) (v := .ref (h 1)) hx hb hts hin1 hown hK hV 0 rfl rfl 0 (by decide) (List.mem_of_getElem? (i := 2) rfl) rfl dX1_closenessOf_25 ?_
          refine lv_iload_n hx hb dX1_closenessOf_28 rfl (lv_at hl 3 rfl) ?_
          refine q_iald (n := 60) (k := j + 1) (f := tx) hx hb hK hV 1 rfl (by omega) (by omega) dX1_closenessOf_29 ?_
          have f5 := htx (j + 1)
          refine lv_iload_n hx hb dX1_closenessOf_30 rfl (lv_at hl 1 rfl) ?_
          refine q_icmp_ne (x := (tx (j + 1))) (y := a) (tgt := 55) hx hb dX1_closenessOf_31 (by decide) (by omega) (by omega) (fun c31 => ?_) (fun c31 => ?_)
          · refine q_iinc (x := j + 1) (z := j + 2) (lv' := [(3, .int (nI (j + 2))), (0, .ref (h 0)), (1, .int (nI a)), (2, .int (nI (prt C P tx a j)))]) hx hb dX1_closenessOf_55 hl (k := 3) rfl (dd := 1) rfl (by omega) (by decide) rfl (fun ls hl => ?_)
            refine lv_goto (tgt := 4) hx hb dX1_closenessOf_58 (by decide) ?_
            have e1 : prt C P tx a (j + 1) = (prt C P tx a j) := by show prt C P tx a j + _ = _; rw [if_neg (by omega), Nat.add_zero]
            exact ih4  (j + 1) _ _ _ (by omega) (by first | omega | assumption) hV (by rw [e1]; exact lv_sub hl [1, 2, 3, 0] rfl)
          · refine lv_iload_n hx hb dX1_closenessOf_34 rfl (lv_at hl 2 rfl) ?_
            refine lv_aload_n hx hb dX1_closenessOf_35 rfl (lv_at hl 0 rfl) ?_
            refine lv_aload_n hx hb dX1_closenessOf_36 rfl (lv_at hl 0 rfl) ?_
            refine q_get (C := RX1) (T := TX1) (N := 12) (ci := 1) (v := .ref (h 1)) hx hb hts hin1 hown hK hV 0 rfl rfl 0 (by decide) (List.mem_of_getElem? (i := 2) rfl) rfl dX1_closenessOf_37 ?_
            refine lv_iload_n hx hb dX1_closenessOf_40 rfl (lv_at hl 3 rfl) ?_
            refine lv_iconst (v := nI 1) hx hb dX1_closenessOf_41 (by decide) ?_
            refine q_isub2 (x := j + 1) (y := 1) (z := j) hx hb (by omega) dX1_closenessOf_42 ?_
            refine q_iald (n := 60) (k := j) (f := tx) hx hb hK hV 1 rfl (by omega) (by omega) dX1_closenessOf_43 ?_
            have f6 := htx j
            refine lv_aload_n hx hb dX1_closenessOf_44 rfl (lv_at hl 0 rfl) ?_
            refine q_get (C := RX1) (T := TX1) (N := 12) (ci := 1) (v := .ref (h 1)) hx hb hts hin1 hown hK hV 0 rfl rfl 0 (by decide) (List.mem_of_getElem? (i := 2) rfl) rfl dX1_closenessOf_45 ?_
            refine lv_iload_n hx hb dX1_closenessOf_48 rfl (lv_at hl 3 rfl) ?_
            refine q_iald (n := 60) (k := j + 1) (f := tx) hx hb hK hV 1 rfl (by omega) (by omega) dX1_closenessOf_49 ?_
            have f7 := htx (j + 1)
            refine k_V_i (w0 := ([] : va_W)) (wc := wC h ga gb cA n tx T C K L P u ua ub) (b := h 0) (As := [.int (nI (tx j)), .int (nI (tx (j + 1)))]) (rest := [.int (nI (prt C P tx a j))]) hx hb hml hown hts hK hA hN hV hl.1 (c_X1_closeness l D h ga gb cA n tx T C K L P u ua ub (tx j) (tx (j + 1))  (by first | omega | assumption) (by first | omega | assumption) (by first | omega | assumption) (by first | omega | assumption)) gX1_closenessOf_X1_closeness rfl rfl rfl hdX1_closeness ⟨Nat.le_of_ble_eq_true rfl, Nat.le_of_ble_eq_true rfl⟩ 0 1 rfl rfl rfl rfl rfl (Nat.le_of_ble_eq_true rfl) dX1_closenessOf_50 ⟨Nat.zero_le _, Nat.zero_le _⟩ (fun r W1 H locs hp hV => ?_)
            obtain ⟨hp1, hp2⟩ := hp
            replace hp1 := hp1.symm
            subst hp1
            replace hp2 := hp2.symm
            subst hp2
            have hV : qV D A s.heap (wC h ga gb cA n tx T C K L P u ua ub) H locs := hV
            have f8 := clos_le C P (tx j) (tx (j + 1))
            refine q_iadd2 (x := (prt C P tx a j)) (y := (clos C P (tx j) (tx (j + 1)))) (z := (prt C P tx a j) + (clos C P (tx j) (tx (j + 1)))) hx hb (by omega) dX1_closenessOf_53 ?_
            refine lv_istore_n (lv' := [(2, .int (nI ((prt C P tx a j) + (clos C P (tx j) (tx (j + 1)))))), (0, .ref (h 0)), (1, .int (nI a)), (3, .int (nI (j + 1)))]) hx hb dX1_closenessOf_54 rfl hl (by decide) rfl (fun ls hl => ?_)
            refine q_iinc (x := j + 1) (z := j + 2) (lv' := [(3, .int (nI (j + 2))), (2, .int (nI ((prt C P tx a j) + (clos C P (tx j) (tx (j + 1)))))), (0, .ref (h 0)), (1, .int (nI a))]) hx hb dX1_closenessOf_55 hl (k := 3) rfl (dd := 1) rfl (by omega) (by decide) rfl (fun ls hl => ?_)
            refine lv_goto (tgt := 4) hx hb dX1_closenessOf_58 (by decide) ?_
            have e1 : prt C P tx a (j + 1) = (prt C P tx a j) + (clos C P (tx j) (tx (j + 1))) := by show prt C P tx a j + _ = _; rw [if_pos (by omega)]
            exact ih4  (j + 1) _ _ _ (by omega) (by first | omega | assumption) hV (by rw [e1]; exact lv_sub hl [2, 3, 1, 0] rfl)
  exact lp4 61 0 _ _ _ (by omega) (by first | omega | assumption) hV (lv_sub hl [2, 3, 1, 0] rfl)
abbrev rm_X1_worstLetter : Room := { frames := 3, cells := 0, slots := 0, locals := 67 }
set_option maxHeartbeats 4000000 in
set_option maxRecDepth 100000 in
theorem c_X1_worstLetter (l : Launch) (D : va_G) (h : Nat → Nat) (ga : Nat) (gb : Nat) (cA : ClassId) (n : Nat) (tx : Nat → Nat) (T : Nat) (C : Nat) (K : Nat) (L : Nat → Nat) (P : Nat → Nat) (u : Nat) (ua : Nat → Nat) (ub : Nat → Nat)   (hn : n ≤ 60) (htx : ∀ i, tx i < 12) (hC : C ≤ 5) (hp : perm L P) : CTi l D cA yX1_worstLetter wsX1_worstLetter rm_X1_worstLetter [.ref (h 0)] (wC h ga gb cA n tx T C K L P u ua ub) (fun r W1 => r = wV (wst C P tx n 12).2 ∧ W1 = wC h ga gb cA n tx T C K L P u ua ub) := by
  refine CTi.mk (cc := cX1_worstLetter) (maxL := 5) (ret := some .int) (by decide) rfl (Nat.le_of_ble_eq_true rfl) ?_
  intro p e s m below meth c A ls E hV hl
  obtain ⟨hx, hb, hml, hr, hown, hts, hlocks, hK, hA, hN⟩ := E
  have hown : s.vm.findClass RX1 = some m.cls := hown
  have hin1 : ∀ w ∈ wsX10, w ∈ wsX1_worstLetter := fun _ h => List.mem_cons_of_mem _ (List.mem_append_right _ h)
  have hl : lv_has ls 5 [(0, .ref (h 0))] := hl
  refine lv_iconst (v := nI 0) hx hb dX1_worstLetter_0 (by decide) ?_
  refine lv_istore_n (lv' := [(1, .int (nI 0)), (0, .ref (h 0))]) hx hb dX1_worstLetter_1 rfl hl (by decide) rfl (fun ls hl => ?_)
  refine lv_ldc (v := -1000006) hx hb hown (hts _ (List.mem_of_getElem? (i := 1) rfl)) dX1_worstLetter_2 ?_
  refine lv_istore_n (lv' := [(2, .int (-1000006)), (1, .int (nI 0)), (0, .ref (h 0))]) hx hb dX1_worstLetter_4 rfl hl (by decide) rfl (fun ls hl => ?_)
  refine lv_iconst (v := nI 0) hx hb dX1_worstLetter_5 (by decide) ?_
  refine lv_istore_n (lv' := [(3, .int (nI 0)), (2, .int (-1000006)), (1, .int (nI 0)), (0, .ref (h 0))]) hx hb dX1_worstLetter_6 rfl hl (by decide) rfl (fun ls hl => ?_)
  have lp7 : ∀ (d7 : Nat) (i : Nat) (H : Heap) (locs : List Loc) (ls : Array Slot), (13 ≤ i + d7) → (i ≤ 12) → qV D A s.heap (wC h ga gb cA n tx T C K L P u ua ub) H locs → lv_has ls 5 [(0, .ref (h 0)), (1, .int (nI ((wst C P tx n i).1))), (2, .int (wV (wst C P tx n i).2)), (3, .int (nI i))] → W p l e rm_X1_worstLetter s m ([.ref (h 0)] : List Value).toArray below meth c H locs 0 0 (MQ below (va_Qi (fun r W1 => r = wV (wst C P tx n 12).2 ∧ W1 = wC h ga gb cA n tx T C K L P u ua ub) (cPost D A) A) ([.ref (h 0)] : List Value).toArray s 0 0 A) (F0 m 7 ls []) := by
    intro d7
    induction d7 with
    | zero => intro i H locs ls hm7 hi hV hl; exfalso; omega
    | succ d7 ih7 =>
      intro i H locs ls hm7 hi hV hl
      have g1 := wst_le P tx hC hn i
      refine lv_iload_n hx hb dX1_worstLetter_7 rfl (lv_at hl 3 rfl) ?_
      refine lv_bipush (v := nI 12) hx hb dX1_worstLetter_8 (by decide) ?_
      refine q_icmp_ge (x := i) (y := 12) (tgt := 37) hx hb dX1_worstLetter_10 (by decide) (by omega) (by omega) (fun c10 => ?_) (fun c10 => ?_)
      · refine lv_iload_n hx hb dX1_worstLetter_37 rfl (lv_at hl 2 rfl) ?_
        have ei : i = 12 := by omega
        subst ei
        exact q_iret (W1 := wC h ga gb cA n tx T C K L P u ua ub) hx hb hr hlocks hV dX1_worstLetter_38 ⟨rfl, rfl⟩
      · refine lv_aload_n hx hb dX1_worstLetter_13 rfl (lv_at hl 0 rfl) ?_
        refine lv_iload_n hx hb dX1_worstLetter_14 rfl (lv_at hl 3 rfl) ?_
        refine k_V_i (w0 := ([] : va_W)) (wc := wC h ga gb cA n tx T C K L P u ua ub) (b := h 0) (As := [.int (nI i)]) (rest := []) hx hb hml hown hts hK hA hN hV hl.1 (c_X1_closenessOf l D h ga gb cA n tx T C K L P u ua ub i  (by first | omega | assumption) (by first | omega | assumption) (by first | omega | assumption) (by first | omega | assumption) (by first | omega | assumption)) gX1_worstLetter_X1_closenessOf rfl rfl rfl hdX1_closenessOf ⟨Nat.le_of_ble_eq_true rfl, Nat.le_of_ble_eq_true rfl⟩ 0 1 rfl rfl rfl rfl rfl (Nat.le_of_ble_eq_true rfl) dX1_worstLetter_15 ⟨Nat.zero_le _, Nat.zero_le _⟩ (fun r W1 H locs hp hV => ?_)
        obtain ⟨hp1, hp2⟩ := hp
        replace hp1 := hp1.symm
        subst hp1
        replace hp2 := hp2.symm
        subst hp2
        have hV : qV D A s.heap (wC h ga gb cA n tx T C K L P u ua ub) H locs := hV
        have f1 := Nat.le_trans (prt_le C P tx i (n - 1)) (cst_lt P tx (j := n - 1) hC (by omega))
        refine lv_istore (lv' := [(4, .int (nI (prt C P tx i (n - 1)))), (0, .ref (h 0)), (1, .int (nI ((wst C P tx n i).1))), (2, .int (wV (wst C P tx n i).2)), (3, .int (nI i))]) hx hb dX1_worstLetter_18 hl (by decide) rfl (fun ls hl => ?_)
        refine lv_iload hx hb dX1_worstLetter_20 (lv_at hl 0 rfl) ?_
        refine lv_iload_n hx hb dX1_worstLetter_22 rfl (lv_at hl 2 rfl) ?_
        refine q_icmp_le (x := (prt C P tx i (n - 1))) (y := ((wst C P tx n i).1)) (tgt := 31) hx hb dX1_worstLetter_23 (by decide) (by omega) (by omega) (fun c23 => ?_) (fun c23 => ?_)
        · refine q_iinc (x := i) (z := i + 1) (lv' := [(3, .int (nI (i + 1))), (4, .int (nI (prt C P tx i (n - 1)))), (0, .ref (h 0)), (1, .int (nI ((wst C P tx n i).1))), (2, .int (wV (wst C P tx n i).2))]) hx hb dX1_worstLetter_31 hl (k := 4) rfl (dd := 1) rfl (by omega) (by decide) rfl (fun ls hl => ?_)
          refine lv_goto (tgt := 7) hx hb dX1_worstLetter_34 (by decide) ?_
          have e0 : (wst C P tx n (i + 1)) = (wst C P tx n i) := if_neg (by omega)
          exact ih7  (i + 1) _ _ _ (by omega) (by first | omega | assumption) hV (by rw [e0]; exact lv_sub hl [2, 3, 4, 0] rfl)
        · refine lv_iload hx hb dX1_worstLetter_26 (lv_at hl 0 rfl) ?_
          refine lv_istore_n (lv' := [(1, .int (nI (prt C P tx i (n - 1)))), (4, .int (nI (prt C P tx i (n - 1)))), (0, .ref (h 0)), (2, .int (wV (wst C P tx n i).2)), (3, .int (nI i))]) hx hb dX1_worstLetter_28 rfl hl (by decide) rfl (fun ls hl => ?_)
          refine lv_iload_n hx hb dX1_worstLetter_29 rfl (lv_at hl 4 rfl) ?_
          refine lv_istore_n (lv' := [(2, .int (nI i)), (1, .int (nI (prt C P tx i (n - 1)))), (4, .int (nI (prt C P tx i (n - 1)))), (0, .ref (h 0)), (3, .int (nI i))]) hx hb dX1_worstLetter_30 rfl hl (by decide) rfl (fun ls hl => ?_)
          refine q_iinc (x := i) (z := i + 1) (lv' := [(3, .int (nI (i + 1))), (2, .int (nI i)), (1, .int (nI (prt C P tx i (n - 1)))), (4, .int (nI (prt C P tx i (n - 1)))), (0, .ref (h 0))]) hx hb dX1_worstLetter_31 hl (k := 4) rfl (dd := 1) rfl (by omega) (by decide) rfl (fun ls hl => ?_)
          refine lv_goto (tgt := 7) hx hb dX1_worstLetter_34 (by decide) ?_
          have e0 : (wst C P tx n (i + 1)) = (prt C P tx i (n - 1), i + 1) := if_pos (by omega)
          have e2 : wV (i + 1) = nI i := rfl
          exact ih7  (i + 1) _ _ _ (by omega) (by first | omega | assumption) hV (by rw [e0, e2]; exact lv_sub hl [4, 2, 1, 0] rfl)
  exact lp7 13 0 _ _ _ (by omega) (by first | omega | assumption) hV (lv_sub hl [3, 2, 1, 0] rfl)
end
section
abbrev rm_X1_improve : Room := { frames := 5, cells := 0, slots := 0, locals := 114 }
set_option maxHeartbeats 4000000 in
set_option maxRecDepth 100000 in
theorem c_X1_improve (l : Launch) (D : va_G) (h : Nat → Nat) (ga : Nat) (gb : Nat) (cA : ClassId) (n : Nat) (tx : Nat → Nat) (T : Nat) (C : Nat) (K : Nat) (L : Nat → Nat) (P : Nat → Nat) (u : Nat) (ua : Nat → Nat) (ub : Nat → Nat) (v1 : Int32)  (hn : n ≤ 60) (htx : ∀ i, tx i < 12) (hC : C ≤ 5) (hp : perm L P) (hu : u ≤ 30) : CTi l D cA yX1_improve wsX1_improve rm_X1_improve [.ref (h 0), .int v1] (wC h ga gb cA n tx T C K L P u ua ub) (fun r W1 => r = aIm C tx n v1 (L, P, u, ua, ub) ∧ W1 = wC h ga gb cA n tx T C K ((yIm C tx n v1 (L, P, u, ua, ub)).1) ((yIm C tx n v1 (L, P, u, ua, ub)).2.1) ((yIm C tx n v1 (L, P, u, ua, ub)).2.2.1) ((yIm C tx n v1 (L, P, u, ua, ub)).2.2.2.1) ((yIm C tx n v1 (L, P, u, ua, ub)).2.2.2.2)) := by
  refine CTi.mk (cc := cX1_improve) (maxL := 4) (ret := some .int) (by decide) rfl (Nat.le_of_ble_eq_true rfl) ?_
  intro p e s m below meth c A ls E hV hl
  obtain ⟨hx, hb, hml, hr, hown, hts, hlocks, hK, hA, hN⟩ := E
  have hown : s.vm.findClass RX1 = some m.cls := hown
  have hin1 : ∀ w ∈ wsX10, w ∈ wsX1_improve := fun _ h => List.mem_cons_of_mem _ (List.mem_append_right _ h)
  have hl : lv_has ls 4 [(0, .ref (h 0)), (1, .int v1)] := hl
  refine lv_iload_n hx hb dX1_improve_0 rfl (lv_at hl 1 rfl) ?_
  refine z_if_lt (tgt := 10) hx hb dX1_improve_1 (by decide) (fun c1 => ?_) (fun c1 => ?_)
  · refine lv_ldc (v := -1000003) hx hb hown (hts _ (List.mem_of_getElem? (i := 1) rfl)) dX1_improve_10 ?_
    have e1 : okR 0 100 v1 = 0 := okR_no (by omega)
    exact q_iret (W1 := wC h ga gb cA n tx T C K L P u ua ub) hx hb hr hlocks hV dX1_improve_12 ⟨(aIm_no e1).symm, by rw [yIm_no e1]⟩
  · refine lv_iload_n hx hb dX1_improve_4 rfl (lv_at hl 1 rfl) ?_
    refine lv_bipush (v := nI 100) hx hb dX1_improve_5 (by decide) ?_
    refine z_icmp_le (tgt := 13) hx hb dX1_improve_7 (by decide) (fun c7 => ?_) (fun c7 => ?_)
    · rw [nI_toInt (n := 100) (by omega)] at c7
      obtain ⟨k1, -, hk1, rfl⟩ := okR_g (lo := 0) (hi := 100) (by decide) (by omega) (by omega)
      refine lv_iconst (v := nI 0) hx hb dX1_improve_13 (by decide) ?_
      refine lv_istore_n (lv' := [(2, .int (nI 0)), (0, .ref (h 0)), (1, .int (nI k1))]) hx hb dX1_improve_14 rfl hl (by decide) rfl (fun ls hl => ?_)
      have lp15 : ∀ (d15 : Nat) (i : Nat) (L1 : Nat → Nat) (P1 : Nat → Nat) (u1 : Nat) (ua1 : Nat → Nat) (ub1 : Nat → Nat) (H : Heap) (locs : List Loc) (ls : Array Slot), (k1 + 1 ≤ i + d15) → (i ≤ k1) → (perm L1 P1) → (u1 ≤ 30) → (impr C tx n k1 (L, P, u, ua, ub) = (i + (impr C tx n (k1 - i) (L1, P1, u1, ua1, ub1)).1, (impr C tx n (k1 - i) (L1, P1, u1, ua1, ub1)).2)) → qV D A s.heap (wC h ga gb cA n tx T C K L1 P1 u1 ua1 ub1) H locs → lv_has ls 4 [(0, .ref (h 0)), (1, .int (nI k1)), (2, .int (nI i))] → W p l e rm_X1_improve s m ([.ref (h 0), .int (nI k1)] : List Value).toArray below meth c H locs 0 0 (MQ below (va_Qi (fun r W1 => r = aIm C tx n (nI k1) (L, P, u, ua, ub) ∧ W1 = wC h ga gb cA n tx T C K ((yIm C tx n (nI k1) (L, P, u, ua, ub)).1) ((yIm C tx n (nI k1) (L, P, u, ua, ub)).2.1) ((yIm C tx n (nI k1) (L, P, u, ua, ub)).2.2.1) ((yIm C tx n (nI k1) (L, P, u, ua, ub)).2.2.2.1) ((yIm C tx n (nI k1) (L, P, u, ua, ub)).2.2.2.2)) (cPost D A) A) ([.ref (h 0), .int (nI k1)] : List Value).toArray s 0 0 A) (F0 m 15 ls []) := by
        intro d15
        induction d15 with
        | zero => intro i L1 P1 u1 ua1 ub1 H locs ls hm15 hi hq hu1 hI hV hl; exfalso; omega
        | succ d15 ih15 =>
          intro i L1 P1 u1 ua1 ub1 H locs ls hm15 hi hq hu1 hI hV hl
          refine lv_iload_n hx hb dX1_improve_15 rfl (lv_at hl 2 rfl) ?_
          refine lv_iload_n hx hb dX1_improve_16 rfl (lv_at hl 1 rfl) ?_
          refine q_icmp_ge (x := i) (y := k1) (tgt := 51) hx hb dX1_improve_17 (by decide) (by omega) (by omega) (fun c17 => ?_) (fun c17 => ?_)
          · refine lv_iload_n hx hb dX1_improve_51 rfl (lv_at hl 1 rfl) ?_
            have ei : k1 - i = 0 := by omega
            have ek : i = k1 := by omega
            rw [ei] at hI
            exact q_iret (W1 := wC h ga gb cA n tx T C K L1 P1 u1 ua1 ub1) hx hb hr hlocks hV dX1_improve_52 ⟨by rw [aIm_ok hk1, hI, ← ek]; rfl, by rw [yIm_ok hk1, hI]; rfl⟩
          · refine lv_aload_n hx hb dX1_improve_20 rfl (lv_at hl 0 rfl) ?_
            refine k_V_i (w0 := ([] : va_W)) (wc := wC h ga gb cA n tx T C K L1 P1 u1 ua1 ub1) (b := h 0) (As := []) (rest := []) hx hb hml hown hts hK hA hN hV hl.1 (c_X1_bestSwap l D h ga gb cA n tx T C K L1 P1 u1 ua1 ub1   (by first | omega | assumption) (by first | omega | assumption) (by first | omega | assumption) (by first | omega | assumption)) gX1_improve_X1_bestSwap rfl rfl rfl hdX1_bestSwap ⟨Nat.le_of_ble_eq_true rfl, Nat.le_of_ble_eq_true rfl⟩ 0 1 rfl rfl rfl rfl rfl (Nat.le_of_ble_eq_true rfl) dX1_improve_21 ⟨Nat.zero_le _, Nat.zero_le _⟩ (fun r W1 H locs hp hV => ?_)
            obtain ⟨hp1, hp2⟩ := hp
            replace hp1 := hp1.symm
            subst hp1
            replace hp2 := hp2.symm
            subst hp2
            have hV : qV D A s.heap (wC h ga gb cA n tx T C K L1 P1 u1 ua1 ub1) H locs := hV
            refine lv_istore_n (lv' := [(3, .int (bV (bst C L1 P1 tx n))), (0, .ref (h 0)), (1, .int (nI k1)), (2, .int (nI i))]) hx hb dX1_improve_24 rfl hl (by decide) rfl (fun ls hl => ?_)
            refine lv_iload_n hx hb dX1_improve_25 rfl (lv_at hl 0 rfl) ?_
            refine lv_ldc (v := -1000006) hx hb hown (hts _ (List.mem_of_getElem? (i := 2) rfl)) dX1_improve_26 ?_
            refine z_icmp_ne (tgt := 33) hx hb dX1_improve_28 (by decide) (fun c28 => ?_) (fun c28 => ?_)
            · obtain ⟨hb0, hbv⟩ := bV_ne c28
              rw [hbv] at hl
              have hb0 : lbs C tx n (L1, P1, u1, ua1, ub1) ≠ 0 := hb0
              have hok := bst_ok C L1 P1 tx n
              have hlt := hok.lt
              obtain ⟨hd1, hd2, hd3⟩ := hok.dm hb0
              refine lv_aload_n hx hb dX1_improve_33 rfl (lv_at hl 1 rfl) ?_
              refine lv_iload_n hx hb dX1_improve_34 rfl (lv_at hl 0 rfl) ?_
              refine lv_bipush (v := nI 100) hx hb dX1_improve_35 (by decide) ?_
              refine q_idiv (x := (bst C L1 P1 tx n)) (y := 100) hx hb (by omega) (by omega) (by omega) dX1_improve_37 ?_
              refine lv_iload_n hx hb dX1_improve_38 rfl (lv_at hl 0 rfl) ?_
              refine lv_bipush (v := nI 100) hx hb dX1_improve_39 (by decide) ?_
              refine q_irem (x := (bst C L1 P1 tx n)) (y := 100) hx hb (by omega) (by omega) (by omega) dX1_improve_41 ?_
              refine k_V_v (w0 := ([] : va_W)) (wc := wC h ga gb cA n tx T C K L1 P1 u1 ua1 ub1) (b := h 0) (As := [.int (nI ((bst C L1 P1 tx n) / 100)), .int (nI ((bst C L1 P1 tx n) % 100))]) (rest := []) hx hb hml hown hts hK hA hN hV hl.1 (c_X1_makeSwap l D h ga gb cA n tx T C K L1 P1 u1 ua1 ub1 ((bst C L1 P1 tx n) / 100) ((bst C L1 P1 tx n) % 100)  hd1 hd2 (by first | omega | assumption) (by first | omega | assumption)) gX1_improve_X1_makeSwap rfl rfl rfl hdX1_makeSwap ⟨Nat.le_of_ble_eq_true rfl, Nat.le_of_ble_eq_true rfl⟩ 0 1 rfl rfl rfl rfl rfl (Nat.le_of_ble_eq_true rfl) dX1_improve_42 ⟨Nat.zero_le _, Nat.zero_le _⟩ (fun W1 H locs hp hV => ?_)
              subst hp
              have hV : qV D A s.heap (wC h ga gb cA n tx T C K (exL L1 ((bst C L1 P1 tx n) / 100) ((bst C L1 P1 tx n) % 100)) (exP L1 P1 ((bst C L1 P1 tx n) / 100) ((bst C L1 P1 tx n) % 100)) (pshU u1) (pshA ua1 u1 ((bst C L1 P1 tx n) / 100)) (pshA ub1 u1 ((bst C L1 P1 tx n) % 100))) H locs := hV
              refine q_iinc (x := i) (z := i + 1) (lv' := [(2, .int (nI (i + 1))), (3, .int (nI (bst C L1 P1 tx n))), (0, .ref (h 0)), (1, .int (nI k1))]) hx hb dX1_improve_45 hl (k := 3) rfl (dd := 1) rfl (by omega) (by decide) rfl (fun ls hl => ?_)
              refine lv_goto (tgt := 15) hx hb dX1_improve_48 (by decide) ?_
              exact ih15  (i + 1) (exL L1 (bst C L1 P1 tx n / 100) (bst C L1 P1 tx n % 100)) (exP L1 P1 (bst C L1 P1 tx n / 100) (bst C L1 P1 tx n % 100)) (pshU u1) (pshA ua1 u1 (bst C L1 P1 tx n / 100)) (pshA ub1 u1 (bst C L1 P1 tx n % 100)) _ _ _ (by omega) (by first | omega | assumption) (hq.ex hd1 hd2) (pshU_le _ hu1) (by rw [hI, impr_s1 (by omega) hb0, show k1 - (i + 1) = k1 - i - 1 by omega]; exact Prod.ext (by show i + (_ + 1) = _ ; simp only [Nat.add_comm, Nat.add_left_comm, Nat.add_assoc]; rfl) rfl) hV (lv_sub hl [2, 3, 0] rfl)
            · refine lv_iload_n hx hb dX1_improve_31 rfl (lv_at hl 3 rfl) ?_
              have hb0 : lbs C tx n (L1, P1, u1, ua1, ub1) = 0 := bV_eq (bst_ok _ _ _ _ _) c28
              rw [impr_s0 (by omega) hb0] at hI
              exact q_iret (W1 := wC h ga gb cA n tx T C K L1 P1 u1 ua1 ub1) hx hb hr hlocks hV dX1_improve_32 ⟨by rw [aIm_ok hk1, hI]; rfl, by rw [yIm_ok hk1, hI]⟩
      exact lp15 (k1 + 1) 0 L P u ua ub _ _ _ (by omega) (by first | omega | assumption) (by first | omega | assumption) (by first | omega | assumption) (by simp) hV (lv_sub hl [1, 2, 0] rfl)
    · rw [nI_toInt (n := 100) (by omega)] at c7
      refine lv_ldc (v := -1000003) hx hb hown (hts _ (List.mem_of_getElem? (i := 1) rfl)) dX1_improve_10 ?_
      have e1 : okR 0 100 v1 = 0 := okR_no (by omega)
      exact q_iret (W1 := wC h ga gb cA n tx T C K L P u ua ub) hx hb hr hlocks hV dX1_improve_12 ⟨(aIm_no e1).symm, by rw [yIm_no e1]⟩
end
section
/-! typing: what a stroke does, and a whole text -/
theorem oc1_2 {C t p : Nat} {R : Nat → Nat} (h : t < R p) : oc1 C t R p = 2 := if_pos h
theorem oc1_1 {C t p : Nat} {R : Nat → Nat} (h : ¬ t < R p) (h2 : jamF C p t R 12 = 1) : oc1 C t R p = 1 := by unfold oc1; rw [if_neg h, if_pos h2]
theorem oc1_0 {C t p : Nat} {R : Nat → Nat} (h : ¬ t < R p) (h2 : ¬ jamF C p t R 12 = 1) : oc1 C t R p = 0 := by unfold oc1; rw [if_neg h, if_neg h2]
theorem rn1_2 {C T t p : Nat} {R : Nat → Nat} (h : t < R p) : rn1 C T t R p = R := if_pos h
theorem rn1_1 {C T t p : Nat} {R : Nat → Nat} (h : ¬ t < R p) (h2 : jamF C p t R 12 = 1) : rn1 C T t R p = stpR C p t R := by unfold rn1; rw [if_neg h, if_pos h2]
theorem rn1_0 {C T t p : Nat} {R : Nat → Nat} (h : ¬ t < R p) (h2 : ¬ jamF C p t R 12 = 1) : rn1 C T t R p = up (stpR C p t R) p (t + T) := by unfold rn1; rw [if_neg h, if_neg h2]
theorem duF_s (tx P : Nat → Nat) (T C K iv j : Nat) : duF tx P T C K iv (j + 1) = (tyS tx P T C K iv j).2 + T := by unfold duF; rw [if_neg (by omega), Nat.add_sub_cancel]
theorem tyS_s1 {tx P : Nat → Nat} {T C K iv j : Nat} (h : oc1 C (tyS tx P T C K iv j).2 (tyS tx P T C K iv j).1 (P (tx j)) = 1) : (tyS tx P T C K iv (j + 1)).2 = (tyS tx P T C K iv j).2 + (iv + K) := by
  show (tyS tx P T C K iv j).2 + _ = _
  rw [if_pos h]
theorem tyS_s0 {tx P : Nat → Nat} {T C K iv j : Nat} (h : ¬ oc1 C (tyS tx P T C K iv j).2 (tyS tx P T C K iv j).1 (P (tx j)) = 1) : (tyS tx P T C K iv (j + 1)).2 = (tyS tx P T C K iv j).2 + iv := by
  show (tyS tx P T C K iv j).2 + _ = _
  rw [if_neg h]
abbrev Rn : Type := Nat × Nat × Nat × Nat × (Nat → Nat) × (Nat → Nat)
def rnF (tx P : Nat → Nat) (T C K n iv : Nat) (z : Rn) : Rn := (pmF (oc tx P T C K iv) n, jmF (oc tx P T C K iv) n, lmF (oc tx P T C K iv) n, duF tx P T C K iv n, prF (oc tx P T C K iv) tx z.2.2.2.2.1 n, jaF (oc tx P T C K iv) z.2.2.2.2.2 n)
def yRn (tx P : Nat → Nat) (T C K n : Nat) (v : Int32) (z : Rn) : Rn := if okR 1 30 v = 1 then rnF tx P T C K n (iN v) z else z
def aRn (tx P : Nat → Nat) (T C K n : Nat) (v : Int32) : Int32 := if okR 1 30 v = 1 then nI (pmF (oc tx P T C K (iN v)) n) else -1000003
theorem yRn_ok {tx P : Nat → Nat} {T C K n k : Nat} {z : Rn} (h1 : 1 ≤ k) (h2 : k ≤ 30) : yRn tx P T C K n (nI k) z = rnF tx P T C K n k z := by unfold yRn; rw [okR_k h1 h2 (by omega), if_pos rfl, iN_nI (by omega)]
theorem aRn_ok {tx P : Nat → Nat} {T C K n k : Nat} (h1 : 1 ≤ k) (h2 : k ≤ 30) : aRn tx P T C K n (nI k) = nI (pmF (oc tx P T C K k) n) := by unfold aRn; rw [okR_k h1 h2 (by omega), if_pos rfl, iN_nI (by omega)]
theorem yRn_no {tx P : Nat → Nat} {T C K n : Nat} {z : Rn} {v : Int32} (h : okR 1 30 v = 0) : yRn tx P T C K n v z = z := by unfold yRn; rw [h, if_neg (by omega)]
theorem aRn_no {tx P : Nat → Nat} {T C K n : Nat} {v : Int32} (h : okR 1 30 v = 0) : aRn tx P T C K n v = -1000003 := by unfold aRn; rw [h, if_neg (by omega)]
def okI (cnt : Nat) (v : Int32) : Nat := if 0 ≤ v.toInt ∧ v.toInt < (cnt : Int) then 1 else 0
def aIx (cnt : Nat) (f : Nat → Nat) (v : Int32) : Int32 := if okI cnt v = 1 then nI (f (iN v)) else -1000006
theorem okI_le (cnt : Nat) (v : Int32) : okI cnt v ≤ 1 := by unfold okI; split <;> omega
theorem aIx_ok {cnt k : Nat} {f : Nat → Nat} (h : k < cnt) (hc : cnt < 2147483648) : aIx cnt f (nI k) = nI (f k) := by
  unfold aIx okI; rw [nI_toInt (by omega), iN_nI (by omega), if_pos (show (0 : Int) ≤ (k : Int) ∧ (k : Int) < (cnt : Int) by omega), if_pos rfl]
theorem aIx_no {cnt : Nat} {f : Nat → Nat} {v : Int32} (h : v.toInt < 0 ∨ (cnt : Int) ≤ v.toInt) : aIx cnt f v = -1000006 := by
  unfold aIx okI; rw [if_neg (show ¬ ((0 : Int) ≤ v.toInt ∧ v.toInt < (cnt : Int)) by omega), if_neg (by omega)]
theorem okI_g {cnt : Nat} {v : Int32} (h1 : 0 ≤ v.toInt) (h2 : v.toInt < (cnt : Int)) : ∃ k, k < cnt ∧ v = nI k := by
  obtain ⟨j, hj, rfl⟩ := nI_of (x := v) (by rw [Int32.lt_iff_toInt_lt, Int32.toInt_zero]; omega)
  rw [nI_toInt hj] at h2
  exact ⟨j, by omega, rfl⟩
theorem okI_1 {cnt : Nat} {v : Int32} (h : okI cnt v ≠ 0) : ∃ k, k < cnt ∧ v = nI k := by
  unfold okI at h
  split at h
  · rename_i q; exact okI_g q.1 q.2
  · exact absurd rfl h
theorem okI_0 {cnt : Nat} {v : Int32} (h : okI cnt v = 0) : v.toInt < 0 ∨ (cnt : Int) ≤ v.toInt := by
  unfold okI at h
  split at h
  · exact absurd h (by omega)
  · omega
def dgst (tx P L : Nat → Nat) (n T C K u pm jm lm du : Nat) (pr ja : Nat → Nat) : Int64 := mxF (mxF (mx (mx (mx (mx (mx (mx (mx (mx (mx (mxF (mx (mx (mx (mxF (mx 1783 (nI n).toInt64) tx n) (nI T).toInt64) (nI C).toInt64) (nI K).toInt64) L 12) (nI u).toInt64) (nI (cst C P tx (n - 1))).toInt64) (bV (bst C L P tx n)).toInt64) (wV (wst C P tx n 12).2).toInt64) (bV (sfi tx P T C K n)).toInt64) (nI jm).toInt64) (nI lm).toInt64) (nI du).toInt64) (nI pm).toInt64) pr pm) ja jm
theorem sfF_s {bd : Nat → Nat} {i : Nat} (hi : i ≤ 30) : sfF bd (31 - i) i = if bd i = 0 then i else sfF bd (31 - (i + 1)) (i + 1) := by
  rw [show 31 - i = (31 - (i + 1)) + 1 by omega]; rfl
end
section
abbrev rm_X1_strike : Room := { frames := 2, cells := 0, slots := 0, locals := 49 }
set_option maxHeartbeats 4000000 in
set_option maxRecDepth 100000 in
theorem c_X1_strike (l : Launch) (D : va_G) (h : Nat → Nat) (ga : Nat) (gb : Nat) (cA : ClassId) (n : Nat) (tx : Nat → Nat) (T : Nat) (C : Nat) (K : Nat) (P : Nat → Nat) (u : Nat) (g : Nat → Nat) (pm : Nat) (jm : Nat) (lm : Nat) (du : Nat) (pr : Nat → Nat) (ja : Nat → Nat) (rt : Nat → Nat) (ks : Nat) (t : Nat)  (h_k : ks < 60) (htx : ∀ i, tx i < 12) (hP12 : ∀ i, i < 12 → P i < 12) (hC : C ≤ 5) (hT : T ≤ 20) (h_t : t < 536870912) (h_R : ∀ q, rt q < 1073741824) (h_pm : pm < 60) (h_jm : jm < 60) (h_lm : lm < 60) : CTi l D cA yX1_strike wsX1_strike rm_X1_strike [.ref (h 0), .ref (g 0), .int (nI ks), .int (nI t)] ((wB h ga gb cA n tx T C K P u) ++ (wT g cA pm jm lm du pr ja rt)) (fun r W1 => r = nI (if oc1 C t rt (P (tx ks)) = 1 then 1 else 0) ∧ W1 = (wB h ga gb cA n tx T C K P u) ++ (wT g cA (if oc1 C t rt (P (tx ks)) = 0 then pm + 1 else pm) (if oc1 C t rt (P (tx ks)) = 1 then jm + 1 else jm) (if oc1 C t rt (P (tx ks)) = 0 ∨ oc1 C t rt (P (tx ks)) = 1 then lm else lm + 1) du (if oc1 C t rt (P (tx ks)) = 0 then up pr pm (tx ks) else pr) (if oc1 C t rt (P (tx ks)) = 1 then up ja jm ks else ja) (rn1 C T t rt (P (tx ks))))) := by
  refine CTi.mk (cc := cX1_strike) (maxL := 6) (ret := some .boolean) (by decide) rfl (Nat.le_of_ble_eq_true rfl) ?_
  intro p e s m below meth c A ls E hV hl
  obtain ⟨hx, hb, hml, hr, hown, hts, hlocks, hK, hA, hN⟩ := E
  have hown : s.vm.findClass RX1 = some m.cls := hown
  have hin1 : ∀ w ∈ wsX10, w ∈ wsX1_strike := fun _ h => List.mem_cons_of_mem _ (List.mem_append_left _ (List.mem_append_right _ h))
  have hin0 : ∀ w ∈ wsX00, w ∈ wsX1_strike := fun _ h => List.mem_cons_of_mem _ (List.mem_append_right _ h)
  have hl : lv_has ls 6 [(0, .ref (h 0)), (1, .ref (g 0)), (2, .int (nI ks)), (3, .int (nI t))] := hl
  refine lv_aload_n hx hb dX1_strike_0 rfl (lv_at hl 0 rfl) ?_
  refine q_get (C := RX1) (T := TX1) (N := 12) (ci := 1) (v := .ref (h 1)) hx hb hts hin1 hown hK hV 0 rfl rfl 0 (by decide) (List.mem_of_getElem? (i := 1) rfl) rfl dX1_strike_1 ?_
  refine lv_iload_n hx hb dX1_strike_4 rfl (lv_at hl 2 rfl) ?_
  refine q_iald (n := 60) (k := ks) (f := tx) hx hb hK hV 1 rfl (by omega) (by omega) dX1_strike_5 ?_
  have f1 := htx ks
  refine lv_istore (lv' := [(4, .int (nI (tx ks))), (0, .ref (h 0)), (1, .ref (g 0)), (2, .int (nI ks)), (3, .int (nI t))]) hx hb dX1_strike_6 hl (by decide) rfl (fun ls hl => ?_)
  refine lv_aload_n hx hb dX1_strike_8 rfl (lv_at hl 1 rfl) ?_
  refine q_get (C := RX1) (T := TX1) (N := 12) (ci := 1) (v := .ref (h 3)) hx hb hts hin1 hown hK hV 0 rfl rfl 6 (by decide) (List.mem_of_getElem? (i := 2) rfl) rfl dX1_strike_9 ?_
  refine lv_iload hx hb dX1_strike_12 (lv_at hl 0 rfl) ?_
  refine q_iald (n := 12) (k := (tx ks)) (f := P) hx hb hK hV 2 rfl (by omega) (by omega) dX1_strike_14 ?_
  have f2 := hP12 (tx ks) (by omega)
  refine lv_istore (lv' := [(5, .int (nI (P (tx ks)))), (4, .int (nI (tx ks))), (0, .ref (h 0)), (1, .ref (g 0)), (2, .int (nI ks)), (3, .int (nI t))]) hx hb dX1_strike_15 hl (by decide) rfl (fun ls hl => ?_)
  refine lv_aload_n hx hb dX1_strike_17 rfl (lv_at hl 3 rfl) ?_
  refine lv_iload hx hb dX1_strike_18 (lv_at hl 0 rfl) ?_
  refine lv_iload_n hx hb dX1_strike_20 rfl (lv_at hl 5 rfl) ?_
  refine k_N_i (w0 := wB h ga gb cA n tx T C K P u) (wc := wT g cA pm jm lm du pr ja rt) (b := g 0) (As := [.int (nI (P (tx ks))), .int (nI t)]) (rest := []) hx hb hml hown hts hK hA hN hV hl.1 (c_X0_inMotion l D g cA pm jm lm du pr ja rt (P (tx ks)) t  (by first | omega | assumption) (by first | omega | assumption) (by first | omega | assumption)) gX1_strike_X0_inMotion_n156 rfl rfl rfl (List.mem_of_getElem? (i := 9) rfl) (List.mem_of_getElem? (i := 6) rfl) (List.mem_of_getElem? (i := 5) rfl) (List.mem_of_getElem? (i := 7) rfl) hdnX0_inMotion ⟨Nat.le_of_ble_eq_true rfl, Nat.le_of_ble_eq_true rfl⟩ 3 0 rfl rfl rfl rfl rfl (Nat.le_of_ble_eq_true rfl) dX1_strike_21 ⟨Nat.zero_le _, Nat.zero_le _⟩ (fun r W1 H locs hp hV => ?_)
  obtain ⟨hp1, hp2⟩ := hp
  replace hp1 := hp1.symm
  subst hp1
  replace hp2 := hp2.symm
  subst hp2
  have hV : qV D A s.heap ((wB h ga gb cA n tx T C K P u) ++ (wT g cA pm jm lm du pr ja rt)) H locs := hV
  have f3 := ite_le (t < rt (P (tx ks)))
  refine q_if_eq (x := (if t < rt (P (tx ks)) then 1 else 0)) (tgt := 39) hx hb dX1_strike_24 (by decide) (by omega) (fun c24 => ?_) (fun c24 => ?_)
  · have c24 := ite0 c24
    refine lv_aload_n hx hb dX1_strike_39 rfl (lv_at hl 3 rfl) ?_
    refine lv_iload hx hb dX1_strike_40 (lv_at hl 0 rfl) ?_
    refine lv_aload_n hx hb dX1_strike_42 rfl (lv_at hl 2 rfl) ?_
    refine q_get (C := RX1) (T := TX1) (N := 12) (ci := 1) (v := .int (nI C)) hx hb hts hin1 hown hK hV 0 rfl rfl 3 (by decide) (List.mem_of_getElem? (i := 3) rfl) rfl dX1_strike_43 ?_
    refine lv_iload_n hx hb dX1_strike_46 rfl (lv_at hl 5 rfl) ?_
    refine k_N_i (w0 := wB h ga gb cA n tx T C K P u) (wc := wT g cA pm jm lm du pr ja rt) (b := g 0) (As := [.int (nI (P (tx ks))), .int (nI C), .int (nI t)]) (rest := []) hx hb hml hown hts hK hA hN hV hl.1 (c_X0_stopAround l D g cA pm jm lm du pr ja rt (P (tx ks)) C t  (by first | omega | assumption) (by first | omega | assumption) (by first | omega | assumption) (by first | omega | assumption)) gX1_strike_X0_stopAround_n160 rfl rfl rfl (List.mem_of_getElem? (i := 10) rfl) (List.mem_of_getElem? (i := 6) rfl) (List.mem_of_getElem? (i := 10) rfl) (List.mem_of_getElem? (i := 11) rfl) hdnX0_stopAround ⟨Nat.le_of_ble_eq_true rfl, Nat.le_of_ble_eq_true rfl⟩ 3 0 rfl rfl rfl rfl rfl (Nat.le_of_ble_eq_true rfl) dX1_strike_47 ⟨Nat.zero_le _, Nat.zero_le _⟩ (fun r W1 H locs hp hV => ?_)
    obtain ⟨hp1, hp2⟩ := hp
    replace hp1 := hp1.symm
    subst hp1
    replace hp2 := hp2.symm
    subst hp2
    have hV : qV D A s.heap ((wB h ga gb cA n tx T C K P u) ++ (wT g cA pm jm lm du pr ja (stpR C (P (tx ks)) t rt))) H locs := hV
    have f4 := jamF_le C (P (tx ks)) t rt 12
    refine q_if_eq (x := (jamF C (P (tx ks)) t rt 12)) (tgt := 60) hx hb dX1_strike_50 (by decide) (by omega) (fun c50 => ?_) (fun c50 => ?_)
    · refine lv_aload_n hx hb dX1_strike_60 rfl (lv_at hl 3 rfl) ?_
      refine lv_iload hx hb dX1_strike_61 (lv_at hl 1 rfl) ?_
      refine k_N_v (w0 := wB h ga gb cA n tx T C K P u) (wc := wT g cA pm jm lm du pr ja (stpR C (P (tx ks)) t rt)) (b := g 0) (As := [.int (nI (tx ks))]) (rest := []) hx hb hml hown hts hK hA hN hV hl.1 (c_X0_addPrinted l D g cA pm jm lm du pr ja (stpR C (P (tx ks)) t rt) (tx ks)  (by first | omega | assumption)) gX1_strike_X0_addPrinted_n168 rfl rfl rfl (List.mem_of_getElem? (i := 12) rfl) (List.mem_of_getElem? (i := 6) rfl) (List.mem_of_getElem? (i := 26) rfl) (List.mem_of_getElem? (i := 27) rfl) hdnX0_addPrinted ⟨Nat.le_of_ble_eq_true rfl, Nat.le_of_ble_eq_true rfl⟩ 3 0 rfl rfl rfl rfl rfl (Nat.le_of_ble_eq_true rfl) dX1_strike_63 ⟨Nat.zero_le _, Nat.zero_le _⟩ (fun W1 H locs hp hV => ?_)
      subst hp
      have hV : qV D A s.heap ((wB h ga gb cA n tx T C K P u) ++ (wT g cA (pm + 1) jm lm du (up pr pm (tx ks)) ja (stpR C (P (tx ks)) t rt))) H locs := hV
      refine lv_aload_n hx hb dX1_strike_66 rfl (lv_at hl 3 rfl) ?_
      refine q_getN (C := RX0) (T := TX0) (N := 7) (ci := 0) (v := .ref (g 3)) hx hb hts hin0 hown hK hV 3 rfl rfl 6 (by decide) hN (List.mem_of_getElem? (i := 7) rfl) rfl dX1_strike_67 ?_
      refine lv_iload hx hb dX1_strike_70 (lv_at hl 0 rfl) ?_
      refine lv_iload_n hx hb dX1_strike_72 rfl (lv_at hl 5 rfl) ?_
      refine lv_aload_n hx hb dX1_strike_73 rfl (lv_at hl 2 rfl) ?_
      refine q_get (C := RX1) (T := TX1) (N := 12) (ci := 1) (v := .int (nI T)) hx hb hts hin1 hown hK hV 0 rfl rfl 2 (by decide) (List.mem_of_getElem? (i := 4) rfl) rfl dX1_strike_74 ?_
      refine q_iadd2 (x := t) (y := T) (z := t + T) hx hb (by omega) dX1_strike_77 ?_
      refine q_iast (n := 12) (k := (P (tx ks))) (v := t + T) (f := (stpR C (P (tx ks)) t rt)) ((wB h ga gb cA n tx T C K P u) ++ (wT g cA (pm + 1) jm lm du (up pr pm (tx ks)) ja (up (stpR C (P (tx ks)) t rt) (P (tx ks)) (t + T)))) hx hb hK hV 6 rfl (by omega) (by decide) rfl dX1_strike_78 (fun H locs hV => ?_)
      refine lv_iconst (v := nI 0) hx hb dX1_strike_79 (by decide) ?_
      have e1 : oc1 C t rt (P (tx ks)) = 0 := oc1_0 c24 (by omega)
      have e2 : rn1 C T t rt (P (tx ks)) = up (stpR C (P (tx ks)) t rt) (P (tx ks)) (t + T) := rn1_0 c24 (by omega)
      exact q_zret (W1 := (wB h ga gb cA n tx T C K P u) ++ (wT g cA (pm + 1) jm lm du (up pr pm (tx ks)) ja (up (stpR C (P (tx ks)) t rt) (P (tx ks)) (t + T)))) hx hb hr hlocks hV dX1_strike_80 (by first | rfl | exact nb01 (by omega)) ⟨by rw [e1]; rfl, by rw [e1, e2]; rfl⟩
    · refine lv_aload_n hx hb dX1_strike_53 rfl (lv_at hl 3 rfl) ?_
      refine lv_iload_n hx hb dX1_strike_54 rfl (lv_at hl 4 rfl) ?_
      refine k_N_v (w0 := wB h ga gb cA n tx T C K P u) (wc := wT g cA pm jm lm du pr ja (stpR C (P (tx ks)) t rt)) (b := g 0) (As := [.int (nI ks)]) (rest := []) hx hb hml hown hts hK hA hN hV hl.1 (c_X0_addJammed l D g cA pm jm lm du pr ja (stpR C (P (tx ks)) t rt) ks  (by first | omega | assumption)) gX1_strike_X0_addJammed_n164 rfl rfl rfl (List.mem_of_getElem? (i := 11) rfl) (List.mem_of_getElem? (i := 6) rfl) (List.mem_of_getElem? (i := 21) rfl) (List.mem_of_getElem? (i := 22) rfl) hdnX0_addJammed ⟨Nat.le_of_ble_eq_true rfl, Nat.le_of_ble_eq_true rfl⟩ 3 0 rfl rfl rfl rfl rfl (Nat.le_of_ble_eq_true rfl) dX1_strike_55 ⟨Nat.zero_le _, Nat.zero_le _⟩ (fun W1 H locs hp hV => ?_)
      subst hp
      have hV : qV D A s.heap ((wB h ga gb cA n tx T C K P u) ++ (wT g cA pm (jm + 1) lm du pr (up ja jm ks) (stpR C (P (tx ks)) t rt))) H locs := hV
      refine lv_iconst (v := nI 1) hx hb dX1_strike_58 (by decide) ?_
      have e1 : oc1 C t rt (P (tx ks)) = 1 := oc1_1 c24 (by omega)
      have e2 : rn1 C T t rt (P (tx ks)) = stpR C (P (tx ks)) t rt := rn1_1 c24 (by omega)
      exact q_zret (W1 := (wB h ga gb cA n tx T C K P u) ++ (wT g cA pm (jm + 1) lm du pr (up ja jm ks) (stpR C (P (tx ks)) t rt))) hx hb hr hlocks hV dX1_strike_59 (by first | rfl | exact nb01 (by omega)) ⟨by rw [e1]; rfl, by rw [e1, e2]; rfl⟩
  · have c24 := ite1 c24
    refine lv_aload_n hx hb dX1_strike_27 rfl (lv_at hl 3 rfl) ?_
    refine lv_dup hx hb dX1_strike_28 rfl ?_
    refine q_getN (C := RX0) (T := TX0) (N := 7) (ci := 0) (v := .int (nI lm)) hx hb hts hin0 hown hK hV 3 rfl rfl 4 (by decide) hN (List.mem_of_getElem? (i := 5) rfl) rfl dX1_strike_29 ?_
    refine lv_iconst (v := nI 1) hx hb dX1_strike_32 (by decide) ?_
    refine q_iadd2 (x := lm) (y := 1) (z := lm + 1) hx hb (by omega) dX1_strike_33 ?_
    refine q_putN (C := RX0) (T := TX0) (N := 7) (ci := 0) (v := .int (nI (lm + 1))) ((wB h ga gb cA n tx T C K P u) ++ (wT g cA pm jm (lm + 1) du pr ja rt)) hx hb hts hin0 tyX0 tyX0_ok nmX0 hown hK hV 3 rfl rfl 4 (by decide) hN (List.mem_of_getElem? (i := 5) rfl) rfl rfl rfl (Nat.le_of_ble_eq_true rfl) rfl dX1_strike_34 (fun H locs hV => ?_)
    refine lv_iconst (v := nI 0) hx hb dX1_strike_37 (by decide) ?_
    have e1 : oc1 C t rt (P (tx ks)) = 2 := oc1_2 c24
    have e2 : rn1 C T t rt (P (tx ks)) = rt := rn1_2 c24
    exact q_zret (W1 := (wB h ga gb cA n tx T C K P u) ++ (wT g cA pm jm (lm + 1) du pr ja rt)) hx hb hr hlocks hV dX1_strike_38 (by first | rfl | exact nb01 (by omega)) ⟨by rw [e1]; rfl, by rw [e1, e2]; rfl⟩
abbrev rm_X1_typeText : Room := { frames := 3, cells := 0, slots := 0, locals := 74 }
set_option maxHeartbeats 4000000 in
set_option maxRecDepth 100000 in
theorem c_X1_typeText (l : Launch) (D : va_G) (h : Nat → Nat) (ga : Nat) (gb : Nat) (cA : ClassId) (n : Nat) (tx : Nat → Nat) (T : Nat) (C : Nat) (K : Nat) (P : Nat → Nat) (u : Nat) (g : Nat → Nat) (pm : Nat) (jm : Nat) (lm : Nat) (du : Nat) (pr : Nat → Nat) (ja : Nat → Nat) (rt : Nat → Nat) (iv : Nat)  (hn : n ≤ 60) (htx : ∀ i, tx i < 12) (hP12 : ∀ i, i < 12 → P i < 12) (hC : C ≤ 5) (hT : T ≤ 20) (hK5 : K ≤ 50) (hiv : iv ≤ 30) : CTv l D cA yX1_typeText wsX1_typeText rm_X1_typeText [.ref (h 0), .ref (g 0), .int (nI iv)] ((wB h ga gb cA n tx T C K P u) ++ (wT g cA pm jm lm du pr ja rt)) (fun W1 => W1 = (wB h ga gb cA n tx T C K P u) ++ (wT g cA (pmF (oc tx P T C K iv) n) (jmF (oc tx P T C K iv) n) (lmF (oc tx P T C K iv) n) (duF tx P T C K iv n) (prF (oc tx P T C K iv) tx pr n) (jaF (oc tx P T C K iv) ja n) ((tyS tx P T C K iv n).1))) := by
  refine CTv.mk (cc := cX1_typeText) (maxL := 6) (ret := none) (by decide) rfl (Nat.le_of_ble_eq_true rfl) ?_
  intro p e s m below meth c A ls E hV hl
  obtain ⟨hx, hb, hml, hr, hown, hts, hlocks, hK, hA, hN⟩ := E
  have hown : s.vm.findClass RX1 = some m.cls := hown
  have hin1 : ∀ w ∈ wsX10, w ∈ wsX1_typeText := fun _ h => List.mem_cons_of_mem _ (List.mem_append_left _ (List.mem_append_right _ h))
  have hin0 : ∀ w ∈ wsX00, w ∈ wsX1_typeText := fun _ h => List.mem_cons_of_mem _ (List.mem_append_right _ h)
  have hl : lv_has ls 6 [(0, .ref (h 0)), (1, .ref (g 0)), (2, .int (nI iv))] := hl
  refine lv_aload_n hx hb dX1_typeText_0 rfl (lv_at hl 1 rfl) ?_
  refine k_N_v (w0 := wB h ga gb cA n tx T C K P u) (wc := wT g cA pm jm lm du pr ja rt) (b := g 0) (As := []) (rest := []) hx hb hml hown hts hK hA hN hV hl.1 (c_X0_begin l D g cA pm jm lm du pr ja rt   ) gX1_typeText_X0_begin_n149 rfl rfl rfl (List.mem_of_getElem? (i := 8) rfl) (List.mem_of_getElem? (i := 5) rfl) (List.mem_of_getElem? (i := 4) rfl) (List.mem_of_getElem? (i := 6) rfl) hdnX0_begin ⟨Nat.le_of_ble_eq_true rfl, Nat.le_of_ble_eq_true rfl⟩ 3 0 rfl rfl rfl rfl rfl (Nat.le_of_ble_eq_true rfl) dX1_typeText_1 ⟨Nat.zero_le _, Nat.zero_le _⟩ (fun W1 H locs hp hV => ?_)
  subst hp
  have hV : qV D A s.heap ((wB h ga gb cA n tx T C K P u) ++ (wT g cA 0 0 0 0 pr ja (fun _ => 0))) H locs := hV
  refine lv_iconst (v := nI 0) hx hb dX1_typeText_4 (by decide) ?_
  refine lv_istore_n (lv' := [(3, .int (nI 0)), (0, .ref (h 0)), (1, .ref (g 0)), (2, .int (nI iv))]) hx hb dX1_typeText_5 rfl hl (by decide) rfl (fun ls hl => ?_)
  refine lv_iconst (v := nI 0) hx hb dX1_typeText_6 (by decide) ?_
  refine lv_istore (lv' := [(4, .int (nI 0)), (3, .int (nI 0)), (0, .ref (h 0)), (1, .ref (g 0)), (2, .int (nI iv))]) hx hb dX1_typeText_7 hl (by decide) rfl (fun ls hl => ?_)
  have lp9 : ∀ (d9 : Nat) (j : Nat) (H : Heap) (locs : List Loc) (ls : Array Slot), (61 ≤ j + d9) → (j ≤ n) → qV D A s.heap ((wB h ga gb cA n tx T C K P u) ++ (wT g cA (pmF (oc tx P T C K iv) j) (jmF (oc tx P T C K iv) j) (lmF (oc tx P T C K iv) j) (duF tx P T C K iv j) (prF (oc tx P T C K iv) tx pr j) (jaF (oc tx P T C K iv) ja j) ((tyS tx P T C K iv j).1))) H locs → lv_has ls 6 [(0, .ref (h 0)), (1, .ref (g 0)), (2, .int (nI iv)), (3, .int (nI ((tyS tx P T C K iv j).2))), (4, .int (nI j))] → W p l e rm_X1_typeText s m ([.ref (h 0), .ref (g 0), .int (nI iv)] : List Value).toArray below meth c H locs 0 0 (MQ below (va_Qv (fun W1 => W1 = (wB h ga gb cA n tx T C K P u) ++ (wT g cA (pmF (oc tx P T C K iv) n) (jmF (oc tx P T C K iv) n) (lmF (oc tx P T C K iv) n) (duF tx P T C K iv n) (prF (oc tx P T C K iv) tx pr n) (jaF (oc tx P T C K iv) ja n) ((tyS tx P T C K iv n).1))) (cPost D A) A) ([.ref (h 0), .ref (g 0), .int (nI iv)] : List Value).toArray s 0 0 A) (F0 m 9 ls []) := by
    intro d9
    induction d9 with
    | zero => intro j H locs ls hm9 hj hV hl; exfalso; omega
    | succ d9 ih9 =>
      intro j H locs ls hm9 hj hV hl
      obtain ⟨g1, g2⟩ := tyS_le (tx := tx) (P := P) (C := C) hT hK5 hiv j
      have g3 := pmF_le (oc tx P T C K iv) j
      have g4 := jmF_le (oc tx P T C K iv) j
      have g5 := lmF_le (oc tx P T C K iv) j
      refine lv_iload hx hb dX1_typeText_9 (lv_at hl 4 rfl) ?_
      refine lv_aload_n hx hb dX1_typeText_11 rfl (lv_at hl 0 rfl) ?_
      refine q_get (C := RX1) (T := TX1) (N := 12) (ci := 1) (v := .int (nI n)) hx hb hts hin1 hown hK hV 0 rfl rfl 1 (by decide) (List.mem_of_getElem? (i := 1) rfl) rfl dX1_typeText_12 ?_
      refine q_icmp_ge (x := j) (y := n) (tgt := 62) hx hb dX1_typeText_15 (by decide) (by omega) (by omega) (fun c15 => ?_) (fun c15 => ?_)
      · have ej : n = j := by omega
        subst ej
        exact q_vret (W1 := (wB h ga gb cA n tx T C K P u) ++ (wT g cA (pmF (oc tx P T C K iv) n) (jmF (oc tx P T C K iv) n) (lmF (oc tx P T C K iv) n) (duF tx P T C K iv n) (prF (oc tx P T C K iv) tx pr n) (jaF (oc tx P T C K iv) ja n) ((tyS tx P T C K iv n).1))) hx hb hr hlocks hV dX1_typeText_62 rfl
      · refine lv_aload_n hx hb dX1_typeText_18 rfl (lv_at hl 0 rfl) ?_
        refine lv_aload_n hx hb dX1_typeText_19 rfl (lv_at hl 1 rfl) ?_
        refine lv_iload hx hb dX1_typeText_20 (lv_at hl 4 rfl) ?_
        refine lv_iload_n hx hb dX1_typeText_22 rfl (lv_at hl 3 rfl) ?_
        refine k_V_i (w0 := ([] : va_W)) (wc := (wB h ga gb cA n tx T C K P u) ++ (wT g cA (pmF (oc tx P T C K iv) j) (jmF (oc tx P T C K iv) j) (lmF (oc tx P T C K iv) j) (duF tx P T C K iv j) (prF (oc tx P T C K iv) tx pr j) (jaF (oc tx P T C K iv) ja j) ((tyS tx P T C K iv j).1))) (b := h 0) (As := [.ref (g 0), .int (nI j), .int (nI ((tyS tx P T C K iv j).2))]) (rest := []) hx hb hml hown hts hK hA hN hV hl.1 (c_X1_strike l D h ga gb cA n tx T C K P u g (pmF (oc tx P T C K iv) j) (jmF (oc tx P T C K iv) j) (lmF (oc tx P T C K iv) j) (duF tx P T C K iv j) (prF (oc tx P T C K iv) tx pr j) (jaF (oc tx P T C K iv) ja j) ((tyS tx P T C K iv j).1) j ((tyS tx P T C K iv j).2)  (by first | omega | assumption) (by first | omega | assumption) (by first | omega | assumption) (by first | omega | assumption) (by first | omega | assumption) (by first | omega | assumption) (fun q => by have := g2 q; omega) (by first | omega | assumption) (by first | omega | assumption) (by first | omega | assumption)) gX1_typeText_X1_strike rfl rfl rfl hdX1_strike ⟨Nat.le_of_ble_eq_true rfl, Nat.le_of_ble_eq_true rfl⟩ 0 1 rfl rfl rfl rfl rfl (Nat.le_of_ble_eq_true rfl) dX1_typeText_23 ⟨Nat.zero_le _, Nat.zero_le _⟩ (fun r W1 H locs hp hV => ?_)
        obtain ⟨hp1, hp2⟩ := hp
        replace hp1 := hp1.symm
        subst hp1
        replace hp2 := hp2.symm
        subst hp2
        have hV : qV D A s.heap ((wB h ga gb cA n tx T C K P u) ++ (wT g cA (if oc1 C ((tyS tx P T C K iv j).2) ((tyS tx P T C K iv j).1) (P (tx j)) = 0 then (pmF (oc tx P T C K iv) j) + 1 else (pmF (oc tx P T C K iv) j)) (if oc1 C ((tyS tx P T C K iv j).2) ((tyS tx P T C K iv j).1) (P (tx j)) = 1 then (jmF (oc tx P T C K iv) j) + 1 else (jmF (oc tx P T C K iv) j)) (if oc1 C ((tyS tx P T C K iv j).2) ((tyS tx P T C K iv j).1) (P (tx j)) = 0 ∨ oc1 C ((tyS tx P T C K iv j).2) ((tyS tx P T C K iv j).1) (P (tx j)) = 1 then (lmF (oc tx P T C K iv) j) else (lmF (oc tx P T C K iv) j) + 1) (duF tx P T C K iv j) (if oc1 C ((tyS tx P T C K iv j).2) ((tyS tx P T C K iv j).1) (P (tx j)) = 0 then up (prF (oc tx P T C K iv) tx pr j) (pmF (oc tx P T C K iv) j) (tx j) else (prF (oc tx P T C K iv) tx pr j)) (if oc1 C ((tyS tx P T C K iv j).2) ((tyS tx P T C K iv j).1) (P (tx j)) = 1 then up (jaF (oc tx P T C K iv) ja j) (jmF (oc tx P T C K iv) j) j else (jaF (oc tx P T C K iv) ja j)) (rn1 C T ((tyS tx P T C K iv j).2) ((tyS tx P T C K iv j).1) (P (tx j))))) H locs := hV
        have f1 := ite_le (oc1 C ((tyS tx P T C K iv j).2) ((tyS tx P T C K iv j).1) (P (tx j)) = 1)
        refine lv_istore (lv' := [(5, .int (nI (if oc1 C ((tyS tx P T C K iv j).2) ((tyS tx P T C K iv j).1) (P (tx j)) = 1 then 1 else 0))), (0, .ref (h 0)), (1, .ref (g 0)), (2, .int (nI iv)), (3, .int (nI ((tyS tx P T C K iv j).2))), (4, .int (nI j))]) hx hb dX1_typeText_26 hl (by decide) rfl (fun ls hl => ?_)
        refine lv_aload_n hx hb dX1_typeText_28 rfl (lv_at hl 2 rfl) ?_
        refine lv_iload_n hx hb dX1_typeText_29 rfl (lv_at hl 4 rfl) ?_
        refine lv_aload_n hx hb dX1_typeText_30 rfl (lv_at hl 1 rfl) ?_
        refine q_get (C := RX1) (T := TX1) (N := 12) (ci := 1) (v := .int (nI T)) hx hb hts hin1 hown hK hV 0 rfl rfl 2 (by decide) (List.mem_of_getElem? (i := 2) rfl) rfl dX1_typeText_31 ?_
        refine q_iadd2 (x := ((tyS tx P T C K iv j).2)) (y := T) (z := ((tyS tx P T C K iv j).2) + T) hx hb (by omega) dX1_typeText_34 ?_
        refine q_putN (C := RX0) (T := TX0) (N := 7) (ci := 0) (v := .int (nI (((tyS tx P T C K iv j).2) + T))) ((wB h ga gb cA n tx T C K P u) ++ (wT g cA (if oc1 C ((tyS tx P T C K iv j).2) ((tyS tx P T C K iv j).1) (P (tx j)) = 0 then (pmF (oc tx P T C K iv) j) + 1 else (pmF (oc tx P T C K iv) j)) (if oc1 C ((tyS tx P T C K iv j).2) ((tyS tx P T C K iv j).1) (P (tx j)) = 1 then (jmF (oc tx P T C K iv) j) + 1 else (jmF (oc tx P T C K iv) j)) (if oc1 C ((tyS tx P T C K iv j).2) ((tyS tx P T C K iv j).1) (P (tx j)) = 0 ∨ oc1 C ((tyS tx P T C K iv j).2) ((tyS tx P T C K iv j).1) (P (tx j)) = 1 then (lmF (oc tx P T C K iv) j) else (lmF (oc tx P T C K iv) j) + 1) (((tyS tx P T C K iv j).2) + T) (if oc1 C ((tyS tx P T C K iv j).2) ((tyS tx P T C K iv j).1) (P (tx j)) = 0 then up (prF (oc tx P T C K iv) tx pr j) (pmF (oc tx P T C K iv) j) (tx j) else (prF (oc tx P T C K iv) tx pr j)) (if oc1 C ((tyS tx P T C K iv j).2) ((tyS tx P T C K iv j).1) (P (tx j)) = 1 then up (jaF (oc tx P T C K iv) ja j) (jmF (oc tx P T C K iv) j) j else (jaF (oc tx P T C K iv) ja j)) (rn1 C T ((tyS tx P T C K iv j).2) ((tyS tx P T C K iv j).1) (P (tx j))))) hx hb hts hin0 tyX0 tyX0_ok nmX0 hown hK hV 3 rfl rfl 5 (by decide) hN (List.mem_of_getElem? (i := 6) rfl) rfl rfl rfl (Nat.le_of_ble_eq_true rfl) rfl dX1_typeText_35 (fun H locs hV => ?_)
        refine lv_iload_n hx hb dX1_typeText_38 rfl (lv_at hl 4 rfl) ?_
        refine lv_iload hx hb dX1_typeText_39 (lv_at hl 0 rfl) ?_
        refine q_if_eq (x := (if oc1 C ((tyS tx P T C K iv j).2) ((tyS tx P T C K iv j).1) (P (tx j)) = 1 then 1 else 0)) (tgt := 53) hx hb dX1_typeText_41 (by decide) (by omega) (fun c41 => ?_) (fun c41 => ?_)
        · have c41 := ite0 c41
          refine lv_iload_n hx hb dX1_typeText_53 rfl (lv_at hl 3 rfl) ?_
          refine q_iadd2 (x := ((tyS tx P T C K iv j).2)) (y := iv) (z := ((tyS tx P T C K iv j).2) + iv) hx hb (by omega) dX1_typeText_54 ?_
          refine lv_istore_n (lv' := [(3, .int (nI (((tyS tx P T C K iv j).2) + iv))), (5, .int (nI (if oc1 C ((tyS tx P T C K iv j).2) ((tyS tx P T C K iv j).1) (P (tx j)) = 1 then 1 else 0))), (0, .ref (h 0)), (1, .ref (g 0)), (2, .int (nI iv)), (4, .int (nI j))]) hx hb dX1_typeText_55 rfl hl (by decide) rfl (fun ls hl => ?_)
          refine q_iinc (x := j) (z := j + 1) (lv' := [(4, .int (nI (j + 1))), (3, .int (nI (((tyS tx P T C K iv j).2) + iv))), (5, .int (nI (if oc1 C ((tyS tx P T C K iv j).2) ((tyS tx P T C K iv j).1) (P (tx j)) = 1 then 1 else 0))), (0, .ref (h 0)), (1, .ref (g 0)), (2, .int (nI iv))]) hx hb dX1_typeText_56 hl (k := 5) rfl (dd := 1) rfl (by omega) (by decide) rfl (fun ls hl => ?_)
          refine lv_goto (tgt := 9) hx hb dX1_typeText_59 (by decide) ?_
          have e1 : (tyS tx P T C K iv (j + 1)).2 = ((tyS tx P T C K iv j).2) + iv := by have q := tyS_s0 c41; omega
          have e2 := duF_s tx P T C K iv j
          exact ih9  (j + 1) _ _ _ (by omega) (by first | omega | assumption) (by rw [e2]; exact hV) (by rw [e1]; exact lv_sub hl [3, 4, 5, 1, 0] rfl)
        · have c41 := ite1 c41
          refine lv_iload_n hx hb dX1_typeText_44 rfl (lv_at hl 3 rfl) ?_
          refine lv_aload_n hx hb dX1_typeText_45 rfl (lv_at hl 1 rfl) ?_
          refine q_get (C := RX1) (T := TX1) (N := 12) (ci := 1) (v := .int (nI K)) hx hb hts hin1 hown hK hV 0 rfl rfl 4 (by decide) (List.mem_of_getElem? (i := 3) rfl) rfl dX1_typeText_46 ?_
          refine q_iadd2 (x := iv) (y := K) (z := iv + K) hx hb (by omega) dX1_typeText_49 ?_
          refine lv_goto (tgt := 54) hx hb dX1_typeText_50 (by decide) ?_
          refine q_iadd2 (x := ((tyS tx P T C K iv j).2)) (y := iv + K) (z := ((tyS tx P T C K iv j).2) + iv + K) hx hb (by omega) dX1_typeText_54 ?_
          refine lv_istore_n (lv' := [(3, .int (nI (((tyS tx P T C K iv j).2) + iv + K))), (5, .int (nI (if oc1 C ((tyS tx P T C K iv j).2) ((tyS tx P T C K iv j).1) (P (tx j)) = 1 then 1 else 0))), (0, .ref (h 0)), (1, .ref (g 0)), (2, .int (nI iv)), (4, .int (nI j))]) hx hb dX1_typeText_55 rfl hl (by decide) rfl (fun ls hl => ?_)
          refine q_iinc (x := j) (z := j + 1) (lv' := [(4, .int (nI (j + 1))), (3, .int (nI (((tyS tx P T C K iv j).2) + iv + K))), (5, .int (nI (if oc1 C ((tyS tx P T C K iv j).2) ((tyS tx P T C K iv j).1) (P (tx j)) = 1 then 1 else 0))), (0, .ref (h 0)), (1, .ref (g 0)), (2, .int (nI iv))]) hx hb dX1_typeText_56 hl (k := 5) rfl (dd := 1) rfl (by omega) (by decide) rfl (fun ls hl => ?_)
          refine lv_goto (tgt := 9) hx hb dX1_typeText_59 (by decide) ?_
          have e1 : (tyS tx P T C K iv (j + 1)).2 = ((tyS tx P T C K iv j).2) + iv + K := by have q := tyS_s1 c41; omega
          have e2 := duF_s tx P T C K iv j
          exact ih9  (j + 1) _ _ _ (by omega) (by first | omega | assumption) (by rw [e2]; exact hV) (by rw [e1]; exact lv_sub hl [3, 4, 5, 1, 0] rfl)
  exact lp9 61 0 _ _ _ (by omega) (by first | omega | assumption) hV (lv_sub hl [2, 3, 4, 1, 0] rfl)
abbrev rm_X1_run : Room := { frames := 4, cells := 0, slots := 0, locals := 99 }
set_option maxHeartbeats 4000000 in
set_option maxRecDepth 100000 in
theorem c_X1_run (l : Launch) (D : va_G) (h : Nat → Nat) (gb : Nat) (cA : ClassId) (n : Nat) (tx : Nat → Nat) (T : Nat) (C : Nat) (K : Nat) (L : Nat → Nat) (P : Nat → Nat) (u : Nat) (ua : Nat → Nat) (ub : Nat → Nat) (g : Nat → Nat) (pm : Nat) (jm : Nat) (lm : Nat) (du : Nat) (pr : Nat → Nat) (ja : Nat → Nat) (rt : Nat → Nat) (v1 : Int32)  (hn : n ≤ 60) (htx : ∀ i, tx i < 12) (hC : C ≤ 5) (hp : perm L P) (hT : T ≤ 20) (hK5 : K ≤ 50) : CTi l D cA yX1_run wsX1_run rm_X1_run [.ref (h 0), .int v1] ((wC h (g 0) gb cA n tx T C K L P u ua ub) ++ (wT g cA pm jm lm du pr ja rt)) (fun r W1 => r = aRn tx P T C K n v1 ∧ ∃ rt1 : Nat → Nat, W1 = (wC h (g 0) gb cA n tx T C K L P u ua ub) ++ (wT g cA (((yRn tx P T C K n v1 (pm, jm, lm, du, pr, ja))).1) (((yRn tx P T C K n v1 (pm, jm, lm, du, pr, ja))).2.1) (((yRn tx P T C K n v1 (pm, jm, lm, du, pr, ja))).2.2.1) (((yRn tx P T C K n v1 (pm, jm, lm, du, pr, ja))).2.2.2.1) (((yRn tx P T C K n v1 (pm, jm, lm, du, pr, ja))).2.2.2.2.1) (((yRn tx P T C K n v1 (pm, jm, lm, du, pr, ja))).2.2.2.2.2) rt1)) := by
  refine CTi.mk (cc := cX1_run) (maxL := 2) (ret := some .int) (by decide) rfl (Nat.le_of_ble_eq_true rfl) ?_
  intro p e s m below meth c A ls E hV hl
  obtain ⟨hx, hb, hml, hr, hown, hts, hlocks, hK, hA, hN⟩ := E
  have hown : s.vm.findClass RX1 = some m.cls := hown
  have hin1 : ∀ w ∈ wsX10, w ∈ wsX1_run := fun _ h => List.mem_cons_of_mem _ (List.mem_append_left _ (List.mem_append_right _ h))
  have hin0 : ∀ w ∈ wsX00, w ∈ wsX1_run := fun _ h => List.mem_cons_of_mem _ (List.mem_append_right _ h)
  have hl : lv_has ls 2 [(0, .ref (h 0)), (1, .int v1)] := hl
  refine lv_iload_n hx hb dX1_run_0 rfl (lv_at hl 1 rfl) ?_
  refine lv_iconst (v := nI 1) hx hb dX1_run_1 (by decide) ?_
  refine z_icmp_lt (tgt := 11) hx hb dX1_run_2 (by decide) (fun c2 => ?_) (fun c2 => ?_)
  · rw [nI_toInt (n := 1) (by omega)] at c2
    refine lv_ldc (v := -1000003) hx hb hown (hts _ (List.mem_of_getElem? (i := 1) rfl)) dX1_run_11 ?_
    have e1 : okR 1 30 v1 = 0 := okR_no (by omega)
    exact q_iret (W1 := (wC h (g 0) gb cA n tx T C K L P u ua ub) ++ (wT g cA pm jm lm du pr ja rt)) hx hb hr hlocks hV dX1_run_13 ⟨(aRn_no e1).symm, rt, by rw [yRn_no e1]⟩
  · rw [nI_toInt (n := 1) (by omega)] at c2
    refine lv_iload_n hx hb dX1_run_5 rfl (lv_at hl 1 rfl) ?_
    refine lv_bipush (v := nI 30) hx hb dX1_run_6 (by decide) ?_
    refine z_icmp_le (tgt := 14) hx hb dX1_run_8 (by decide) (fun c8 => ?_) (fun c8 => ?_)
    · rw [nI_toInt (n := 30) (by omega)] at c8
      obtain ⟨k1, hk0, hk1, rfl⟩ := okR_g (lo := 1) (hi := 30) (by decide) (by omega) (by omega)
      refine lv_aload_n hx hb dX1_run_14 rfl (lv_at hl 0 rfl) ?_
      refine lv_aload_n hx hb dX1_run_15 rfl (lv_at hl 0 rfl) ?_
      refine q_get (C := RX1) (T := TX1) (N := 12) (ci := 1) (v := .ref (g 0)) hx hb hts hin1 hown hK hV 0 rfl rfl 10 (by decide) (List.mem_of_getElem? (i := 2) rfl) rfl dX1_run_16 ?_
      refine lv_iload_n hx hb dX1_run_19 rfl (lv_at hl 1 rfl) ?_
      have hV : qV D A s.heap ((wR h cA L ua ub) ++ (wB h (g 0) gb cA n tx T C K P u) ++ (wT g cA pm jm lm du pr ja rt)) s.heap [] := hV.sub [2, 4, 5, 0, 1, 3, 6, 7, 8, 9] rfl rfl
      refine k_V_v (w0 := wR h cA L ua ub) (wc := (wB h (g 0) gb cA n tx T C K P u) ++ (wT g cA pm jm lm du pr ja rt)) (b := h 0) (As := [.ref (g 0), .int (nI k1)]) (rest := []) hx hb hml hown hts hK hA hN hV hl.1 (c_X1_typeText l D h (g 0) gb cA n tx T C K P u g pm jm lm du pr ja rt k1  (by first | omega | assumption) (by first | omega | assumption) (fun i hi => hp.P hi) (by first | omega | assumption) (by first | omega | assumption) (by first | omega | assumption) (by first | omega | assumption)) gX1_run_X1_typeText rfl rfl rfl hdX1_typeText ⟨Nat.le_of_ble_eq_true rfl, Nat.le_of_ble_eq_true rfl⟩ 3 1 rfl rfl rfl rfl rfl (Nat.le_of_ble_eq_true rfl) dX1_run_20 ⟨Nat.zero_le _, Nat.zero_le _⟩ (fun W1 H locs hp hV => ?_)
      subst hp
      have hV : qV D A s.heap ((wR h cA L ua ub) ++ (wB h (g 0) gb cA n tx T C K P u) ++ (wT g cA (pmF (oc tx P T C K k1) n) (jmF (oc tx P T C K k1) n) (lmF (oc tx P T C K k1) n) (duF tx P T C K k1 n) (prF (oc tx P T C K k1) tx pr n) (jaF (oc tx P T C K k1) ja n) ((tyS tx P T C K k1 n).1))) H locs := hV
      have hV : qV D A s.heap ((wC h (g 0) gb cA n tx T C K L P u ua ub) ++ (wT g cA (pmF (oc tx P T C K k1) n) (jmF (oc tx P T C K k1) n) (lmF (oc tx P T C K k1) n) (duF tx P T C K k1 n) (prF (oc tx P T C K k1) tx pr n) (jaF (oc tx P T C K k1) ja n) ((tyS tx P T C K k1 n).1))) H locs := hV.sub [3, 4, 0, 5, 1, 2, 6, 7, 8, 9] rfl rfl
      refine lv_aload_n hx hb dX1_run_23 rfl (lv_at hl 0 rfl) ?_
      refine q_get (C := RX1) (T := TX1) (N := 12) (ci := 1) (v := .ref (g 0)) hx hb hts hin1 hown hK hV 0 rfl rfl 10 (by decide) (List.mem_of_getElem? (i := 2) rfl) rfl dX1_run_24 ?_
      refine q_getN (C := RX0) (T := TX0) (N := 7) (ci := 0) (v := .int (nI (pmF (oc tx P T C K k1) n))) hx hb hts hin0 hown hK hV 6 rfl rfl 1 (by decide) hN (List.mem_of_getElem? (i := 2) rfl) rfl dX1_run_27 ?_
      exact q_iret (W1 := (wC h (g 0) gb cA n tx T C K L P u ua ub) ++ (wT g cA (pmF (oc tx P T C K k1) n) (jmF (oc tx P T C K k1) n) (lmF (oc tx P T C K k1) n) (duF tx P T C K k1 n) (prF (oc tx P T C K k1) tx pr n) (jaF (oc tx P T C K k1) ja n) ((tyS tx P T C K k1 n).1))) hx hb hr hlocks hV dX1_run_30 ⟨(aRn_ok hk0 hk1).symm, _, by rw [yRn_ok hk0 hk1]; rfl⟩
    · rw [nI_toInt (n := 30) (by omega)] at c8
      refine lv_ldc (v := -1000003) hx hb hown (hts _ (List.mem_of_getElem? (i := 1) rfl)) dX1_run_11 ?_
      have e1 : okR 1 30 v1 = 0 := okR_no (by omega)
      exact q_iret (W1 := (wC h (g 0) gb cA n tx T C K L P u ua ub) ++ (wT g cA pm jm lm du pr ja rt)) hx hb hr hlocks hV dX1_run_13 ⟨(aRn_no e1).symm, rt, by rw [yRn_no e1]⟩
abbrev rm_X1_jams : Room := { frames := 0, cells := 0, slots := 0, locals := 0 }
set_option maxHeartbeats 4000000 in
set_option maxRecDepth 100000 in
theorem c_X1_jams (l : Launch) (D : va_G) (h : Nat → Nat) (gb : Nat) (cA : ClassId) (n : Nat) (tx : Nat → Nat) (T : Nat) (C : Nat) (K : Nat) (L : Nat → Nat) (P : Nat → Nat) (u : Nat) (ua : Nat → Nat) (ub : Nat → Nat) (g : Nat → Nat) (pm : Nat) (jm : Nat) (lm : Nat) (du : Nat) (pr : Nat → Nat) (ja : Nat → Nat) (rt : Nat → Nat)    : CTi l D cA yX1_jams wsX1_jams rm_X1_jams [.ref (h 0)] ((wC h (g 0) gb cA n tx T C K L P u ua ub) ++ (wT g cA pm jm lm du pr ja rt)) (fun r W1 => r = nI jm ∧ W1 = (wC h (g 0) gb cA n tx T C K L P u ua ub) ++ (wT g cA pm jm lm du pr ja rt)) := by
  refine CTi.mk (cc := cX1_jams) (maxL := 1) (ret := some .int) (by decide) rfl (Nat.le_of_ble_eq_true rfl) ?_
  intro p e s m below meth c A ls E hV hl
  obtain ⟨hx, hb, hml, hr, hown, hts, hlocks, hK, hA, hN⟩ := E
  have hown : s.vm.findClass RX1 = some m.cls := hown
  have hin1 : ∀ w ∈ wsX10, w ∈ wsX1_jams := fun _ h => List.mem_cons_of_mem _ (List.mem_append_left _ (List.mem_append_right _ h))
  have hin0 : ∀ w ∈ wsX00, w ∈ wsX1_jams := fun _ h => List.mem_cons_of_mem _ (List.mem_append_right _ h)
  have hl : lv_has ls 1 [(0, .ref (h 0))] := hl
  refine lv_aload_n hx hb dX1_jams_0 rfl (lv_at hl 0 rfl) ?_
  refine q_get (C := RX1) (T := TX1) (N := 12) (ci := 1) (v := .ref (g 0)) hx hb hts hin1 hown hK hV 0 rfl rfl 10 (by decide) (List.mem_of_getElem? (i := 1) rfl) rfl dX1_jams_1 ?_
  refine q_getN (C := RX0) (T := TX0) (N := 7) (ci := 0) (v := .int (nI jm)) hx hb hts hin0 hown hK hV 6 rfl rfl 3 (by decide) hN (List.mem_of_getElem? (i := 4) rfl) rfl dX1_jams_4 ?_
  exact q_iret (W1 := (wC h (g 0) gb cA n tx T C K L P u ua ub) ++ (wT g cA pm jm lm du pr ja rt)) hx hb hr hlocks hV dX1_jams_7 ⟨rfl, rfl⟩
abbrev rm_X1_lost : Room := { frames := 0, cells := 0, slots := 0, locals := 0 }
set_option maxHeartbeats 4000000 in
set_option maxRecDepth 100000 in
theorem c_X1_lost (l : Launch) (D : va_G) (h : Nat → Nat) (gb : Nat) (cA : ClassId) (n : Nat) (tx : Nat → Nat) (T : Nat) (C : Nat) (K : Nat) (L : Nat → Nat) (P : Nat → Nat) (u : Nat) (ua : Nat → Nat) (ub : Nat → Nat) (g : Nat → Nat) (pm : Nat) (jm : Nat) (lm : Nat) (du : Nat) (pr : Nat → Nat) (ja : Nat → Nat) (rt : Nat → Nat)    : CTi l D cA yX1_lost wsX1_lost rm_X1_lost [.ref (h 0)] ((wC h (g 0) gb cA n tx T C K L P u ua ub) ++ (wT g cA pm jm lm du pr ja rt)) (fun r W1 => r = nI lm ∧ W1 = (wC h (g 0) gb cA n tx T C K L P u ua ub) ++ (wT g cA pm jm lm du pr ja rt)) := by
  refine CTi.mk (cc := cX1_lost) (maxL := 1) (ret := some .int) (by decide) rfl (Nat.le_of_ble_eq_true rfl) ?_
  intro p e s m below meth c A ls E hV hl
  obtain ⟨hx, hb, hml, hr, hown, hts, hlocks, hK, hA, hN⟩ := E
  have hown : s.vm.findClass RX1 = some m.cls := hown
  have hin1 : ∀ w ∈ wsX10, w ∈ wsX1_lost := fun _ h => List.mem_cons_of_mem _ (List.mem_append_left _ (List.mem_append_right _ h))
  have hin0 : ∀ w ∈ wsX00, w ∈ wsX1_lost := fun _ h => List.mem_cons_of_mem _ (List.mem_append_right _ h)
  have hl : lv_has ls 1 [(0, .ref (h 0))] := hl
  refine lv_aload_n hx hb dX1_lost_0 rfl (lv_at hl 0 rfl) ?_
  refine q_get (C := RX1) (T := TX1) (N := 12) (ci := 1) (v := .ref (g 0)) hx hb hts hin1 hown hK hV 0 rfl rfl 10 (by decide) (List.mem_of_getElem? (i := 1) rfl) rfl dX1_lost_1 ?_
  refine q_getN (C := RX0) (T := TX0) (N := 7) (ci := 0) (v := .int (nI lm)) hx hb hts hin0 hown hK hV 6 rfl rfl 4 (by decide) hN (List.mem_of_getElem? (i := 5) rfl) rfl dX1_lost_4 ?_
  exact q_iret (W1 := (wC h (g 0) gb cA n tx T C K L P u ua ub) ++ (wT g cA pm jm lm du pr ja rt)) hx hb hr hlocks hV dX1_lost_7 ⟨rfl, rfl⟩
abbrev rm_X1_duration : Room := { frames := 0, cells := 0, slots := 0, locals := 0 }
set_option maxHeartbeats 4000000 in
set_option maxRecDepth 100000 in
theorem c_X1_duration (l : Launch) (D : va_G) (h : Nat → Nat) (gb : Nat) (cA : ClassId) (n : Nat) (tx : Nat → Nat) (T : Nat) (C : Nat) (K : Nat) (L : Nat → Nat) (P : Nat → Nat) (u : Nat) (ua : Nat → Nat) (ub : Nat → Nat) (g : Nat → Nat) (pm : Nat) (jm : Nat) (lm : Nat) (du : Nat) (pr : Nat → Nat) (ja : Nat → Nat) (rt : Nat → Nat)    : CTi l D cA yX1_duration wsX1_duration rm_X1_duration [.ref (h 0)] ((wC h (g 0) gb cA n tx T C K L P u ua ub) ++ (wT g cA pm jm lm du pr ja rt)) (fun r W1 => r = nI du ∧ W1 = (wC h (g 0) gb cA n tx T C K L P u ua ub) ++ (wT g cA pm jm lm du pr ja rt)) := by
  refine CTi.mk (cc := cX1_duration) (maxL := 1) (ret := some .int) (by decide) rfl (Nat.le_of_ble_eq_true rfl) ?_
  intro p e s m below meth c A ls E hV hl
  obtain ⟨hx, hb, hml, hr, hown, hts, hlocks, hK, hA, hN⟩ := E
  have hown : s.vm.findClass RX1 = some m.cls := hown
  have hin1 : ∀ w ∈ wsX10, w ∈ wsX1_duration := fun _ h => List.mem_cons_of_mem _ (List.mem_append_left _ (List.mem_append_right _ h))
  have hin0 : ∀ w ∈ wsX00, w ∈ wsX1_duration := fun _ h => List.mem_cons_of_mem _ (List.mem_append_right _ h)
  have hl : lv_has ls 1 [(0, .ref (h 0))] := hl
  refine lv_aload_n hx hb dX1_duration_0 rfl (lv_at hl 0 rfl) ?_
  refine q_get (C := RX1) (T := TX1) (N := 12) (ci := 1) (v := .ref (g 0)) hx hb hts hin1 hown hK hV 0 rfl rfl 10 (by decide) (List.mem_of_getElem? (i := 1) rfl) rfl dX1_duration_1 ?_
  refine q_getN (C := RX0) (T := TX0) (N := 7) (ci := 0) (v := .int (nI du)) hx hb hts hin0 hown hK hV 6 rfl rfl 5 (by decide) hN (List.mem_of_getElem? (i := 6) rfl) rfl dX1_duration_4 ?_
  exact q_iret (W1 := (wC h (g 0) gb cA n tx T C K L P u ua ub) ++ (wT g cA pm jm lm du pr ja rt)) hx hb hr hlocks hV dX1_duration_7 ⟨rfl, rfl⟩
abbrev rm_X1_printedLetter : Room := { frames := 0, cells := 0, slots := 0, locals := 0 }
set_option maxHeartbeats 4000000 in
set_option maxRecDepth 100000 in
theorem c_X1_printedLetter (l : Launch) (D : va_G) (h : Nat → Nat) (gb : Nat) (cA : ClassId) (n : Nat) (tx : Nat → Nat) (T : Nat) (C : Nat) (K : Nat) (L : Nat → Nat) (P : Nat → Nat) (u : Nat) (ua : Nat → Nat) (ub : Nat → Nat) (g : Nat → Nat) (pm : Nat) (jm : Nat) (lm : Nat) (du : Nat) (pr : Nat → Nat) (ja : Nat → Nat) (rt : Nat → Nat) (v1 : Int32)  (h_m : pm ≤ 60) : CTi l D cA yX1_printedLetter wsX1_printedLetter rm_X1_printedLetter [.ref (h 0), .int v1] ((wC h (g 0) gb cA n tx T C K L P u ua ub) ++ (wT g cA pm jm lm du pr ja rt)) (fun r W1 => r = aIx pm pr v1 ∧ W1 = (wC h (g 0) gb cA n tx T C K L P u ua ub) ++ (wT g cA pm jm lm du pr ja rt)) := by
  refine CTi.mk (cc := cX1_printedLetter) (maxL := 2) (ret := some .int) (by decide) rfl (Nat.le_of_ble_eq_true rfl) ?_
  intro p e s m below meth c A ls E hV hl
  obtain ⟨hx, hb, hml, hr, hown, hts, hlocks, hK, hA, hN⟩ := E
  have hown : s.vm.findClass RX1 = some m.cls := hown
  have hin1 : ∀ w ∈ wsX10, w ∈ wsX1_printedLetter := fun _ h => List.mem_cons_of_mem _ (List.mem_append_left _ (List.mem_append_right _ h))
  have hin0 : ∀ w ∈ wsX00, w ∈ wsX1_printedLetter := fun _ h => List.mem_cons_of_mem _ (List.mem_append_right _ h)
  have hl : lv_has ls 2 [(0, .ref (h 0)), (1, .int v1)] := hl
  refine lv_iload_n hx hb dX1_printedLetter_0 rfl (lv_at hl 1 rfl) ?_
  refine z_if_lt (tgt := 15) hx hb dX1_printedLetter_1 (by decide) (fun c1 => ?_) (fun c1 => ?_)
  · refine lv_ldc (v := -1000006) hx hb hown (hts _ (List.mem_of_getElem? (i := 2) rfl)) dX1_printedLetter_15 ?_
    exact q_iret (W1 := (wC h (g 0) gb cA n tx T C K L P u ua ub) ++ (wT g cA pm jm lm du pr ja rt)) hx hb hr hlocks hV dX1_printedLetter_17 ⟨(aIx_no (by omega)).symm, rfl⟩
  · refine lv_iload_n hx hb dX1_printedLetter_4 rfl (lv_at hl 1 rfl) ?_
    refine lv_aload_n hx hb dX1_printedLetter_5 rfl (lv_at hl 0 rfl) ?_
    refine q_get (C := RX1) (T := TX1) (N := 12) (ci := 1) (v := .ref (g 0)) hx hb hts hin1 hown hK hV 0 rfl rfl 10 (by decide) (List.mem_of_getElem? (i := 1) rfl) rfl dX1_printedLetter_6 ?_
    refine q_getN (C := RX0) (T := TX0) (N := 7) (ci := 0) (v := .int (nI pm)) hx hb hts hin0 hown hK hV 6 rfl rfl 1 (by decide) hN (List.mem_of_getElem? (i := 2) rfl) rfl dX1_printedLetter_9 ?_
    refine z_icmp_lt (tgt := 18) hx hb dX1_printedLetter_12 (by decide) (fun c12 => ?_) (fun c12 => ?_)
    · rw [nI_toInt (n := pm) (by omega)] at c12
      obtain ⟨k1, hk1, rfl⟩ := okI_g (by omega) c12
      refine lv_aload_n hx hb dX1_printedLetter_18 rfl (lv_at hl 0 rfl) ?_
      refine q_get (C := RX1) (T := TX1) (N := 12) (ci := 1) (v := .ref (g 0)) hx hb hts hin1 hown hK hV 0 rfl rfl 10 (by decide) (List.mem_of_getElem? (i := 1) rfl) rfl dX1_printedLetter_19 ?_
      refine q_getN (C := RX0) (T := TX0) (N := 7) (ci := 0) (v := .ref (g 1)) hx hb hts hin0 hown hK hV 6 rfl rfl 0 (by decide) hN (List.mem_of_getElem? (i := 1) rfl) rfl dX1_printedLetter_22 ?_
      refine lv_iload_n hx hb dX1_printedLetter_25 rfl (lv_at hl 1 rfl) ?_
      refine q_iald (n := 60) (k := k1) (f := pr) hx hb hK hV 7 rfl (by omega) (by omega) dX1_printedLetter_26 ?_
      exact q_iret (W1 := (wC h (g 0) gb cA n tx T C K L P u ua ub) ++ (wT g cA pm jm lm du pr ja rt)) hx hb hr hlocks hV dX1_printedLetter_27 ⟨(aIx_ok hk1 (by omega)).symm, rfl⟩
    · rw [nI_toInt (n := pm) (by omega)] at c12
      refine lv_ldc (v := -1000006) hx hb hown (hts _ (List.mem_of_getElem? (i := 2) rfl)) dX1_printedLetter_15 ?_
      exact q_iret (W1 := (wC h (g 0) gb cA n tx T C K L P u ua ub) ++ (wT g cA pm jm lm du pr ja rt)) hx hb hr hlocks hV dX1_printedLetter_17 ⟨(aIx_no (by omega)).symm, rfl⟩
abbrev rm_X1_jammedKeystroke : Room := { frames := 0, cells := 0, slots := 0, locals := 0 }
set_option maxHeartbeats 4000000 in
set_option maxRecDepth 100000 in
theorem c_X1_jammedKeystroke (l : Launch) (D : va_G) (h : Nat → Nat) (gb : Nat) (cA : ClassId) (n : Nat) (tx : Nat → Nat) (T : Nat) (C : Nat) (K : Nat) (L : Nat → Nat) (P : Nat → Nat) (u : Nat) (ua : Nat → Nat) (ub : Nat → Nat) (g : Nat → Nat) (pm : Nat) (jm : Nat) (lm : Nat) (du : Nat) (pr : Nat → Nat) (ja : Nat → Nat) (rt : Nat → Nat) (v1 : Int32)  (h_m : jm ≤ 60) : CTi l D cA yX1_jammedKeystroke wsX1_jammedKeystroke rm_X1_jammedKeystroke [.ref (h 0), .int v1] ((wC h (g 0) gb cA n tx T C K L P u ua ub) ++ (wT g cA pm jm lm du pr ja rt)) (fun r W1 => r = aIx jm ja v1 ∧ W1 = (wC h (g 0) gb cA n tx T C K L P u ua ub) ++ (wT g cA pm jm lm du pr ja rt)) := by
  refine CTi.mk (cc := cX1_jammedKeystroke) (maxL := 2) (ret := some .int) (by decide) rfl (Nat.le_of_ble_eq_true rfl) ?_
  intro p e s m below meth c A ls E hV hl
  obtain ⟨hx, hb, hml, hr, hown, hts, hlocks, hK, hA, hN⟩ := E
  have hown : s.vm.findClass RX1 = some m.cls := hown
  have hin1 : ∀ w ∈ wsX10, w ∈ wsX1_jammedKeystroke := fun _ h => List.mem_cons_of_mem _ (List.mem_append_left _ (List.mem_append_right _ h))
  have hin0 : ∀ w ∈ wsX00, w ∈ wsX1_jammedKeystroke := fun _ h => List.mem_cons_of_mem _ (List.mem_append_right _ h)
  have hl : lv_has ls 2 [(0, .ref (h 0)), (1, .int v1)] := hl
  refine lv_iload_n hx hb dX1_jammedKeystroke_0 rfl (lv_at hl 1 rfl) ?_
  refine z_if_lt (tgt := 15) hx hb dX1_jammedKeystroke_1 (by decide) (fun c1 => ?_) (fun c1 => ?_)
  · refine lv_ldc (v := -1000006) hx hb hown (hts _ (List.mem_of_getElem? (i := 2) rfl)) dX1_jammedKeystroke_15 ?_
    exact q_iret (W1 := (wC h (g 0) gb cA n tx T C K L P u ua ub) ++ (wT g cA pm jm lm du pr ja rt)) hx hb hr hlocks hV dX1_jammedKeystroke_17 ⟨(aIx_no (by omega)).symm, rfl⟩
  · refine lv_iload_n hx hb dX1_jammedKeystroke_4 rfl (lv_at hl 1 rfl) ?_
    refine lv_aload_n hx hb dX1_jammedKeystroke_5 rfl (lv_at hl 0 rfl) ?_
    refine q_get (C := RX1) (T := TX1) (N := 12) (ci := 1) (v := .ref (g 0)) hx hb hts hin1 hown hK hV 0 rfl rfl 10 (by decide) (List.mem_of_getElem? (i := 1) rfl) rfl dX1_jammedKeystroke_6 ?_
    refine q_getN (C := RX0) (T := TX0) (N := 7) (ci := 0) (v := .int (nI jm)) hx hb hts hin0 hown hK hV 6 rfl rfl 3 (by decide) hN (List.mem_of_getElem? (i := 4) rfl) rfl dX1_jammedKeystroke_9 ?_
    refine z_icmp_lt (tgt := 18) hx hb dX1_jammedKeystroke_12 (by decide) (fun c12 => ?_) (fun c12 => ?_)
    · rw [nI_toInt (n := jm) (by omega)] at c12
      obtain ⟨k1, hk1, rfl⟩ := okI_g (by omega) c12
      refine lv_aload_n hx hb dX1_jammedKeystroke_18 rfl (lv_at hl 0 rfl) ?_
      refine q_get (C := RX1) (T := TX1) (N := 12) (ci := 1) (v := .ref (g 0)) hx hb hts hin1 hown hK hV 0 rfl rfl 10 (by decide) (List.mem_of_getElem? (i := 1) rfl) rfl dX1_jammedKeystroke_19 ?_
      refine q_getN (C := RX0) (T := TX0) (N := 7) (ci := 0) (v := .ref (g 2)) hx hb hts hin0 hown hK hV 6 rfl rfl 2 (by decide) hN (List.mem_of_getElem? (i := 3) rfl) rfl dX1_jammedKeystroke_22 ?_
      refine lv_iload_n hx hb dX1_jammedKeystroke_25 rfl (lv_at hl 1 rfl) ?_
      refine q_iald (n := 60) (k := k1) (f := ja) hx hb hK hV 8 rfl (by omega) (by omega) dX1_jammedKeystroke_26 ?_
      exact q_iret (W1 := (wC h (g 0) gb cA n tx T C K L P u ua ub) ++ (wT g cA pm jm lm du pr ja rt)) hx hb hr hlocks hV dX1_jammedKeystroke_27 ⟨(aIx_ok hk1 (by omega)).symm, rfl⟩
    · rw [nI_toInt (n := jm) (by omega)] at c12
      refine lv_ldc (v := -1000006) hx hb hown (hts _ (List.mem_of_getElem? (i := 2) rfl)) dX1_jammedKeystroke_15 ?_
      exact q_iret (W1 := (wC h (g 0) gb cA n tx T C K L P u ua ub) ++ (wT g cA pm jm lm du pr ja rt)) hx hb hr hlocks hV dX1_jammedKeystroke_17 ⟨(aIx_no (by omega)).symm, rfl⟩
abbrev rm_X1_safeInterval : Room := { frames := 4, cells := 0, slots := 0, locals := 99 }
set_option maxHeartbeats 4000000 in
set_option maxRecDepth 100000 in
theorem c_X1_safeInterval (l : Launch) (D : va_G) (h : Nat → Nat) (ga : Nat) (cA : ClassId) (n : Nat) (tx : Nat → Nat) (T : Nat) (C : Nat) (K : Nat) (L : Nat → Nat) (P : Nat → Nat) (u : Nat) (ua : Nat → Nat) (ub : Nat → Nat) (g : Nat → Nat) (pm : Nat) (jm : Nat) (lm : Nat) (du : Nat) (pr : Nat → Nat) (ja : Nat → Nat) (rt : Nat → Nat)   (hn : n ≤ 60) (htx : ∀ i, tx i < 12) (hC : C ≤ 5) (hp : perm L P) (hT : T ≤ 20) (hK5 : K ≤ 50) : CTi l D cA yX1_safeInterval wsX1_safeInterval rm_X1_safeInterval [.ref (h 0)] ((wC h ga (g 0) cA n tx T C K L P u ua ub) ++ (wT g cA pm jm lm du pr ja rt)) (fun r W1 => r = bV (sfi tx P T C K n) ∧ ∃ (pm1 jm1 lm1 du1 : Nat) (pr1 ja1 rt1 : Nat → Nat), W1 = (wC h ga (g 0) cA n tx T C K L P u ua ub) ++ (wT g cA pm1 jm1 lm1 du1 pr1 ja1 rt1)) := by
  refine CTi.mk (cc := cX1_safeInterval) (maxL := 2) (ret := some .int) (by decide) rfl (Nat.le_of_ble_eq_true rfl) ?_
  intro p e s m below meth c A ls E hV hl
  obtain ⟨hx, hb, hml, hr, hown, hts, hlocks, hK, hA, hN⟩ := E
  have hown : s.vm.findClass RX1 = some m.cls := hown
  have hin1 : ∀ w ∈ wsX10, w ∈ wsX1_safeInterval := fun _ h => List.mem_cons_of_mem _ (List.mem_append_left _ (List.mem_append_right _ h))
  have hin0 : ∀ w ∈ wsX00, w ∈ wsX1_safeInterval := fun _ h => List.mem_cons_of_mem _ (List.mem_append_right _ h)
  have hl : lv_has ls 2 [(0, .ref (h 0))] := hl
  refine lv_iconst (v := nI 1) hx hb dX1_safeInterval_0 (by decide) ?_
  refine lv_istore_n (lv' := [(1, .int (nI 1)), (0, .ref (h 0))]) hx hb dX1_safeInterval_1 rfl hl (by decide) rfl (fun ls hl => ?_)
  have lp2 : ∀ (d2 : Nat) (i : Nat) (pm1 : Nat) (jm1 : Nat) (lm1 : Nat) (du1 : Nat) (pr1 : Nat → Nat) (ja1 : Nat → Nat) (rt1 : Nat → Nat) (H : Heap) (locs : List Loc) (ls : Array Slot), (32 ≤ i + d2) → (1 ≤ i) → (i ≤ 31) → (sfF (bad tx P T C K n) (31 - i) i = sfi tx P T C K n) → qV D A s.heap ((wC h ga (g 0) cA n tx T C K L P u ua ub) ++ (wT g cA pm1 jm1 lm1 du1 pr1 ja1 rt1)) H locs → lv_has ls 2 [(0, .ref (h 0)), (1, .int (nI i))] → W p l e rm_X1_safeInterval s m ([.ref (h 0)] : List Value).toArray below meth c H locs 0 0 (MQ below (va_Qi (fun r W1 => r = bV (sfi tx P T C K n) ∧ ∃ (pm1 jm1 lm1 du1 : Nat) (pr1 ja1 rt1 : Nat → Nat), W1 = (wC h ga (g 0) cA n tx T C K L P u ua ub) ++ (wT g cA pm1 jm1 lm1 du1 pr1 ja1 rt1)) (cPost D A) A) ([.ref (h 0)] : List Value).toArray s 0 0 A) (F0 m 2 ls []) := by
    intro d2
    induction d2 with
    | zero => intro i pm1 jm1 lm1 du1 pr1 ja1 rt1 H locs ls hm2 hi0 hi hI hV hl; exfalso; omega
    | succ d2 ih2 =>
      intro i pm1 jm1 lm1 du1 pr1 ja1 rt1 H locs ls hm2 hi0 hi hI hV hl
      refine lv_iload_n hx hb dX1_safeInterval_2 rfl (lv_at hl 1 rfl) ?_
      refine lv_bipush (v := nI 30) hx hb dX1_safeInterval_3 (by decide) ?_
      refine q_icmp_gt (x := i) (y := 30) (tgt := 45) hx hb dX1_safeInterval_5 (by decide) (by omega) (by omega) (fun c5 => ?_) (fun c5 => ?_)
      · refine lv_ldc (v := -1000006) hx hb hown (hts _ (List.mem_of_getElem? (i := 2) rfl)) dX1_safeInterval_45 ?_
        have ei : i = 31 := by omega
        have e1 : sfi tx P T C K n = 0 := by rw [← hI, ei]; rfl
        exact q_iret (W1 := (wC h ga (g 0) cA n tx T C K L P u ua ub) ++ (wT g cA pm1 jm1 lm1 du1 pr1 ja1 rt1)) hx hb hr hlocks hV dX1_safeInterval_47 ⟨by rw [e1]; rfl, _, _, _, _, _, _, _, rfl⟩
      · refine lv_aload_n hx hb dX1_safeInterval_8 rfl (lv_at hl 0 rfl) ?_
        refine lv_aload_n hx hb dX1_safeInterval_9 rfl (lv_at hl 0 rfl) ?_
        refine q_get (C := RX1) (T := TX1) (N := 12) (ci := 1) (v := .ref (g 0)) hx hb hts hin1 hown hK hV 0 rfl rfl 11 (by decide) (List.mem_of_getElem? (i := 1) rfl) rfl dX1_safeInterval_10 ?_
        refine lv_iload_n hx hb dX1_safeInterval_13 rfl (lv_at hl 1 rfl) ?_
        have hV : qV D A s.heap ((wR h cA L ua ub) ++ (wB h ga (g 0) cA n tx T C K P u) ++ (wT g cA pm1 jm1 lm1 du1 pr1 ja1 rt1)) H locs := hV.sub [2, 4, 5, 0, 1, 3, 6, 7, 8, 9] rfl rfl
        refine k_V_v (w0 := wR h cA L ua ub) (wc := (wB h ga (g 0) cA n tx T C K P u) ++ (wT g cA pm1 jm1 lm1 du1 pr1 ja1 rt1)) (b := h 0) (As := [.ref (g 0), .int (nI i)]) (rest := []) hx hb hml hown hts hK hA hN hV hl.1 (c_X1_typeText l D h ga (g 0) cA n tx T C K P u g pm1 jm1 lm1 du1 pr1 ja1 rt1 i  (by first | omega | assumption) (by first | omega | assumption) (fun i hi => hp.P hi) (by first | omega | assumption) (by first | omega | assumption) (by first | omega | assumption) (by first | omega | assumption)) gX1_safeInterval_X1_typeText rfl rfl rfl hdX1_typeText ⟨Nat.le_of_ble_eq_true rfl, Nat.le_of_ble_eq_true rfl⟩ 3 1 rfl rfl rfl rfl rfl (Nat.le_of_ble_eq_true rfl) dX1_safeInterval_14 ⟨Nat.zero_le _, Nat.zero_le _⟩ (fun W1 H locs hp hV => ?_)
        subst hp
        have hV : qV D A s.heap ((wR h cA L ua ub) ++ (wB h ga (g 0) cA n tx T C K P u) ++ (wT g cA (pmF (oc tx P T C K i) n) (jmF (oc tx P T C K i) n) (lmF (oc tx P T C K i) n) (duF tx P T C K i n) (prF (oc tx P T C K i) tx pr1 n) (jaF (oc tx P T C K i) ja1 n) ((tyS tx P T C K i n).1))) H locs := hV
        have hV : qV D A s.heap ((wC h ga (g 0) cA n tx T C K L P u ua ub) ++ (wT g cA (pmF (oc tx P T C K i) n) (jmF (oc tx P T C K i) n) (lmF (oc tx P T C K i) n) (duF tx P T C K i n) (prF (oc tx P T C K i) tx pr1 n) (jaF (oc tx P T C K i) ja1 n) ((tyS tx P T C K i n).1))) H locs := hV.sub [3, 4, 0, 5, 1, 2, 6, 7, 8, 9] rfl rfl
        have g4 := jmF_le (oc tx P T C K i) n
        have g5 := lmF_le (oc tx P T C K i) n
        refine lv_aload_n hx hb dX1_safeInterval_17 rfl (lv_at hl 0 rfl) ?_
        refine q_get (C := RX1) (T := TX1) (N := 12) (ci := 1) (v := .ref (g 0)) hx hb hts hin1 hown hK hV 0 rfl rfl 11 (by decide) (List.mem_of_getElem? (i := 1) rfl) rfl dX1_safeInterval_18 ?_
        refine q_getN (C := RX0) (T := TX0) (N := 7) (ci := 0) (v := .int (nI (jmF (oc tx P T C K i) n))) hx hb hts hin0 hown hK hV 6 rfl rfl 3 (by decide) hN (List.mem_of_getElem? (i := 4) rfl) rfl dX1_safeInterval_21 ?_
        refine q_if_ne (x := (jmF (oc tx P T C K i) n)) (tgt := 39) hx hb dX1_safeInterval_24 (by decide) (by omega) (fun c24 => ?_) (fun c24 => ?_)
        · refine q_iinc (x := i) (z := i + 1) (lv' := [(1, .int (nI (i + 1))), (0, .ref (h 0))]) hx hb dX1_safeInterval_39 hl (k := 1) rfl (dd := 1) rfl (by omega) (by decide) rfl (fun ls hl => ?_)
          refine lv_goto (tgt := 2) hx hb dX1_safeInterval_42 (by decide) ?_
          exact ih2  (i + 1) (pmF (oc tx P T C K i) n) (jmF (oc tx P T C K i) n) (lmF (oc tx P T C K i) n) (duF tx P T C K i n) (prF (oc tx P T C K i) tx pr1 n) (jaF (oc tx P T C K i) ja1 n) ((tyS tx P T C K i n).1) _ _ _ (by omega) (by first | omega | assumption) (by first | omega | assumption) (by have q := hI; rw [sfF_s (by omega), if_neg (show ¬ bad tx P T C K n i = 0 by unfold bad; omega)] at q; exact q) hV (lv_sub hl [1, 0] rfl)
        · refine lv_aload_n hx hb dX1_safeInterval_27 rfl (lv_at hl 0 rfl) ?_
          refine q_get (C := RX1) (T := TX1) (N := 12) (ci := 1) (v := .ref (g 0)) hx hb hts hin1 hown hK hV 0 rfl rfl 11 (by decide) (List.mem_of_getElem? (i := 1) rfl) rfl dX1_safeInterval_28 ?_
          refine q_getN (C := RX0) (T := TX0) (N := 7) (ci := 0) (v := .int (nI (lmF (oc tx P T C K i) n))) hx hb hts hin0 hown hK hV 6 rfl rfl 4 (by decide) hN (List.mem_of_getElem? (i := 5) rfl) rfl dX1_safeInterval_31 ?_
          refine q_if_ne (x := (lmF (oc tx P T C K i) n)) (tgt := 39) hx hb dX1_safeInterval_34 (by decide) (by omega) (fun c34 => ?_) (fun c34 => ?_)
          · refine q_iinc (x := i) (z := i + 1) (lv' := [(1, .int (nI (i + 1))), (0, .ref (h 0))]) hx hb dX1_safeInterval_39 hl (k := 1) rfl (dd := 1) rfl (by omega) (by decide) rfl (fun ls hl => ?_)
            refine lv_goto (tgt := 2) hx hb dX1_safeInterval_42 (by decide) ?_
            exact ih2  (i + 1) (pmF (oc tx P T C K i) n) (jmF (oc tx P T C K i) n) (lmF (oc tx P T C K i) n) (duF tx P T C K i n) (prF (oc tx P T C K i) tx pr1 n) (jaF (oc tx P T C K i) ja1 n) ((tyS tx P T C K i n).1) _ _ _ (by omega) (by first | omega | assumption) (by first | omega | assumption) (by have q := hI; rw [sfF_s (by omega), if_neg (show ¬ bad tx P T C K n i = 0 by unfold bad; omega)] at q; exact q) hV (lv_sub hl [1, 0] rfl)
          · refine lv_iload_n hx hb dX1_safeInterval_37 rfl (lv_at hl 1 rfl) ?_
            have e1 : sfi tx P T C K n = i := by rw [← hI, sfF_s (by omega), if_pos (show bad tx P T C K n i = 0 by unfold bad; omega)]
            exact q_iret (W1 := (wC h ga (g 0) cA n tx T C K L P u ua ub) ++ (wT g cA (pmF (oc tx P T C K i) n) (jmF (oc tx P T C K i) n) (lmF (oc tx P T C K i) n) (duF tx P T C K i n) (prF (oc tx P T C K i) tx pr1 n) (jaF (oc tx P T C K i) ja1 n) ((tyS tx P T C K i n).1))) hx hb hr hlocks hV dX1_safeInterval_38 ⟨by rw [e1, bV_nI (by omega)], _, _, _, _, _, _, _, rfl⟩
  exact lp2 31 1 pm jm lm du pr ja rt _ _ _ (by omega) (by first | omega | assumption) (by first | omega | assumption) rfl hV (lv_sub hl [1, 0] rfl)
abbrev rm_X1_mix : Room := { frames := 0, cells := 0, slots := 0, locals := 0 }
set_option maxHeartbeats 4000000 in
set_option maxRecDepth 100000 in
theorem c_X1_mix (l : Launch) (D : va_G) (cA : ClassId) (x1 : Int64) (x2 : Int64)   : CTl l D cA yX1_mix wsX1_mix rm_X1_mix [.long x1, .long x2] (([] : va_W)) (fun r W1 => r = mx x1 x2 ∧ W1 = ([] : va_W)) := by
  refine CTl.mk (cc := cX1_mix) (maxL := 4) (ret := some .long) (by decide) rfl (Nat.le_of_ble_eq_true rfl) ?_
  intro p e s m below meth c A ls E hV hl
  obtain ⟨hx, hb, hml, hr, hown, hts, hlocks, hK, hA, hN⟩ := E
  have hown : s.vm.findClass RX1 = some m.cls := hown
  have hl : lv_has ls 4 [(0, .long x1), (2, .long x2)] := hl
  refine lv_ldc2 (v := 31) hx hb hown (hts _ (List.mem_of_getElem? (i := 1) rfl)) dX1_mix_0 ?_
  refine lv_lload_n hx hb dX1_mix_3 rfl (lv_at hl 0 rfl) ?_
  refine lv_lmul hx hb dX1_mix_4 ?_
  refine lv_lload_n hx hb dX1_mix_5 rfl (lv_at hl 1 rfl) ?_
  refine lv_ladd hx hb dX1_mix_6 ?_
  exact q_lret (W1 := ([] : va_W)) hx hb hr hlocks hV dX1_mix_7 ⟨rfl, rfl⟩
abbrev rm_X1_mixAll : Room := { frames := 1, cells := 0, slots := 0, locals := 23 }
set_option maxHeartbeats 4000000 in
set_option maxRecDepth 100000 in
theorem c_X1_mixAll (l : Launch) (D : va_G) (aa : Nat) (nn : Nat) (cA : ClassId) (ff : Nat → Nat) (x1 : Int64) (q1 : Nat)  (h_q : q1 ≤ nn) (h_n : nn ≤ 60) : CTl l D cA yX1_mixAll wsX1_mixAll rm_X1_mixAll [.long x1, .ref aa, .int (nI q1)] (wA aa nn cA ff) (fun r W1 => r = mxF x1 ff q1 ∧ W1 = wA aa nn cA ff) := by
  refine CTl.mk (cc := cX1_mixAll) (maxL := 7) (ret := some .long) (by decide) rfl (Nat.le_of_ble_eq_true rfl) ?_
  intro p e s m below meth c A ls E hV hl
  obtain ⟨hx, hb, hml, hr, hown, hts, hlocks, hK, hA, hN⟩ := E
  have hown : s.vm.findClass RX1 = some m.cls := hown
  have hl : lv_has ls 7 [(0, .long x1), (2, .ref aa), (3, .int (nI q1))] := hl
  refine lv_lload_n hx hb dX1_mixAll_0 rfl (lv_at hl 0 rfl) ?_
  refine lv_lstore (lv' := [(4, .long x1), (0, .long x1), (2, .ref aa), (3, .int (nI q1))]) hx hb dX1_mixAll_1 hl (by decide) rfl (fun ls hl => ?_)
  refine lv_iconst (v := nI 0) hx hb dX1_mixAll_3 (by decide) ?_
  refine lv_istore (lv' := [(6, .int (nI 0)), (4, .long x1), (0, .long x1), (2, .ref aa), (3, .int (nI q1))]) hx hb dX1_mixAll_4 hl (by decide) rfl (fun ls hl => ?_)
  have lp6 : ∀ (d6 : Nat) (j : Nat) (H : Heap) (locs : List Loc) (ls : Array Slot), (61 ≤ j + d6) → (j ≤ q1) → qV D A s.heap (wA aa nn cA ff) H locs → lv_has ls 7 [(0, .long x1), (2, .ref aa), (3, .int (nI q1)), (4, .long (mxF x1 ff j)), (6, .int (nI j))] → W p l e rm_X1_mixAll s m ([.long x1, .ref aa, .int (nI q1)] : List Value).toArray below meth c H locs 0 0 (MQ below (va_Ql (fun r W1 => r = mxF x1 ff q1 ∧ W1 = wA aa nn cA ff) (cPost D A) A) ([.long x1, .ref aa, .int (nI q1)] : List Value).toArray s 0 0 A) (F0 m 6 ls []) := by
    intro d6
    induction d6 with
    | zero => intro j H locs ls hm6 hj hV hl; exfalso; omega
    | succ d6 ih6 =>
      intro j H locs ls hm6 hj hV hl
      refine lv_iload hx hb dX1_mixAll_6 (lv_at hl 4 rfl) ?_
      refine lv_iload_n hx hb dX1_mixAll_8 rfl (lv_at hl 2 rfl) ?_
      refine q_icmp_ge (x := j) (y := q1) (tgt := 37) hx hb dX1_mixAll_9 (by decide) (by omega) (by omega) (fun c9 => ?_) (fun c9 => ?_)
      · refine lv_lload hx hb dX1_mixAll_37 (lv_at hl 3 rfl) ?_
        have ej : j = q1 := by omega
        exact q_lret (W1 := wA aa nn cA ff) hx hb hr hlocks hV dX1_mixAll_39 ⟨by rw [ej], rfl⟩
      · refine lv_iload hx hb dX1_mixAll_12 (lv_at hl 4 rfl) ?_
        refine lv_aload_n hx hb dX1_mixAll_14 rfl (lv_at hl 1 rfl) ?_
        refine va_alen (v := nI nn) hx hb hK hV.1 0 0 rfl rfl rfl dX1_mixAll_15 ?_
        refine q_icmp_ge (x := j) (y := nn) (tgt := 37) hx hb dX1_mixAll_16 (by decide) (by omega) (by omega) (fun c16 => ?_) (fun c16 => ?_)
        · refine lv_lload hx hb dX1_mixAll_37 (lv_at hl 3 rfl) ?_
          have ej : j = q1 := by omega
          exact q_lret (W1 := wA aa nn cA ff) hx hb hr hlocks hV dX1_mixAll_39 ⟨by rw [ej], rfl⟩
        · refine lv_lload hx hb dX1_mixAll_19 (lv_at hl 3 rfl) ?_
          refine lv_aload_n hx hb dX1_mixAll_21 rfl (lv_at hl 1 rfl) ?_
          refine lv_iload hx hb dX1_mixAll_22 (lv_at hl 4 rfl) ?_
          refine q_iald (n := nn) (k := j) (f := ff) hx hb hK hV 0 rfl (by omega) (by omega) dX1_mixAll_24 ?_
          refine lv_i2l hx hb dX1_mixAll_25 rfl ?_
          refine k_S_l (w0 := wA aa nn cA ff) (wc := ([] : va_W)) (As := [.long (mxF x1 ff j), .long ((nI (ff j)).toInt64)]) (rest := []) hx hb hml hown hts hK hA hN hV hl.1 (c_X1_mix l D cA (mxF x1 ff j) ((nI (ff j)).toInt64)  ) gX1_mixAll_X1_mix rfl rfl rfl hdX1_mix ⟨Nat.le_of_ble_eq_true rfl, Nat.le_of_ble_eq_true rfl⟩ rfl rfl (Nat.le_of_ble_eq_true rfl) dX1_mixAll_26 ⟨Nat.zero_le _, Nat.zero_le _⟩ (fun r W1 H locs hp hV => ?_)
          obtain ⟨hp1, hp2⟩ := hp
          replace hp1 := hp1.symm
          subst hp1
          replace hp2 := hp2.symm
          subst hp2
          have hV : qV D A s.heap (wA aa nn cA ff) H locs := hV
          refine lv_lstore (lv' := [(4, .long (mx (mxF x1 ff j) ((nI (ff j)).toInt64))), (0, .long x1), (2, .ref aa), (3, .int (nI q1)), (6, .int (nI j))]) hx hb dX1_mixAll_29 hl (by decide) rfl (fun ls hl => ?_)
          refine q_iinc (x := j) (z := j + 1) (lv' := [(6, .int (nI (j + 1))), (4, .long (mx (mxF x1 ff j) ((nI (ff j)).toInt64))), (0, .long x1), (2, .ref aa), (3, .int (nI q1))]) hx hb dX1_mixAll_31 hl (k := 4) rfl (dd := 1) rfl (by omega) (by decide) rfl (fun ls hl => ?_)
          refine lv_goto (tgt := 6) hx hb dX1_mixAll_34 (by decide) ?_
          exact ih6  (j + 1) _ _ _ (by omega) (by first | omega | assumption) hV (lv_sub hl [2, 3, 4, 1, 0] rfl)
  exact lp6 61 0 _ _ _ (by omega) (by first | omega | assumption) hV (lv_sub hl [2, 3, 4, 1, 0] rfl)
abbrev rm_X1_digest : Room := { frames := 5, cells := 0, slots := 0, locals := 120 }
set_option maxHeartbeats 4000000 in
set_option maxRecDepth 100000 in
theorem c_X1_digest (l : Launch) (D : va_G) (h : Nat → Nat) (cA : ClassId) (n : Nat) (tx : Nat → Nat) (T : Nat) (C : Nat) (K : Nat) (L : Nat → Nat) (P : Nat → Nat) (u : Nat) (ua : Nat → Nat) (ub : Nat → Nat) (g : Nat → Nat) (pm : Nat) (jm : Nat) (lm : Nat) (du : Nat) (pr : Nat → Nat) (ja : Nat → Nat) (rt : Nat → Nat) (k : Nat → Nat) (pm2 : Nat) (jm2 : Nat) (lm2 : Nat) (du2 : Nat) (pr2 : Nat → Nat) (ja2 : Nat → Nat) (rt2 : Nat → Nat)   (hn : n ≤ 60) (htx : ∀ i, tx i < 12) (hC : C ≤ 5) (hp : perm L P) (hT : T ≤ 20) (hK5 : K ≤ 50) (h_pm : pm ≤ 60) (h_jm : jm ≤ 60) : CTl l D cA yX1_digest wsX1_digest rm_X1_digest [.ref (h 0)] ((wC h (g 0) (k 0) cA n tx T C K L P u ua ub) ++ (wT g cA pm jm lm du pr ja rt) ++ (wT k cA pm2 jm2 lm2 du2 pr2 ja2 rt2)) (fun r W1 => r = dgst tx P L n T C K u pm jm lm du pr ja ∧ ∃ (pm1 jm1 lm1 du1 : Nat) (pr1 ja1 rt1 : Nat → Nat), W1 = (wC h (g 0) (k 0) cA n tx T C K L P u ua ub) ++ (wT g cA pm jm lm du pr ja rt) ++ (wT k cA pm1 jm1 lm1 du1 pr1 ja1 rt1)) := by
  refine CTl.mk (cc := cX1_digest) (maxL := 3) (ret := some .long) (by decide) rfl (Nat.le_of_ble_eq_true rfl) ?_
  intro p e s m below meth c A ls E hV hl
  obtain ⟨hx, hb, hml, hr, hown, hts, hlocks, hK, hA, hN⟩ := E
  have hown : s.vm.findClass RX1 = some m.cls := hown
  have hin1 : ∀ w ∈ wsX10, w ∈ wsX1_digest := fun _ h => List.mem_cons_of_mem _ (List.mem_append_left _ (List.mem_append_right _ h))
  have hin0 : ∀ w ∈ wsX00, w ∈ wsX1_digest := fun _ h => List.mem_cons_of_mem _ (List.mem_append_right _ h)
  have hl : lv_has ls 3 [(0, .ref (h 0))] := hl
  refine lv_ldc2 (v := 1783) hx hb hown (hts _ (List.mem_of_getElem? (i := 1) rfl)) dX1_digest_0 ?_
  refine lv_aload_n hx hb dX1_digest_3 rfl (lv_at hl 0 rfl) ?_
  refine q_get (C := RX1) (T := TX1) (N := 12) (ci := 1) (v := .int (nI n)) hx hb hts hin1 hown hK hV 0 rfl rfl 1 (by decide) (List.mem_of_getElem? (i := 2) rfl) rfl dX1_digest_4 ?_
  refine lv_i2l hx hb dX1_digest_7 rfl ?_
  refine k_S_l (w0 := (wC h (g 0) (k 0) cA n tx T C K L P u ua ub) ++ (wT g cA pm jm lm du pr ja rt) ++ (wT k cA pm2 jm2 lm2 du2 pr2 ja2 rt2)) (wc := ([] : va_W)) (As := [.long 1783, .long ((nI n).toInt64)]) (rest := []) hx hb hml hown hts hK hA hN hV hl.1 (c_X1_mix l D cA 1783 ((nI n).toInt64)  ) gX1_digest_X1_mix rfl rfl rfl hdX1_mix ⟨Nat.le_of_ble_eq_true rfl, Nat.le_of_ble_eq_true rfl⟩ rfl rfl (Nat.le_of_ble_eq_true rfl) dX1_digest_8 ⟨Nat.zero_le _, Nat.zero_le _⟩ (fun r W1 H locs hp hV => ?_)
  obtain ⟨hp1, hp2⟩ := hp
  replace hp1 := hp1.symm
  subst hp1
  replace hp2 := hp2.symm
  subst hp2
  have hV : qV D A s.heap ((wC h (g 0) (k 0) cA n tx T C K L P u ua ub) ++ (wT g cA pm jm lm du pr ja rt) ++ (wT k cA pm2 jm2 lm2 du2 pr2 ja2 rt2)) H locs := hV
  refine lv_aload_n hx hb dX1_digest_11 rfl (lv_at hl 0 rfl) ?_
  refine q_get (C := RX1) (T := TX1) (N := 12) (ci := 1) (v := .ref (h 1)) hx hb hts hin1 hown hK hV 0 rfl rfl 0 (by decide) (List.mem_of_getElem? (i := 3) rfl) rfl dX1_digest_12 ?_
  refine lv_aload_n hx hb dX1_digest_15 rfl (lv_at hl 0 rfl) ?_
  refine q_get (C := RX1) (T := TX1) (N := 12) (ci := 1) (v := .int (nI n)) hx hb hts hin1 hown hK hV 0 rfl rfl 1 (by decide) (List.mem_of_getElem? (i := 2) rfl) rfl dX1_digest_16 ?_
  have hV : qV D A s.heap ((((wC h (g 0) (k 0) cA n tx T C K L P u ua ub) ++ (wT g cA pm jm lm du pr ja rt) ++ (wT k cA pm2 jm2 lm2 du2 pr2 ja2 rt2)).eraseIdx 1) ++ (wA (h 1) 60 cA tx)) H locs := hV.sub [0, 2, 3, 4, 5, 6, 7, 8, 9, 10, 11, 12, 13, 1] rfl rfl
  refine k_S_l (w0 := ((wC h (g 0) (k 0) cA n tx T C K L P u ua ub) ++ (wT g cA pm jm lm du pr ja rt) ++ (wT k cA pm2 jm2 lm2 du2 pr2 ja2 rt2)).eraseIdx 1) (wc := wA (h 1) 60 cA tx) (As := [.long (mx 1783 ((nI n).toInt64)), .ref (h 1), .int (nI n)]) (rest := []) hx hb hml hown hts hK hA hN hV hl.1 (c_X1_mixAll l D (h 1) 60 cA tx (mx 1783 ((nI n).toInt64)) n  (by first | omega | assumption) (by first | omega | assumption)) gX1_digest_X1_mixAll rfl rfl rfl hdX1_mixAll ⟨Nat.le_of_ble_eq_true rfl, Nat.le_of_ble_eq_true rfl⟩ rfl rfl (Nat.le_of_ble_eq_true rfl) dX1_digest_19 ⟨Nat.zero_le _, Nat.zero_le _⟩ (fun r W1 H locs hp hV => ?_)
  obtain ⟨hp1, hp2⟩ := hp
  replace hp1 := hp1.symm
  subst hp1
  replace hp2 := hp2.symm
  subst hp2
  have hV : qV D A s.heap ((((wC h (g 0) (k 0) cA n tx T C K L P u ua ub) ++ (wT g cA pm jm lm du pr ja rt) ++ (wT k cA pm2 jm2 lm2 du2 pr2 ja2 rt2)).eraseIdx 1) ++ (wA (h 1) 60 cA tx)) H locs := hV
  have hV : qV D A s.heap ((wC h (g 0) (k 0) cA n tx T C K L P u ua ub) ++ (wT g cA pm jm lm du pr ja rt) ++ (wT k cA pm2 jm2 lm2 du2 pr2 ja2 rt2)) H locs := hV.sub [0, 13, 1, 2, 3, 4, 5, 6, 7, 8, 9, 10, 11, 12] rfl rfl
  refine lv_lstore_n (lv' := [(1, .long (mxF (mx 1783 ((nI n).toInt64)) tx n)), (0, .ref (h 0))]) hx hb dX1_digest_22 rfl hl (by decide) rfl (fun ls hl => ?_)
  refine lv_lload_n hx hb dX1_digest_23 rfl (lv_at hl 0 rfl) ?_
  refine lv_aload_n hx hb dX1_digest_24 rfl (lv_at hl 1 rfl) ?_
  refine q_get (C := RX1) (T := TX1) (N := 12) (ci := 1) (v := .int (nI T)) hx hb hts hin1 hown hK hV 0 rfl rfl 2 (by decide) (List.mem_of_getElem? (i := 4) rfl) rfl dX1_digest_25 ?_
  refine lv_i2l hx hb dX1_digest_28 rfl ?_
  refine k_S_l (w0 := (wC h (g 0) (k 0) cA n tx T C K L P u ua ub) ++ (wT g cA pm jm lm du pr ja rt) ++ (wT k cA pm2 jm2 lm2 du2 pr2 ja2 rt2)) (wc := ([] : va_W)) (As := [.long (mxF (mx 1783 ((nI n).toInt64)) tx n), .long ((nI T).toInt64)]) (rest := []) hx hb hml hown hts hK hA hN hV hl.1 (c_X1_mix l D cA (mxF (mx 1783 ((nI n).toInt64)) tx n) ((nI T).toInt64)  ) gX1_digest_X1_mix rfl rfl rfl hdX1_mix ⟨Nat.le_of_ble_eq_true rfl, Nat.le_of_ble_eq_true rfl⟩ rfl rfl (Nat.le_of_ble_eq_true rfl) dX1_digest_29 ⟨Nat.zero_le _, Nat.zero_le _⟩ (fun r W1 H locs hp hV => ?_)
  obtain ⟨hp1, hp2⟩ := hp
  replace hp1 := hp1.symm
  subst hp1
  replace hp2 := hp2.symm
  subst hp2
  have hV : qV D A s.heap ((wC h (g 0) (k 0) cA n tx T C K L P u ua ub) ++ (wT g cA pm jm lm du pr ja rt) ++ (wT k cA pm2 jm2 lm2 du2 pr2 ja2 rt2)) H locs := hV
  refine lv_lstore_n (lv' := [(1, .long (mx (mxF (mx 1783 ((nI n).toInt64)) tx n) ((nI T).toInt64))), (0, .ref (h 0))]) hx hb dX1_digest_32 rfl hl (by decide) rfl (fun ls hl => ?_)
  refine lv_lload_n hx hb dX1_digest_33 rfl (lv_at hl 0 rfl) ?_
  refine lv_aload_n hx hb dX1_digest_34 rfl (lv_at hl 1 rfl) ?_
  refine q_get (C := RX1) (T := TX1) (N := 12) (ci := 1) (v := .int (nI C)) hx hb hts hin1 hown hK hV 0 rfl rfl 3 (by decide) (List.mem_of_getElem? (i := 5) rfl) rfl dX1_digest_35 ?_
  refine lv_i2l hx hb dX1_digest_38 rfl ?_
  refine k_S_l (w0 := (wC h (g 0) (k 0) cA n tx T C K L P u ua ub) ++ (wT g cA pm jm lm du pr ja rt) ++ (wT k cA pm2 jm2 lm2 du2 pr2 ja2 rt2)) (wc := ([] : va_W)) (As := [.long (mx (mxF (mx 1783 ((nI n).toInt64)) tx n) ((nI T).toInt64)), .long ((nI C).toInt64)]) (rest := []) hx hb hml hown hts hK hA hN hV hl.1 (c_X1_mix l D cA (mx (mxF (mx 1783 ((nI n).toInt64)) tx n) ((nI T).toInt64)) ((nI C).toInt64)  ) gX1_digest_X1_mix rfl rfl rfl hdX1_mix ⟨Nat.le_of_ble_eq_true rfl, Nat.le_of_ble_eq_true rfl⟩ rfl rfl (Nat.le_of_ble_eq_true rfl) dX1_digest_39 ⟨Nat.zero_le _, Nat.zero_le _⟩ (fun r W1 H locs hp hV => ?_)
  obtain ⟨hp1, hp2⟩ := hp
  replace hp1 := hp1.symm
  subst hp1
  replace hp2 := hp2.symm
  subst hp2
  have hV : qV D A s.heap ((wC h (g 0) (k 0) cA n tx T C K L P u ua ub) ++ (wT g cA pm jm lm du pr ja rt) ++ (wT k cA pm2 jm2 lm2 du2 pr2 ja2 rt2)) H locs := hV
  refine lv_lstore_n (lv' := [(1, .long (mx (mx (mxF (mx 1783 ((nI n).toInt64)) tx n) ((nI T).toInt64)) ((nI C).toInt64))), (0, .ref (h 0))]) hx hb dX1_digest_42 rfl hl (by decide) rfl (fun ls hl => ?_)
  refine lv_lload_n hx hb dX1_digest_43 rfl (lv_at hl 0 rfl) ?_
  refine lv_aload_n hx hb dX1_digest_44 rfl (lv_at hl 1 rfl) ?_
  refine q_get (C := RX1) (T := TX1) (N := 12) (ci := 1) (v := .int (nI K)) hx hb hts hin1 hown hK hV 0 rfl rfl 4 (by decide) (List.mem_of_getElem? (i := 6) rfl) rfl dX1_digest_45 ?_
  refine lv_i2l hx hb dX1_digest_48 rfl ?_
  refine k_S_l (w0 := (wC h (g 0) (k 0) cA n tx T C K L P u ua ub) ++ (wT g cA pm jm lm du pr ja rt) ++ (wT k cA pm2 jm2 lm2 du2 pr2 ja2 rt2)) (wc := ([] : va_W)) (As := [.long (mx (mx (mxF (mx 1783 ((nI n).toInt64)) tx n) ((nI T).toInt64)) ((nI C).toInt64)), .long ((nI K).toInt64)]) (rest := []) hx hb hml hown hts hK hA hN hV hl.1 (c_X1_mix l D cA (mx (mx (mxF (mx 1783 ((nI n).toInt64)) tx n) ((nI T).toInt64)) ((nI C).toInt64)) ((nI K).toInt64)  ) gX1_digest_X1_mix rfl rfl rfl hdX1_mix ⟨Nat.le_of_ble_eq_true rfl, Nat.le_of_ble_eq_true rfl⟩ rfl rfl (Nat.le_of_ble_eq_true rfl) dX1_digest_49 ⟨Nat.zero_le _, Nat.zero_le _⟩ (fun r W1 H locs hp hV => ?_)
  obtain ⟨hp1, hp2⟩ := hp
  replace hp1 := hp1.symm
  subst hp1
  replace hp2 := hp2.symm
  subst hp2
  have hV : qV D A s.heap ((wC h (g 0) (k 0) cA n tx T C K L P u ua ub) ++ (wT g cA pm jm lm du pr ja rt) ++ (wT k cA pm2 jm2 lm2 du2 pr2 ja2 rt2)) H locs := hV
  refine lv_lstore_n (lv' := [(1, .long (mx (mx (mx (mxF (mx 1783 ((nI n).toInt64)) tx n) ((nI T).toInt64)) ((nI C).toInt64)) ((nI K).toInt64))), (0, .ref (h 0))]) hx hb dX1_digest_52 rfl hl (by decide) rfl (fun ls hl => ?_)
  refine lv_lload_n hx hb dX1_digest_53 rfl (lv_at hl 0 rfl) ?_
  refine lv_aload_n hx hb dX1_digest_54 rfl (lv_at hl 1 rfl) ?_
  refine q_get (C := RX1) (T := TX1) (N := 12) (ci := 1) (v := .ref (h 2)) hx hb hts hin1 hown hK hV 0 rfl rfl 5 (by decide) (List.mem_of_getElem? (i := 7) rfl) rfl dX1_digest_55 ?_
  refine lv_bipush (v := nI 12) hx hb dX1_digest_58 (by decide) ?_
  have hV : qV D A s.heap ((((wC h (g 0) (k 0) cA n tx T C K L P u ua ub) ++ (wT g cA pm jm lm du pr ja rt) ++ (wT k cA pm2 jm2 lm2 du2 pr2 ja2 rt2)).eraseIdx 2) ++ (wA (h 2) 12 cA L)) H locs := hV.sub [0, 1, 3, 4, 5, 6, 7, 8, 9, 10, 11, 12, 13, 2] rfl rfl
  refine k_S_l (w0 := ((wC h (g 0) (k 0) cA n tx T C K L P u ua ub) ++ (wT g cA pm jm lm du pr ja rt) ++ (wT k cA pm2 jm2 lm2 du2 pr2 ja2 rt2)).eraseIdx 2) (wc := wA (h 2) 12 cA L) (As := [.long (mx (mx (mx (mxF (mx 1783 ((nI n).toInt64)) tx n) ((nI T).toInt64)) ((nI C).toInt64)) ((nI K).toInt64)), .ref (h 2), .int (nI 12)]) (rest := []) hx hb hml hown hts hK hA hN hV hl.1 (c_X1_mixAll l D (h 2) 12 cA L (mx (mx (mx (mxF (mx 1783 ((nI n).toInt64)) tx n) ((nI T).toInt64)) ((nI C).toInt64)) ((nI K).toInt64)) 12  (by first | omega | assumption) (by first | omega | assumption)) gX1_digest_X1_mixAll rfl rfl rfl hdX1_mixAll ⟨Nat.le_of_ble_eq_true rfl, Nat.le_of_ble_eq_true rfl⟩ rfl rfl (Nat.le_of_ble_eq_true rfl) dX1_digest_60 ⟨Nat.zero_le _, Nat.zero_le _⟩ (fun r W1 H locs hp hV => ?_)
  obtain ⟨hp1, hp2⟩ := hp
  replace hp1 := hp1.symm
  subst hp1
  replace hp2 := hp2.symm
  subst hp2
  have hV : qV D A s.heap ((((wC h (g 0) (k 0) cA n tx T C K L P u ua ub) ++ (wT g cA pm jm lm du pr ja rt) ++ (wT k cA pm2 jm2 lm2 du2 pr2 ja2 rt2)).eraseIdx 2) ++ (wA (h 2) 12 cA L)) H locs := hV
  have hV : qV D A s.heap ((wC h (g 0) (k 0) cA n tx T C K L P u ua ub) ++ (wT g cA pm jm lm du pr ja rt) ++ (wT k cA pm2 jm2 lm2 du2 pr2 ja2 rt2)) H locs := hV.sub [0, 1, 13, 2, 3, 4, 5, 6, 7, 8, 9, 10, 11, 12] rfl rfl
  refine lv_lstore_n (lv' := [(1, .long (mxF (mx (mx (mx (mxF (mx 1783 ((nI n).toInt64)) tx n) ((nI T).toInt64)) ((nI C).toInt64)) ((nI K).toInt64)) L 12)), (0, .ref (h 0))]) hx hb dX1_digest_63 rfl hl (by decide) rfl (fun ls hl => ?_)
  refine lv_lload_n hx hb dX1_digest_64 rfl (lv_at hl 0 rfl) ?_
  refine lv_aload_n hx hb dX1_digest_65 rfl (lv_at hl 1 rfl) ?_
  refine q_get (C := RX1) (T := TX1) (N := 12) (ci := 1) (v := .int (nI u)) hx hb hts hin1 hown hK hV 0 rfl rfl 9 (by decide) (List.mem_of_getElem? (i := 8) rfl) rfl dX1_digest_66 ?_
  refine lv_i2l hx hb dX1_digest_69 rfl ?_
  refine k_S_l (w0 := (wC h (g 0) (k 0) cA n tx T C K L P u ua ub) ++ (wT g cA pm jm lm du pr ja rt) ++ (wT k cA pm2 jm2 lm2 du2 pr2 ja2 rt2)) (wc := ([] : va_W)) (As := [.long (mxF (mx (mx (mx (mxF (mx 1783 ((nI n).toInt64)) tx n) ((nI T).toInt64)) ((nI C).toInt64)) ((nI K).toInt64)) L 12), .long ((nI u).toInt64)]) (rest := []) hx hb hml hown hts hK hA hN hV hl.1 (c_X1_mix l D cA (mxF (mx (mx (mx (mxF (mx 1783 ((nI n).toInt64)) tx n) ((nI T).toInt64)) ((nI C).toInt64)) ((nI K).toInt64)) L 12) ((nI u).toInt64)  ) gX1_digest_X1_mix rfl rfl rfl hdX1_mix ⟨Nat.le_of_ble_eq_true rfl, Nat.le_of_ble_eq_true rfl⟩ rfl rfl (Nat.le_of_ble_eq_true rfl) dX1_digest_70 ⟨Nat.zero_le _, Nat.zero_le _⟩ (fun r W1 H locs hp hV => ?_)
  obtain ⟨hp1, hp2⟩ := hp
  replace hp1 := hp1.symm
  subst hp1
  replace hp2 := hp2.symm
  subst hp2
  have hV : qV D A s.heap ((wC h (g 0) (k 0) cA n tx T C K L P u ua ub) ++ (wT g cA pm jm lm du pr ja rt) ++ (wT k cA pm2 jm2 lm2 du2 pr2 ja2 rt2)) H locs := hV
  refine lv_lstore_n (lv' := [(1, .long (mx (mxF (mx (mx (mx (mxF (mx 1783 ((nI n).toInt64)) tx n) ((nI T).toInt64)) ((nI C).toInt64)) ((nI K).toInt64)) L 12) ((nI u).toInt64))), (0, .ref (h 0))]) hx hb dX1_digest_73 rfl hl (by decide) rfl (fun ls hl => ?_)
  refine lv_lload_n hx hb dX1_digest_74 rfl (lv_at hl 0 rfl) ?_
  refine lv_aload_n hx hb dX1_digest_75 rfl (lv_at hl 1 rfl) ?_
  have hV : qV D A s.heap ((wT g cA pm jm lm du pr ja rt) ++ (wT k cA pm2 jm2 lm2 du2 pr2 ja2 rt2) ++ (wC h (g 0) (k 0) cA n tx T C K L P u ua ub)) H locs := hV.sub [6, 7, 8, 9, 10, 11, 12, 13, 0, 1, 2, 3, 4, 5] rfl rfl
  refine k_V_i (w0 := (wT g cA pm jm lm du pr ja rt) ++ (wT k cA pm2 jm2 lm2 du2 pr2 ja2 rt2)) (wc := wC h (g 0) (k 0) cA n tx T C K L P u ua ub) (b := h 0) (As := []) (rest := [.long (mx (mxF (mx (mx (mx (mxF (mx 1783 ((nI n).toInt64)) tx n) ((nI T).toInt64)) ((nI C).toInt64)) ((nI K).toInt64)) L 12) ((nI u).toInt64))]) hx hb hml hown hts hK hA hN hV hl.1 (c_X1_cost l D h (g 0) (k 0) cA n tx T C K L P u ua ub   (by first | omega | assumption) (by first | omega | assumption) (by first | omega | assumption) (by first | omega | assumption)) gX1_digest_X1_cost rfl rfl rfl hdX1_cost ⟨Nat.le_of_ble_eq_true rfl, Nat.le_of_ble_eq_true rfl⟩ 8 1 rfl rfl rfl rfl rfl (Nat.le_of_ble_eq_true rfl) dX1_digest_76 ⟨Nat.zero_le _, Nat.zero_le _⟩ (fun r W1 H locs hp hV => ?_)
  obtain ⟨hp1, hp2⟩ := hp
  replace hp1 := hp1.symm
  subst hp1
  replace hp2 := hp2.symm
  subst hp2
  have hV : qV D A s.heap ((wT g cA pm jm lm du pr ja rt) ++ (wT k cA pm2 jm2 lm2 du2 pr2 ja2 rt2) ++ (wC h (g 0) (k 0) cA n tx T C K L P u ua ub)) H locs := hV
  have hV : qV D A s.heap ((wC h (g 0) (k 0) cA n tx T C K L P u ua ub) ++ (wT g cA pm jm lm du pr ja rt) ++ (wT k cA pm2 jm2 lm2 du2 pr2 ja2 rt2)) H locs := hV.sub [8, 9, 10, 11, 12, 13, 0, 1, 2, 3, 4, 5, 6, 7] rfl rfl
  have f1 := cst_lt P tx (j := n - 1) hC (by omega)
  refine lv_i2l hx hb dX1_digest_79 rfl ?_
  refine k_S_l (w0 := (wC h (g 0) (k 0) cA n tx T C K L P u ua ub) ++ (wT g cA pm jm lm du pr ja rt) ++ (wT k cA pm2 jm2 lm2 du2 pr2 ja2 rt2)) (wc := ([] : va_W)) (As := [.long (mx (mxF (mx (mx (mx (mxF (mx 1783 ((nI n).toInt64)) tx n) ((nI T).toInt64)) ((nI C).toInt64)) ((nI K).toInt64)) L 12) ((nI u).toInt64)), .long ((nI (cst C P tx (n - 1))).toInt64)]) (rest := []) hx hb hml hown hts hK hA hN hV hl.1 (c_X1_mix l D cA (mx (mxF (mx (mx (mx (mxF (mx 1783 ((nI n).toInt64)) tx n) ((nI T).toInt64)) ((nI C).toInt64)) ((nI K).toInt64)) L 12) ((nI u).toInt64)) ((nI (cst C P tx (n - 1))).toInt64)  ) gX1_digest_X1_mix rfl rfl rfl hdX1_mix ⟨Nat.le_of_ble_eq_true rfl, Nat.le_of_ble_eq_true rfl⟩ rfl rfl (Nat.le_of_ble_eq_true rfl) dX1_digest_80 ⟨Nat.zero_le _, Nat.zero_le _⟩ (fun r W1 H locs hp hV => ?_)
  obtain ⟨hp1, hp2⟩ := hp
  replace hp1 := hp1.symm
  subst hp1
  replace hp2 := hp2.symm
  subst hp2
  have hV : qV D A s.heap ((wC h (g 0) (k 0) cA n tx T C K L P u ua ub) ++ (wT g cA pm jm lm du pr ja rt) ++ (wT k cA pm2 jm2 lm2 du2 pr2 ja2 rt2)) H locs := hV
  refine lv_lstore_n (lv' := [(1, .long (mx (mx (mxF (mx (mx (mx (mxF (mx 1783 ((nI n).toInt64)) tx n) ((nI T).toInt64)) ((nI C).toInt64)) ((nI K).toInt64)) L 12) ((nI u).toInt64)) ((nI (cst C P tx (n - 1))).toInt64))), (0, .ref (h 0))]) hx hb dX1_digest_83 rfl hl (by decide) rfl (fun ls hl => ?_)
  refine lv_lload_n hx hb dX1_digest_84 rfl (lv_at hl 0 rfl) ?_
  refine lv_aload_n hx hb dX1_digest_85 rfl (lv_at hl 1 rfl) ?_
  have hV : qV D A s.heap ((wT g cA pm jm lm du pr ja rt) ++ (wT k cA pm2 jm2 lm2 du2 pr2 ja2 rt2) ++ (wC h (g 0) (k 0) cA n tx T C K L P u ua ub)) H locs := hV.sub [6, 7, 8, 9, 10, 11, 12, 13, 0, 1, 2, 3, 4, 5] rfl rfl
  refine k_V_i (w0 := (wT g cA pm jm lm du pr ja rt) ++ (wT k cA pm2 jm2 lm2 du2 pr2 ja2 rt2)) (wc := wC h (g 0) (k 0) cA n tx T C K L P u ua ub) (b := h 0) (As := []) (rest := [.long (mx (mx (mxF (mx (mx (mx (mxF (mx 1783 ((nI n).toInt64)) tx n) ((nI T).toInt64)) ((nI C).toInt64)) ((nI K).toInt64)) L 12) ((nI u).toInt64)) ((nI (cst C P tx (n - 1))).toInt64))]) hx hb hml hown hts hK hA hN hV hl.1 (c_X1_bestSwap l D h (g 0) (k 0) cA n tx T C K L P u ua ub   (by first | omega | assumption) (by first | omega | assumption) (by first | omega | assumption) (by first | omega | assumption)) gX1_digest_X1_bestSwap rfl rfl rfl hdX1_bestSwap ⟨Nat.le_of_ble_eq_true rfl, Nat.le_of_ble_eq_true rfl⟩ 8 1 rfl rfl rfl rfl rfl (Nat.le_of_ble_eq_true rfl) dX1_digest_86 ⟨Nat.zero_le _, Nat.zero_le _⟩ (fun r W1 H locs hp hV => ?_)
  obtain ⟨hp1, hp2⟩ := hp
  replace hp1 := hp1.symm
  subst hp1
  replace hp2 := hp2.symm
  subst hp2
  have hV : qV D A s.heap ((wT g cA pm jm lm du pr ja rt) ++ (wT k cA pm2 jm2 lm2 du2 pr2 ja2 rt2) ++ (wC h (g 0) (k 0) cA n tx T C K L P u ua ub)) H locs := hV
  have hV : qV D A s.heap ((wC h (g 0) (k 0) cA n tx T C K L P u ua ub) ++ (wT g cA pm jm lm du pr ja rt) ++ (wT k cA pm2 jm2 lm2 du2 pr2 ja2 rt2)) H locs := hV.sub [8, 9, 10, 11, 12, 13, 0, 1, 2, 3, 4, 5, 6, 7] rfl rfl
  refine lv_i2l hx hb dX1_digest_89 rfl ?_
  refine k_S_l (w0 := (wC h (g 0) (k 0) cA n tx T C K L P u ua ub) ++ (wT g cA pm jm lm du pr ja rt) ++ (wT k cA pm2 jm2 lm2 du2 pr2 ja2 rt2)) (wc := ([] : va_W)) (As := [.long (mx (mx (mxF (mx (mx (mx (mxF (mx 1783 ((nI n).toInt64)) tx n) ((nI T).toInt64)) ((nI C).toInt64)) ((nI K).toInt64)) L 12) ((nI u).toInt64)) ((nI (cst C P tx (n - 1))).toInt64)), .long ((bV (bst C L P tx n)).toInt64)]) (rest := []) hx hb hml hown hts hK hA hN hV hl.1 (c_X1_mix l D cA (mx (mx (mxF (mx (mx (mx (mxF (mx 1783 ((nI n).toInt64)) tx n) ((nI T).toInt64)) ((nI C).toInt64)) ((nI K).toInt64)) L 12) ((nI u).toInt64)) ((nI (cst C P tx (n - 1))).toInt64)) ((bV (bst C L P tx n)).toInt64)  ) gX1_digest_X1_mix rfl rfl rfl hdX1_mix ⟨Nat.le_of_ble_eq_true rfl, Nat.le_of_ble_eq_true rfl⟩ rfl rfl (Nat.le_of_ble_eq_true rfl) dX1_digest_90 ⟨Nat.zero_le _, Nat.zero_le _⟩ (fun r W1 H locs hp hV => ?_)
  obtain ⟨hp1, hp2⟩ := hp
  replace hp1 := hp1.symm
  subst hp1
  replace hp2 := hp2.symm
  subst hp2
  have hV : qV D A s.heap ((wC h (g 0) (k 0) cA n tx T C K L P u ua ub) ++ (wT g cA pm jm lm du pr ja rt) ++ (wT k cA pm2 jm2 lm2 du2 pr2 ja2 rt2)) H locs := hV
  refine lv_lstore_n (lv' := [(1, .long (mx (mx (mx (mxF (mx (mx (mx (mxF (mx 1783 ((nI n).toInt64)) tx n) ((nI T).toInt64)) ((nI C).toInt64)) ((nI K).toInt64)) L 12) ((nI u).toInt64)) ((nI (cst C P tx (n - 1))).toInt64)) ((bV (bst C L P tx n)).toInt64))), (0, .ref (h 0))]) hx hb dX1_digest_93 rfl hl (by decide) rfl (fun ls hl => ?_)
  refine lv_lload_n hx hb dX1_digest_94 rfl (lv_at hl 0 rfl) ?_
  refine lv_aload_n hx hb dX1_digest_95 rfl (lv_at hl 1 rfl) ?_
  have hV : qV D A s.heap ((wT g cA pm jm lm du pr ja rt) ++ (wT k cA pm2 jm2 lm2 du2 pr2 ja2 rt2) ++ (wC h (g 0) (k 0) cA n tx T C K L P u ua ub)) H locs := hV.sub [6, 7, 8, 9, 10, 11, 12, 13, 0, 1, 2, 3, 4, 5] rfl rfl
  refine k_V_i (w0 := (wT g cA pm jm lm du pr ja rt) ++ (wT k cA pm2 jm2 lm2 du2 pr2 ja2 rt2)) (wc := wC h (g 0) (k 0) cA n tx T C K L P u ua ub) (b := h 0) (As := []) (rest := [.long (mx (mx (mx (mxF (mx (mx (mx (mxF (mx 1783 ((nI n).toInt64)) tx n) ((nI T).toInt64)) ((nI C).toInt64)) ((nI K).toInt64)) L 12) ((nI u).toInt64)) ((nI (cst C P tx (n - 1))).toInt64)) ((bV (bst C L P tx n)).toInt64))]) hx hb hml hown hts hK hA hN hV hl.1 (c_X1_worstLetter l D h (g 0) (k 0) cA n tx T C K L P u ua ub   (by first | omega | assumption) (by first | omega | assumption) (by first | omega | assumption) (by first | omega | assumption)) gX1_digest_X1_worstLetter rfl rfl rfl hdX1_worstLetter ⟨Nat.le_of_ble_eq_true rfl, Nat.le_of_ble_eq_true rfl⟩ 8 1 rfl rfl rfl rfl rfl (Nat.le_of_ble_eq_true rfl) dX1_digest_96 ⟨Nat.zero_le _, Nat.zero_le _⟩ (fun r W1 H locs hp hV => ?_)
  obtain ⟨hp1, hp2⟩ := hp
  replace hp1 := hp1.symm
  subst hp1
  replace hp2 := hp2.symm
  subst hp2
  have hV : qV D A s.heap ((wT g cA pm jm lm du pr ja rt) ++ (wT k cA pm2 jm2 lm2 du2 pr2 ja2 rt2) ++ (wC h (g 0) (k 0) cA n tx T C K L P u ua ub)) H locs := hV
  have hV : qV D A s.heap ((wC h (g 0) (k 0) cA n tx T C K L P u ua ub) ++ (wT g cA pm jm lm du pr ja rt) ++ (wT k cA pm2 jm2 lm2 du2 pr2 ja2 rt2)) H locs := hV.sub [8, 9, 10, 11, 12, 13, 0, 1, 2, 3, 4, 5, 6, 7] rfl rfl
  refine lv_i2l hx hb dX1_digest_99 rfl ?_
  refine k_S_l (w0 := (wC h (g 0) (k 0) cA n tx T C K L P u ua ub) ++ (wT g cA pm jm lm du pr ja rt) ++ (wT k cA pm2 jm2 lm2 du2 pr2 ja2 rt2)) (wc := ([] : va_W)) (As := [.long (mx (mx (mx (mxF (mx (mx (mx (mxF (mx 1783 ((nI n).toInt64)) tx n) ((nI T).toInt64)) ((nI C).toInt64)) ((nI K).toInt64)) L 12) ((nI u).toInt64)) ((nI (cst C P tx (n - 1))).toInt64)) ((bV (bst C L P tx n)).toInt64)), .long ((wV (wst C P tx n 12).2).toInt64)]) (rest := []) hx hb hml hown hts hK hA hN hV hl.1 (c_X1_mix l D cA (mx (mx (mx (mxF (mx (mx (mx (mxF (mx 1783 ((nI n).toInt64)) tx n) ((nI T).toInt64)) ((nI C).toInt64)) ((nI K).toInt64)) L 12) ((nI u).toInt64)) ((nI (cst C P tx (n - 1))).toInt64)) ((bV (bst C L P tx n)).toInt64)) ((wV (wst C P tx n 12).2).toInt64)  ) gX1_digest_X1_mix rfl rfl rfl hdX1_mix ⟨Nat.le_of_ble_eq_true rfl, Nat.le_of_ble_eq_true rfl⟩ rfl rfl (Nat.le_of_ble_eq_true rfl) dX1_digest_100 ⟨Nat.zero_le _, Nat.zero_le _⟩ (fun r W1 H locs hp hV => ?_)
  obtain ⟨hp1, hp2⟩ := hp
  replace hp1 := hp1.symm
  subst hp1
  replace hp2 := hp2.symm
  subst hp2
  have hV : qV D A s.heap ((wC h (g 0) (k 0) cA n tx T C K L P u ua ub) ++ (wT g cA pm jm lm du pr ja rt) ++ (wT k cA pm2 jm2 lm2 du2 pr2 ja2 rt2)) H locs := hV
  refine lv_lstore_n (lv' := [(1, .long (mx (mx (mx (mx (mxF (mx (mx (mx (mxF (mx 1783 ((nI n).toInt64)) tx n) ((nI T).toInt64)) ((nI C).toInt64)) ((nI K).toInt64)) L 12) ((nI u).toInt64)) ((nI (cst C P tx (n - 1))).toInt64)) ((bV (bst C L P tx n)).toInt64)) ((wV (wst C P tx n 12).2).toInt64))), (0, .ref (h 0))]) hx hb dX1_digest_103 rfl hl (by decide) rfl (fun ls hl => ?_)
  refine lv_lload_n hx hb dX1_digest_104 rfl (lv_at hl 0 rfl) ?_
  refine lv_aload_n hx hb dX1_digest_105 rfl (lv_at hl 1 rfl) ?_
  have hV : qV D A s.heap ((wT g cA pm jm lm du pr ja rt) ++ (wC h (g 0) (k 0) cA n tx T C K L P u ua ub) ++ (wT k cA pm2 jm2 lm2 du2 pr2 ja2 rt2)) H locs := hV.sub [6, 7, 8, 9, 0, 1, 2, 3, 4, 5, 10, 11, 12, 13] rfl rfl
  refine k_V_i (w0 := wT g cA pm jm lm du pr ja rt) (wc := (wC h (g 0) (k 0) cA n tx T C K L P u ua ub) ++ (wT k cA pm2 jm2 lm2 du2 pr2 ja2 rt2)) (b := h 0) (As := []) (rest := [.long (mx (mx (mx (mx (mxF (mx (mx (mx (mxF (mx 1783 ((nI n).toInt64)) tx n) ((nI T).toInt64)) ((nI C).toInt64)) ((nI K).toInt64)) L 12) ((nI u).toInt64)) ((nI (cst C P tx (n - 1))).toInt64)) ((bV (bst C L P tx n)).toInt64)) ((wV (wst C P tx n 12).2).toInt64))]) hx hb hml hown hts hK hA hN hV hl.1 (c_X1_safeInterval l D h (g 0) cA n tx T C K L P u ua ub k pm2 jm2 lm2 du2 pr2 ja2 rt2   (by first | omega | assumption) (by first | omega | assumption) (by first | omega | assumption) (by first | omega | assumption) (by first | omega | assumption) (by first | omega | assumption)) gX1_digest_X1_safeInterval rfl rfl rfl hdX1_safeInterval ⟨Nat.le_of_ble_eq_true rfl, Nat.le_of_ble_eq_true rfl⟩ 4 1 rfl rfl rfl rfl rfl (Nat.le_of_ble_eq_true rfl) dX1_digest_106 ⟨Nat.zero_le _, Nat.zero_le _⟩ (fun r W1 H locs hp hV => ?_)
  obtain ⟨hp1, pm3, jm3, lm3, du3, pr3, ja3, rt3, hp2⟩ := hp
  replace hp1 := hp1.symm
  subst hp1
  replace hp2 := hp2.symm
  subst hp2
  have hV : qV D A s.heap ((wT g cA pm jm lm du pr ja rt) ++ (wC h (g 0) (k 0) cA n tx T C K L P u ua ub) ++ (wT k cA pm3 jm3 lm3 du3 pr3 ja3 rt3)) H locs := hV
  have hV : qV D A s.heap ((wC h (g 0) (k 0) cA n tx T C K L P u ua ub) ++ (wT g cA pm jm lm du pr ja rt) ++ (wT k cA pm3 jm3 lm3 du3 pr3 ja3 rt3)) H locs := hV.sub [4, 5, 6, 7, 8, 9, 0, 1, 2, 3, 10, 11, 12, 13] rfl rfl
  refine lv_i2l hx hb dX1_digest_109 rfl ?_
  refine k_S_l (w0 := (wC h (g 0) (k 0) cA n tx T C K L P u ua ub) ++ (wT g cA pm jm lm du pr ja rt) ++ (wT k cA pm3 jm3 lm3 du3 pr3 ja3 rt3)) (wc := ([] : va_W)) (As := [.long (mx (mx (mx (mx (mxF (mx (mx (mx (mxF (mx 1783 ((nI n).toInt64)) tx n) ((nI T).toInt64)) ((nI C).toInt64)) ((nI K).toInt64)) L 12) ((nI u).toInt64)) ((nI (cst C P tx (n - 1))).toInt64)) ((bV (bst C L P tx n)).toInt64)) ((wV (wst C P tx n 12).2).toInt64)), .long ((bV (sfi tx P T C K n)).toInt64)]) (rest := []) hx hb hml hown hts hK hA hN hV hl.1 (c_X1_mix l D cA (mx (mx (mx (mx (mxF (mx (mx (mx (mxF (mx 1783 ((nI n).toInt64)) tx n) ((nI T).toInt64)) ((nI C).toInt64)) ((nI K).toInt64)) L 12) ((nI u).toInt64)) ((nI (cst C P tx (n - 1))).toInt64)) ((bV (bst C L P tx n)).toInt64)) ((wV (wst C P tx n 12).2).toInt64)) ((bV (sfi tx P T C K n)).toInt64)  ) gX1_digest_X1_mix rfl rfl rfl hdX1_mix ⟨Nat.le_of_ble_eq_true rfl, Nat.le_of_ble_eq_true rfl⟩ rfl rfl (Nat.le_of_ble_eq_true rfl) dX1_digest_110 ⟨Nat.zero_le _, Nat.zero_le _⟩ (fun r W1 H locs hp hV => ?_)
  obtain ⟨hp1, hp2⟩ := hp
  replace hp1 := hp1.symm
  subst hp1
  replace hp2 := hp2.symm
  subst hp2
  have hV : qV D A s.heap ((wC h (g 0) (k 0) cA n tx T C K L P u ua ub) ++ (wT g cA pm jm lm du pr ja rt) ++ (wT k cA pm3 jm3 lm3 du3 pr3 ja3 rt3)) H locs := hV
  refine lv_lstore_n (lv' := [(1, .long (mx (mx (mx (mx (mx (mxF (mx (mx (mx (mxF (mx 1783 ((nI n).toInt64)) tx n) ((nI T).toInt64)) ((nI C).toInt64)) ((nI K).toInt64)) L 12) ((nI u).toInt64)) ((nI (cst C P tx (n - 1))).toInt64)) ((bV (bst C L P tx n)).toInt64)) ((wV (wst C P tx n 12).2).toInt64)) ((bV (sfi tx P T C K n)).toInt64))), (0, .ref (h 0))]) hx hb dX1_digest_113 rfl hl (by decide) rfl (fun ls hl => ?_)
  refine lv_lload_n hx hb dX1_digest_114 rfl (lv_at hl 0 rfl) ?_
  refine lv_aload_n hx hb dX1_digest_115 rfl (lv_at hl 1 rfl) ?_
  refine q_get (C := RX1) (T := TX1) (N := 12) (ci := 1) (v := .ref (g 0)) hx hb hts hin1 hown hK hV 0 rfl rfl 10 (by decide) (List.mem_of_getElem? (i := 9) rfl) rfl dX1_digest_116 ?_
  refine q_getN (C := RX0) (T := TX0) (N := 7) (ci := 0) (v := .int (nI jm)) hx hb hts hin0 hown hK hV 6 rfl rfl 3 (by decide) hN (List.mem_of_getElem? (i := 4) rfl) rfl dX1_digest_119 ?_
  refine lv_i2l hx hb dX1_digest_122 rfl ?_
  refine k_S_l (w0 := (wC h (g 0) (k 0) cA n tx T C K L P u ua ub) ++ (wT g cA pm jm lm du pr ja rt) ++ (wT k cA pm3 jm3 lm3 du3 pr3 ja3 rt3)) (wc := ([] : va_W)) (As := [.long (mx (mx (mx (mx (mx (mxF (mx (mx (mx (mxF (mx 1783 ((nI n).toInt64)) tx n) ((nI T).toInt64)) ((nI C).toInt64)) ((nI K).toInt64)) L 12) ((nI u).toInt64)) ((nI (cst C P tx (n - 1))).toInt64)) ((bV (bst C L P tx n)).toInt64)) ((wV (wst C P tx n 12).2).toInt64)) ((bV (sfi tx P T C K n)).toInt64)), .long ((nI jm).toInt64)]) (rest := []) hx hb hml hown hts hK hA hN hV hl.1 (c_X1_mix l D cA (mx (mx (mx (mx (mx (mxF (mx (mx (mx (mxF (mx 1783 ((nI n).toInt64)) tx n) ((nI T).toInt64)) ((nI C).toInt64)) ((nI K).toInt64)) L 12) ((nI u).toInt64)) ((nI (cst C P tx (n - 1))).toInt64)) ((bV (bst C L P tx n)).toInt64)) ((wV (wst C P tx n 12).2).toInt64)) ((bV (sfi tx P T C K n)).toInt64)) ((nI jm).toInt64)  ) gX1_digest_X1_mix rfl rfl rfl hdX1_mix ⟨Nat.le_of_ble_eq_true rfl, Nat.le_of_ble_eq_true rfl⟩ rfl rfl (Nat.le_of_ble_eq_true rfl) dX1_digest_123 ⟨Nat.zero_le _, Nat.zero_le _⟩ (fun r W1 H locs hp hV => ?_)
  obtain ⟨hp1, hp2⟩ := hp
  replace hp1 := hp1.symm
  subst hp1
  replace hp2 := hp2.symm
  subst hp2
  have hV : qV D A s.heap ((wC h (g 0) (k 0) cA n tx T C K L P u ua ub) ++ (wT g cA pm jm lm du pr ja rt) ++ (wT k cA pm3 jm3 lm3 du3 pr3 ja3 rt3)) H locs := hV
  refine lv_lstore_n (lv' := [(1, .long (mx (mx (mx (mx (mx (mx (mxF (mx (mx (mx (mxF (mx 1783 ((nI n).toInt64)) tx n) ((nI T).toInt64)) ((nI C).toInt64)) ((nI K).toInt64)) L 12) ((nI u).toInt64)) ((nI (cst C P tx (n - 1))).toInt64)) ((bV (bst C L P tx n)).toInt64)) ((wV (wst C P tx n 12).2).toInt64)) ((bV (sfi tx P T C K n)).toInt64)) ((nI jm).toInt64))), (0, .ref (h 0))]) hx hb dX1_digest_126 rfl hl (by decide) rfl (fun ls hl => ?_)
  refine lv_lload_n hx hb dX1_digest_127 rfl (lv_at hl 0 rfl) ?_
  refine lv_aload_n hx hb dX1_digest_128 rfl (lv_at hl 1 rfl) ?_
  refine q_get (C := RX1) (T := TX1) (N := 12) (ci := 1) (v := .ref (g 0)) hx hb hts hin1 hown hK hV 0 rfl rfl 10 (by decide) (List.mem_of_getElem? (i := 9) rfl) rfl dX1_digest_129 ?_
  refine q_getN (C := RX0) (T := TX0) (N := 7) (ci := 0) (v := .int (nI lm)) hx hb hts hin0 hown hK hV 6 rfl rfl 4 (by decide) hN (List.mem_of_getElem? (i := 5) rfl) rfl dX1_digest_132 ?_
  refine lv_i2l hx hb dX1_digest_135 rfl ?_
  refine k_S_l (w0 := (wC h (g 0) (k 0) cA n tx T C K L P u ua ub) ++ (wT g cA pm jm lm du pr ja rt) ++ (wT k cA pm3 jm3 lm3 du3 pr3 ja3 rt3)) (wc := ([] : va_W)) (As := [.long (mx (mx (mx (mx (mx (mx (mxF (mx (mx (mx (mxF (mx 1783 ((nI n).toInt64)) tx n) ((nI T).toInt64)) ((nI C).toInt64)) ((nI K).toInt64)) L 12) ((nI u).toInt64)) ((nI (cst C P tx (n - 1))).toInt64)) ((bV (bst C L P tx n)).toInt64)) ((wV (wst C P tx n 12).2).toInt64)) ((bV (sfi tx P T C K n)).toInt64)) ((nI jm).toInt64)), .long ((nI lm).toInt64)]) (rest := []) hx hb hml hown hts hK hA hN hV hl.1 (c_X1_mix l D cA (mx (mx (mx (mx (mx (mx (mxF (mx (mx (mx (mxF (mx 1783 ((nI n).toInt64)) tx n) ((nI T).toInt64)) ((nI C).toInt64)) ((nI K).toInt64)) L 12) ((nI u).toInt64)) ((nI (cst C P tx (n - 1))).toInt64)) ((bV (bst C L P tx n)).toInt64)) ((wV (wst C P tx n 12).2).toInt64)) ((bV (sfi tx P T C K n)).toInt64)) ((nI jm).toInt64)) ((nI lm).toInt64)  ) gX1_digest_X1_mix rfl rfl rfl hdX1_mix ⟨Nat.le_of_ble_eq_true rfl, Nat.le_of_ble_eq_true rfl⟩ rfl rfl (Nat.le_of_ble_eq_true rfl) dX1_digest_136 ⟨Nat.zero_le _, Nat.zero_le _⟩ (fun r W1 H locs hp hV => ?_)
  obtain ⟨hp1, hp2⟩ := hp
  replace hp1 := hp1.symm
  subst hp1
  replace hp2 := hp2.symm
  subst hp2
  have hV : qV D A s.heap ((wC h (g 0) (k 0) cA n tx T C K L P u ua ub) ++ (wT g cA pm jm lm du pr ja rt) ++ (wT k cA pm3 jm3 lm3 du3 pr3 ja3 rt3)) H locs := hV
  refine lv_lstore_n (lv' := [(1, .long (mx (mx (mx (mx (mx (mx (mx (mxF (mx (mx (mx (mxF (mx 1783 ((nI n).toInt64)) tx n) ((nI T).toInt64)) ((nI C).toInt64)) ((nI K).toInt64)) L 12) ((nI u).toInt64)) ((nI (cst C P tx (n - 1))).toInt64)) ((bV (bst C L P tx n)).toInt64)) ((wV (wst C P tx n 12).2).toInt64)) ((bV (sfi tx P T C K n)).toInt64)) ((nI jm).toInt64)) ((nI lm).toInt64))), (0, .ref (h 0))]) hx hb dX1_digest_139 rfl hl (by decide) rfl (fun ls hl => ?_)
  refine lv_lload_n hx hb dX1_digest_140 rfl (lv_at hl 0 rfl) ?_
  refine lv_aload_n hx hb dX1_digest_141 rfl (lv_at hl 1 rfl) ?_
  refine q_get (C := RX1) (T := TX1) (N := 12) (ci := 1) (v := .ref (g 0)) hx hb hts hin1 hown hK hV 0 rfl rfl 10 (by decide) (List.mem_of_getElem? (i := 9) rfl) rfl dX1_digest_142 ?_
  refine q_getN (C := RX0) (T := TX0) (N := 7) (ci := 0) (v := .int (nI du)) hx hb hts hin0 hown hK hV 6 rfl rfl 5 (by decide) hN (List.mem_of_getElem? (i := 6) rfl) rfl dX1_digest_145 ?_
  refine lv_i2l hx hb dX1_digest_148 rfl ?_
  refine k_S_l (w0 := (wC h (g 0) (k 0) cA n tx T C K L P u ua ub) ++ (wT g cA pm jm lm du pr ja rt) ++ (wT k cA pm3 jm3 lm3 du3 pr3 ja3 rt3)) (wc := ([] : va_W)) (As := [.long (mx (mx (mx (mx (mx (mx (mx (mxF (mx (mx (mx (mxF (mx 1783 ((nI n).toInt64)) tx n) ((nI T).toInt64)) ((nI C).toInt64)) ((nI K).toInt64)) L 12) ((nI u).toInt64)) ((nI (cst C P tx (n - 1))).toInt64)) ((bV (bst C L P tx n)).toInt64)) ((wV (wst C P tx n 12).2).toInt64)) ((bV (sfi tx P T C K n)).toInt64)) ((nI jm).toInt64)) ((nI lm).toInt64)), .long ((nI du).toInt64)]) (rest := []) hx hb hml hown hts hK hA hN hV hl.1 (c_X1_mix l D cA (mx (mx (mx (mx (mx (mx (mx (mxF (mx (mx (mx (mxF (mx 1783 ((nI n).toInt64)) tx n) ((nI T).toInt64)) ((nI C).toInt64)) ((nI K).toInt64)) L 12) ((nI u).toInt64)) ((nI (cst C P tx (n - 1))).toInt64)) ((bV (bst C L P tx n)).toInt64)) ((wV (wst C P tx n 12).2).toInt64)) ((bV (sfi tx P T C K n)).toInt64)) ((nI jm).toInt64)) ((nI lm).toInt64)) ((nI du).toInt64)  ) gX1_digest_X1_mix rfl rfl rfl hdX1_mix ⟨Nat.le_of_ble_eq_true rfl, Nat.le_of_ble_eq_true rfl⟩ rfl rfl (Nat.le_of_ble_eq_true rfl) dX1_digest_149 ⟨Nat.zero_le _, Nat.zero_le _⟩ (fun r W1 H locs hp hV => ?_)
  obtain ⟨hp1, hp2⟩ := hp
  replace hp1 := hp1.symm
  subst hp1
  replace hp2 := hp2.symm
  subst hp2
  have hV : qV D A s.heap ((wC h (g 0) (k 0) cA n tx T C K L P u ua ub) ++ (wT g cA pm jm lm du pr ja rt) ++ (wT k cA pm3 jm3 lm3 du3 pr3 ja3 rt3)) H locs := hV
  refine lv_lstore_n (lv' := [(1, .long (mx (mx (mx (mx (mx (mx (mx (mx (mxF (mx (mx (mx (mxF (mx 1783 ((nI n).toInt64)) tx n) ((nI T).toInt64)) ((nI C).toInt64)) ((nI K).toInt64)) L 12) ((nI u).toInt64)) ((nI (cst C P tx (n - 1))).toInt64)) ((bV (bst C L P tx n)).toInt64)) ((wV (wst C P tx n 12).2).toInt64)) ((bV (sfi tx P T C K n)).toInt64)) ((nI jm).toInt64)) ((nI lm).toInt64)) ((nI du).toInt64))), (0, .ref (h 0))]) hx hb dX1_digest_152 rfl hl (by decide) rfl (fun ls hl => ?_)
  refine lv_lload_n hx hb dX1_digest_153 rfl (lv_at hl 0 rfl) ?_
  refine lv_aload_n hx hb dX1_digest_154 rfl (lv_at hl 1 rfl) ?_
  refine q_get (C := RX1) (T := TX1) (N := 12) (ci := 1) (v := .ref (g 0)) hx hb hts hin1 hown hK hV 0 rfl rfl 10 (by decide) (List.mem_of_getElem? (i := 9) rfl) rfl dX1_digest_155 ?_
  refine q_getN (C := RX0) (T := TX0) (N := 7) (ci := 0) (v := .int (nI pm)) hx hb hts hin0 hown hK hV 6 rfl rfl 1 (by decide) hN (List.mem_of_getElem? (i := 2) rfl) rfl dX1_digest_158 ?_
  refine lv_i2l hx hb dX1_digest_161 rfl ?_
  refine k_S_l (w0 := (wC h (g 0) (k 0) cA n tx T C K L P u ua ub) ++ (wT g cA pm jm lm du pr ja rt) ++ (wT k cA pm3 jm3 lm3 du3 pr3 ja3 rt3)) (wc := ([] : va_W)) (As := [.long (mx (mx (mx (mx (mx (mx (mx (mx (mxF (mx (mx (mx (mxF (mx 1783 ((nI n).toInt64)) tx n) ((nI T).toInt64)) ((nI C).toInt64)) ((nI K).toInt64)) L 12) ((nI u).toInt64)) ((nI (cst C P tx (n - 1))).toInt64)) ((bV (bst C L P tx n)).toInt64)) ((wV (wst C P tx n 12).2).toInt64)) ((bV (sfi tx P T C K n)).toInt64)) ((nI jm).toInt64)) ((nI lm).toInt64)) ((nI du).toInt64)), .long ((nI pm).toInt64)]) (rest := []) hx hb hml hown hts hK hA hN hV hl.1 (c_X1_mix l D cA (mx (mx (mx (mx (mx (mx (mx (mx (mxF (mx (mx (mx (mxF (mx 1783 ((nI n).toInt64)) tx n) ((nI T).toInt64)) ((nI C).toInt64)) ((nI K).toInt64)) L 12) ((nI u).toInt64)) ((nI (cst C P tx (n - 1))).toInt64)) ((bV (bst C L P tx n)).toInt64)) ((wV (wst C P tx n 12).2).toInt64)) ((bV (sfi tx P T C K n)).toInt64)) ((nI jm).toInt64)) ((nI lm).toInt64)) ((nI du).toInt64)) ((nI pm).toInt64)  ) gX1_digest_X1_mix rfl rfl rfl hdX1_mix ⟨Nat.le_of_ble_eq_true rfl, Nat.le_of_ble_eq_true rfl⟩ rfl rfl (Nat.le_of_ble_eq_true rfl) dX1_digest_162 ⟨Nat.zero_le _, Nat.zero_le _⟩ (fun r W1 H locs hp hV => ?_)
  obtain ⟨hp1, hp2⟩ := hp
  replace hp1 := hp1.symm
  subst hp1
  replace hp2 := hp2.symm
  subst hp2
  have hV : qV D A s.heap ((wC h (g 0) (k 0) cA n tx T C K L P u ua ub) ++ (wT g cA pm jm lm du pr ja rt) ++ (wT k cA pm3 jm3 lm3 du3 pr3 ja3 rt3)) H locs := hV
  refine lv_lstore_n (lv' := [(1, .long (mx (mx (mx (mx (mx (mx (mx (mx (mx (mxF (mx (mx (mx (mxF (mx 1783 ((nI n).toInt64)) tx n) ((nI T).toInt64)) ((nI C).toInt64)) ((nI K).toInt64)) L 12) ((nI u).toInt64)) ((nI (cst C P tx (n - 1))).toInt64)) ((bV (bst C L P tx n)).toInt64)) ((wV (wst C P tx n 12).2).toInt64)) ((bV (sfi tx P T C K n)).toInt64)) ((nI jm).toInt64)) ((nI lm).toInt64)) ((nI du).toInt64)) ((nI pm).toInt64))), (0, .ref (h 0))]) hx hb dX1_digest_165 rfl hl (by decide) rfl (fun ls hl => ?_)
  refine lv_lload_n hx hb dX1_digest_166 rfl (lv_at hl 0 rfl) ?_
  refine lv_aload_n hx hb dX1_digest_167 rfl (lv_at hl 1 rfl) ?_
  refine q_get (C := RX1) (T := TX1) (N := 12) (ci := 1) (v := .ref (g 0)) hx hb hts hin1 hown hK hV 0 rfl rfl 10 (by decide) (List.mem_of_getElem? (i := 9) rfl) rfl dX1_digest_168 ?_
  refine q_getN (C := RX0) (T := TX0) (N := 7) (ci := 0) (v := .ref (g 1)) hx hb hts hin0 hown hK hV 6 rfl rfl 0 (by decide) hN (List.mem_of_getElem? (i := 1) rfl) rfl dX1_digest_171 ?_
  refine lv_aload_n hx hb dX1_digest_174 rfl (lv_at hl 1 rfl) ?_
  refine q_get (C := RX1) (T := TX1) (N := 12) (ci := 1) (v := .ref (g 0)) hx hb hts hin1 hown hK hV 0 rfl rfl 10 (by decide) (List.mem_of_getElem? (i := 9) rfl) rfl dX1_digest_175 ?_
  refine q_getN (C := RX0) (T := TX0) (N := 7) (ci := 0) (v := .int (nI pm)) hx hb hts hin0 hown hK hV 6 rfl rfl 1 (by decide) hN (List.mem_of_getElem? (i := 2) rfl) rfl dX1_digest_178 ?_
  have hV : qV D A s.heap ((((wC h (g 0) (k 0) cA n tx T C K L P u ua ub) ++ (wT g cA pm jm lm du pr ja rt) ++ (wT k cA pm3 jm3 lm3 du3 pr3 ja3 rt3)).eraseIdx 7) ++ (wA (g 1) 60 cA pr)) H locs := hV.sub [0, 1, 2, 3, 4, 5, 6, 8, 9, 10, 11, 12, 13, 7] rfl rfl
  refine k_S_l (w0 := ((wC h (g 0) (k 0) cA n tx T C K L P u ua ub) ++ (wT g cA pm jm lm du pr ja rt) ++ (wT k cA pm3 jm3 lm3 du3 pr3 ja3 rt3)).eraseIdx 7) (wc := wA (g 1) 60 cA pr) (As := [.long (mx (mx (mx (mx (mx (mx (mx (mx (mx (mxF (mx (mx (mx (mxF (mx 1783 ((nI n).toInt64)) tx n) ((nI T).toInt64)) ((nI C).toInt64)) ((nI K).toInt64)) L 12) ((nI u).toInt64)) ((nI (cst C P tx (n - 1))).toInt64)) ((bV (bst C L P tx n)).toInt64)) ((wV (wst C P tx n 12).2).toInt64)) ((bV (sfi tx P T C K n)).toInt64)) ((nI jm).toInt64)) ((nI lm).toInt64)) ((nI du).toInt64)) ((nI pm).toInt64)), .ref (g 1), .int (nI pm)]) (rest := []) hx hb hml hown hts hK hA hN hV hl.1 (c_X1_mixAll l D (g 1) 60 cA pr (mx (mx (mx (mx (mx (mx (mx (mx (mx (mxF (mx (mx (mx (mxF (mx 1783 ((nI n).toInt64)) tx n) ((nI T).toInt64)) ((nI C).toInt64)) ((nI K).toInt64)) L 12) ((nI u).toInt64)) ((nI (cst C P tx (n - 1))).toInt64)) ((bV (bst C L P tx n)).toInt64)) ((wV (wst C P tx n 12).2).toInt64)) ((bV (sfi tx P T C K n)).toInt64)) ((nI jm).toInt64)) ((nI lm).toInt64)) ((nI du).toInt64)) ((nI pm).toInt64)) pm  (by first | omega | assumption) (by first | omega | assumption)) gX1_digest_X1_mixAll rfl rfl rfl hdX1_mixAll ⟨Nat.le_of_ble_eq_true rfl, Nat.le_of_ble_eq_true rfl⟩ rfl rfl (Nat.le_of_ble_eq_true rfl) dX1_digest_181 ⟨Nat.zero_le _, Nat.zero_le _⟩ (fun r W1 H locs hp hV => ?_)
  obtain ⟨hp1, hp2⟩ := hp
  replace hp1 := hp1.symm
  subst hp1
  replace hp2 := hp2.symm
  subst hp2
  have hV : qV D A s.heap ((((wC h (g 0) (k 0) cA n tx T C K L P u ua ub) ++ (wT g cA pm jm lm du pr ja rt) ++ (wT k cA pm3 jm3 lm3 du3 pr3 ja3 rt3)).eraseIdx 7) ++ (wA (g 1) 60 cA pr)) H locs := hV
  have hV : qV D A s.heap ((wC h (g 0) (k 0) cA n tx T C K L P u ua ub) ++ (wT g cA pm jm lm du pr ja rt) ++ (wT k cA pm3 jm3 lm3 du3 pr3 ja3 rt3)) H locs := hV.sub [0, 1, 2, 3, 4, 5, 6, 13, 7, 8, 9, 10, 11, 12] rfl rfl
  refine lv_lstore_n (lv' := [(1, .long (mxF (mx (mx (mx (mx (mx (mx (mx (mx (mx (mxF (mx (mx (mx (mxF (mx 1783 ((nI n).toInt64)) tx n) ((nI T).toInt64)) ((nI C).toInt64)) ((nI K).toInt64)) L 12) ((nI u).toInt64)) ((nI (cst C P tx (n - 1))).toInt64)) ((bV (bst C L P tx n)).toInt64)) ((wV (wst C P tx n 12).2).toInt64)) ((bV (sfi tx P T C K n)).toInt64)) ((nI jm).toInt64)) ((nI lm).toInt64)) ((nI du).toInt64)) ((nI pm).toInt64)) pr pm)), (0, .ref (h 0))]) hx hb dX1_digest_184 rfl hl (by decide) rfl (fun ls hl => ?_)
  refine lv_lload_n hx hb dX1_digest_185 rfl (lv_at hl 0 rfl) ?_
  refine lv_aload_n hx hb dX1_digest_186 rfl (lv_at hl 1 rfl) ?_
  refine q_get (C := RX1) (T := TX1) (N := 12) (ci := 1) (v := .ref (g 0)) hx hb hts hin1 hown hK hV 0 rfl rfl 10 (by decide) (List.mem_of_getElem? (i := 9) rfl) rfl dX1_digest_187 ?_
  refine q_getN (C := RX0) (T := TX0) (N := 7) (ci := 0) (v := .ref (g 2)) hx hb hts hin0 hown hK hV 6 rfl rfl 2 (by decide) hN (List.mem_of_getElem? (i := 3) rfl) rfl dX1_digest_190 ?_
  refine lv_aload_n hx hb dX1_digest_193 rfl (lv_at hl 1 rfl) ?_
  refine q_get (C := RX1) (T := TX1) (N := 12) (ci := 1) (v := .ref (g 0)) hx hb hts hin1 hown hK hV 0 rfl rfl 10 (by decide) (List.mem_of_getElem? (i := 9) rfl) rfl dX1_digest_194 ?_
  refine q_getN (C := RX0) (T := TX0) (N := 7) (ci := 0) (v := .int (nI jm)) hx hb hts hin0 hown hK hV 6 rfl rfl 3 (by decide) hN (List.mem_of_getElem? (i := 4) rfl) rfl dX1_digest_197 ?_
  have hV : qV D A s.heap ((((wC h (g 0) (k 0) cA n tx T C K L P u ua ub) ++ (wT g cA pm jm lm du pr ja rt) ++ (wT k cA pm3 jm3 lm3 du3 pr3 ja3 rt3)).eraseIdx 8) ++ (wA (g 2) 60 cA ja)) H locs := hV.sub [0, 1, 2, 3, 4, 5, 6, 7, 9, 10, 11, 12, 13, 8] rfl rfl
  refine k_S_l (w0 := ((wC h (g 0) (k 0) cA n tx T C K L P u ua ub) ++ (wT g cA pm jm lm du pr ja rt) ++ (wT k cA pm3 jm3 lm3 du3 pr3 ja3 rt3)).eraseIdx 8) (wc := wA (g 2) 60 cA ja) (As := [.long (mxF (mx (mx (mx (mx (mx (mx (mx (mx (mx (mxF (mx (mx (mx (mxF (mx 1783 ((nI n).toInt64)) tx n) ((nI T).toInt64)) ((nI C).toInt64)) ((nI K).toInt64)) L 12) ((nI u).toInt64)) ((nI (cst C P tx (n - 1))).toInt64)) ((bV (bst C L P tx n)).toInt64)) ((wV (wst C P tx n 12).2).toInt64)) ((bV (sfi tx P T C K n)).toInt64)) ((nI jm).toInt64)) ((nI lm).toInt64)) ((nI du).toInt64)) ((nI pm).toInt64)) pr pm), .ref (g 2), .int (nI jm)]) (rest := []) hx hb hml hown hts hK hA hN hV hl.1 (c_X1_mixAll l D (g 2) 60 cA ja (mxF (mx (mx (mx (mx (mx (mx (mx (mx (mx (mxF (mx (mx (mx (mxF (mx 1783 ((nI n).toInt64)) tx n) ((nI T).toInt64)) ((nI C).toInt64)) ((nI K).toInt64)) L 12) ((nI u).toInt64)) ((nI (cst C P tx (n - 1))).toInt64)) ((bV (bst C L P tx n)).toInt64)) ((wV (wst C P tx n 12).2).toInt64)) ((bV (sfi tx P T C K n)).toInt64)) ((nI jm).toInt64)) ((nI lm).toInt64)) ((nI du).toInt64)) ((nI pm).toInt64)) pr pm) jm  (by first | omega | assumption) (by first | omega | assumption)) gX1_digest_X1_mixAll rfl rfl rfl hdX1_mixAll ⟨Nat.le_of_ble_eq_true rfl, Nat.le_of_ble_eq_true rfl⟩ rfl rfl (Nat.le_of_ble_eq_true rfl) dX1_digest_200 ⟨Nat.zero_le _, Nat.zero_le _⟩ (fun r W1 H locs hp hV => ?_)
  obtain ⟨hp1, hp2⟩ := hp
  replace hp1 := hp1.symm
  subst hp1
  replace hp2 := hp2.symm
  subst hp2
  have hV : qV D A s.heap ((((wC h (g 0) (k 0) cA n tx T C K L P u ua ub) ++ (wT g cA pm jm lm du pr ja rt) ++ (wT k cA pm3 jm3 lm3 du3 pr3 ja3 rt3)).eraseIdx 8) ++ (wA (g 2) 60 cA ja)) H locs := hV
  have hV : qV D A s.heap ((wC h (g 0) (k 0) cA n tx T C K L P u ua ub) ++ (wT g cA pm jm lm du pr ja rt) ++ (wT k cA pm3 jm3 lm3 du3 pr3 ja3 rt3)) H locs := hV.sub [0, 1, 2, 3, 4, 5, 6, 7, 13, 8, 9, 10, 11, 12] rfl rfl
  exact q_lret (W1 := (wC h (g 0) (k 0) cA n tx T C K L P u ua ub) ++ (wT g cA pm jm lm du pr ja rt) ++ (wT k cA pm3 jm3 lm3 du3 pr3 ja3 rt3)) hx hb hr hlocks hV dX1_digest_203 ⟨rfl, _, _, _, _, _, _, _, rfl⟩
end
