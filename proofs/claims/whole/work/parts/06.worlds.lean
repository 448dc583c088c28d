/-! the worlds of the two objects, and rows beside those of part 03 -/
abbrev wC (h : Nat → Nat) (ga : Nat) (gb : Nat) (cA : ClassId) (n : Nat) (tx : Nat → Nat) (T : Nat) (C : Nat) (K : Nat) (L : Nat → Nat) (P : Nat → Nat) (u : Nat) (ua : Nat → Nat) (ub : Nat → Nat) : va_W := [(h 0, .inr (1, [.ref (h 1), .int (nI n), .int (nI T), .int (nI C), .int (nI K), .ref (h 2), .ref (h 3), .ref (h 4), .ref (h 5), .int (nI u), .ref ga, .ref gb])), (h 1, aE cA 60 tx), (h 2, aE cA 12 L), (h 3, aE cA 12 P), (h 4, aE cA 30 ua), (h 5, aE cA 30 ub)]
abbrev wB (h : Nat → Nat) (ga : Nat) (gb : Nat) (cA : ClassId) (n : Nat) (tx : Nat → Nat) (T : Nat) (C : Nat) (K : Nat) (P : Nat → Nat) (u : Nat) : va_W := [(h 0, .inr (1, [.ref (h 1), .int (nI n), .int (nI T), .int (nI C), .int (nI K), .ref (h 2), .ref (h 3), .ref (h 4), .ref (h 5), .int (nI u), .ref ga, .ref gb])), (h 1, aE cA 60 tx), (h 3, aE cA 12 P)]
abbrev wT (g : Nat → Nat) (cA : ClassId) (pm : Nat) (jm : Nat) (lm : Nat) (du : Nat) (pr : Nat → Nat) (ja : Nat → Nat) (rt : Nat → Nat) : va_W := [(g 0, .inr (0, [.ref (g 1), .int (nI pm), .ref (g 2), .int (nI jm), .int (nI lm), .int (nI du), .ref (g 3)])), (g 1, aE cA 60 pr), (g 2, aE cA 60 ja), (g 3, aE cA 12 rt)]
abbrev wD (h : Nat → Nat) (cA : ClassId) (n : Nat) (tx : Nat → Nat) (T : Nat) (C : Nat) (K : Nat) (P : Nat → Nat) (L : Nat → Nat) (u : Nat) (ua : Nat → Nat) (ub : Nat → Nat) (pm : Nat) (jm : Nat) (lm : Nat) (du : Nat) (lt : Nat) (hh : Int64) : va_W := [(h 0, .inr (2, [.int (nI n), .ref (h 1), .int (nI T), .int (nI C), .int (nI K), .ref (h 2), .ref (h 3), .int (nI u), .ref (h 4), .ref (h 5), .int (nI pm), .int (nI jm), .int (nI lm), .int (nI du), .ref (h 6), .ref (h 7), .ref (h 8), .ref (h 9), .int (nI lt), .long hh])), (h 1, aE cA 60 tx), (h 2, aE cA 12 P), (h 3, aE cA 12 L), (h 4, aE cA 31 ua), (h 5, aE cA 31 ub)]
abbrev wY (h : Nat → Nat) (cA : ClassId) (pr : Nat → Nat) (ja : Nat → Nat) (rs : Nat → Nat) (os : Nat → Nat) : va_W := [(h 6, aE cA 60 pr), (h 7, aE cA 60 ja), (h 8, aE cA 12 rs), (h 9, aE cA 60 os)]
abbrev wA (aa : Nat) (nn : Nat) (cA : ClassId) (ff : Nat → Nat) : va_W := [(aa, aE cA nn ff)]
abbrev wR (h : Nat → Nat) (cA : ClassId) (L : Nat → Nat) (ua : Nat → Nat) (ub : Nat → Nat) : va_W := [(h 2, aE cA 12 L), (h 4, aE cA 30 ua), (h 5, aE cA 30 ub)]

theorem hdX0_init : yX0_init.cls = RX0 ∧ yX0_init.cls ≠ "java/lang/invoke/MethodHandle" ∧ yX0_init.cls ≠ "java/lang/invoke/VarHandle" ∧ (parseMethodDescriptor yX0_init.desc).map (fun d => d.parameters.length) = some 0 := by decide +kernel
theorem hdnX0_init : yX0_init.cls ≠ "java/lang/invoke/MethodHandle" ∧ yX0_init.cls ≠ "java/lang/invoke/VarHandle" ∧ (parseMethodDescriptor yX0_init.desc).map (fun d => d.parameters.length) = some 0 := by decide +kernel
theorem hdX0_begin : yX0_begin.cls = RX0 ∧ yX0_begin.cls ≠ "java/lang/invoke/MethodHandle" ∧ yX0_begin.cls ≠ "java/lang/invoke/VarHandle" ∧ (parseMethodDescriptor yX0_begin.desc).map (fun d => d.parameters.length) = some 0 := by decide +kernel
theorem hdnX0_begin : yX0_begin.cls ≠ "java/lang/invoke/MethodHandle" ∧ yX0_begin.cls ≠ "java/lang/invoke/VarHandle" ∧ (parseMethodDescriptor yX0_begin.desc).map (fun d => d.parameters.length) = some 0 := by decide +kernel
theorem hdX0_inMotion : yX0_inMotion.cls = RX0 ∧ yX0_inMotion.cls ≠ "java/lang/invoke/MethodHandle" ∧ yX0_inMotion.cls ≠ "java/lang/invoke/VarHandle" ∧ (parseMethodDescriptor yX0_inMotion.desc).map (fun d => d.parameters.length) = some 2 := by decide +kernel
theorem hdnX0_inMotion : yX0_inMotion.cls ≠ "java/lang/invoke/MethodHandle" ∧ yX0_inMotion.cls ≠ "java/lang/invoke/VarHandle" ∧ (parseMethodDescriptor yX0_inMotion.desc).map (fun d => d.parameters.length) = some 2 := by decide +kernel
theorem hdX0_stopAround : yX0_stopAround.cls = RX0 ∧ yX0_stopAround.cls ≠ "java/lang/invoke/MethodHandle" ∧ yX0_stopAround.cls ≠ "java/lang/invoke/VarHandle" ∧ (parseMethodDescriptor yX0_stopAround.desc).map (fun d => d.parameters.length) = some 3 := by decide +kernel
theorem hdnX0_stopAround : yX0_stopAround.cls ≠ "java/lang/invoke/MethodHandle" ∧ yX0_stopAround.cls ≠ "java/lang/invoke/VarHandle" ∧ (parseMethodDescriptor yX0_stopAround.desc).map (fun d => d.parameters.length) = some 3 := by decide +kernel
theorem hdX0_addPrinted : yX0_addPrinted.cls = RX0 ∧ yX0_addPrinted.cls ≠ "java/lang/invoke/MethodHandle" ∧ yX0_addPrinted.cls ≠ "java/lang/invoke/VarHandle" ∧ (parseMethodDescriptor yX0_addPrinted.desc).map (fun d => d.parameters.length) = some 1 := by decide +kernel
theorem hdnX0_addPrinted : yX0_addPrinted.cls ≠ "java/lang/invoke/MethodHandle" ∧ yX0_addPrinted.cls ≠ "java/lang/invoke/VarHandle" ∧ (parseMethodDescriptor yX0_addPrinted.desc).map (fun d => d.parameters.length) = some 1 := by decide +kernel
theorem hdX0_addJammed : yX0_addJammed.cls = RX0 ∧ yX0_addJammed.cls ≠ "java/lang/invoke/MethodHandle" ∧ yX0_addJammed.cls ≠ "java/lang/invoke/VarHandle" ∧ (parseMethodDescriptor yX0_addJammed.desc).map (fun d => d.parameters.length) = some 1 := by decide +kernel
theorem hdnX0_addJammed : yX0_addJammed.cls ≠ "java/lang/invoke/MethodHandle" ∧ yX0_addJammed.cls ≠ "java/lang/invoke/VarHandle" ∧ (parseMethodDescriptor yX0_addJammed.desc).map (fun d => d.parameters.length) = some 1 := by decide +kernel
theorem hdX1_init : yX1_init.cls = RX1 ∧ yX1_init.cls ≠ "java/lang/invoke/MethodHandle" ∧ yX1_init.cls ≠ "java/lang/invoke/VarHandle" ∧ (parseMethodDescriptor yX1_init.desc).map (fun d => d.parameters.length) = some 0 := by decide +kernel
theorem hdX1_append : yX1_append.cls = RX1 ∧ yX1_append.cls ≠ "java/lang/invoke/MethodHandle" ∧ yX1_append.cls ≠ "java/lang/invoke/VarHandle" ∧ (parseMethodDescriptor yX1_append.desc).map (fun d => d.parameters.length) = some 1 := by decide +kernel
theorem hdX1_clearText : yX1_clearText.cls = RX1 ∧ yX1_clearText.cls ≠ "java/lang/invoke/MethodHandle" ∧ yX1_clearText.cls ≠ "java/lang/invoke/VarHandle" ∧ (parseMethodDescriptor yX1_clearText.desc).map (fun d => d.parameters.length) = some 0 := by decide +kernel
theorem hdX1_pairCount : yX1_pairCount.cls = RX1 ∧ yX1_pairCount.cls ≠ "java/lang/invoke/MethodHandle" ∧ yX1_pairCount.cls ≠ "java/lang/invoke/VarHandle" ∧ (parseMethodDescriptor yX1_pairCount.desc).map (fun d => d.parameters.length) = some 2 := by decide +kernel
theorem hdX1_setTravelTime : yX1_setTravelTime.cls = RX1 ∧ yX1_setTravelTime.cls ≠ "java/lang/invoke/MethodHandle" ∧ yX1_setTravelTime.cls ≠ "java/lang/invoke/VarHandle" ∧ (parseMethodDescriptor yX1_setTravelTime.desc).map (fun d => d.parameters.length) = some 1 := by decide +kernel
theorem hdX1_setClashDistance : yX1_setClashDistance.cls = RX1 ∧ yX1_setClashDistance.cls ≠ "java/lang/invoke/MethodHandle" ∧ yX1_setClashDistance.cls ≠ "java/lang/invoke/VarHandle" ∧ (parseMethodDescriptor yX1_setClashDistance.desc).map (fun d => d.parameters.length) = some 1 := by decide +kernel
theorem hdX1_setClearingTime : yX1_setClearingTime.cls = RX1 ∧ yX1_setClearingTime.cls ≠ "java/lang/invoke/MethodHandle" ∧ yX1_setClearingTime.cls ≠ "java/lang/invoke/VarHandle" ∧ (parseMethodDescriptor yX1_setClearingTime.desc).map (fun d => d.parameters.length) = some 1 := by decide +kernel
theorem hdX1_loadLayout : yX1_loadLayout.cls = RX1 ∧ yX1_loadLayout.cls ≠ "java/lang/invoke/MethodHandle" ∧ yX1_loadLayout.cls ≠ "java/lang/invoke/VarHandle" ∧ (parseMethodDescriptor yX1_loadLayout.desc).map (fun d => d.parameters.length) = some 0 := by decide +kernel
theorem hdX1_letterAt : yX1_letterAt.cls = RX1 ∧ yX1_letterAt.cls ≠ "java/lang/invoke/MethodHandle" ∧ yX1_letterAt.cls ≠ "java/lang/invoke/VarHandle" ∧ (parseMethodDescriptor yX1_letterAt.desc).map (fun d => d.parameters.length) = some 1 := by decide +kernel
theorem hdX1_positionOf : yX1_positionOf.cls = RX1 ∧ yX1_positionOf.cls ≠ "java/lang/invoke/MethodHandle" ∧ yX1_positionOf.cls ≠ "java/lang/invoke/VarHandle" ∧ (parseMethodDescriptor yX1_positionOf.desc).map (fun d => d.parameters.length) = some 1 := by decide +kernel
theorem hdX1_swap : yX1_swap.cls = RX1 ∧ yX1_swap.cls ≠ "java/lang/invoke/MethodHandle" ∧ yX1_swap.cls ≠ "java/lang/invoke/VarHandle" ∧ (parseMethodDescriptor yX1_swap.desc).map (fun d => d.parameters.length) = some 2 := by decide +kernel
theorem hdX1_undo : yX1_undo.cls = RX1 ∧ yX1_undo.cls ≠ "java/lang/invoke/MethodHandle" ∧ yX1_undo.cls ≠ "java/lang/invoke/VarHandle" ∧ (parseMethodDescriptor yX1_undo.desc).map (fun d => d.parameters.length) = some 0 := by decide +kernel
theorem hdX1_undoCount : yX1_undoCount.cls = RX1 ∧ yX1_undoCount.cls ≠ "java/lang/invoke/MethodHandle" ∧ yX1_undoCount.cls ≠ "java/lang/invoke/VarHandle" ∧ (parseMethodDescriptor yX1_undoCount.desc).map (fun d => d.parameters.length) = some 0 := by decide +kernel
theorem hdX1_mirror : yX1_mirror.cls = RX1 ∧ yX1_mirror.cls ≠ "java/lang/invoke/MethodHandle" ∧ yX1_mirror.cls ≠ "java/lang/invoke/VarHandle" ∧ (parseMethodDescriptor yX1_mirror.desc).map (fun d => d.parameters.length) = some 0 := by decide +kernel
theorem hdX1_cost : yX1_cost.cls = RX1 ∧ yX1_cost.cls ≠ "java/lang/invoke/MethodHandle" ∧ yX1_cost.cls ≠ "java/lang/invoke/VarHandle" ∧ (parseMethodDescriptor yX1_cost.desc).map (fun d => d.parameters.length) = some 0 := by decide +kernel
theorem hdX1_gain : yX1_gain.cls = RX1 ∧ yX1_gain.cls ≠ "java/lang/invoke/MethodHandle" ∧ yX1_gain.cls ≠ "java/lang/invoke/VarHandle" ∧ (parseMethodDescriptor yX1_gain.desc).map (fun d => d.parameters.length) = some 2 := by decide +kernel
theorem hdX1_bestSwap : yX1_bestSwap.cls = RX1 ∧ yX1_bestSwap.cls ≠ "java/lang/invoke/MethodHandle" ∧ yX1_bestSwap.cls ≠ "java/lang/invoke/VarHandle" ∧ (parseMethodDescriptor yX1_bestSwap.desc).map (fun d => d.parameters.length) = some 0 := by decide +kernel
theorem hdX1_improve : yX1_improve.cls = RX1 ∧ yX1_improve.cls ≠ "java/lang/invoke/MethodHandle" ∧ yX1_improve.cls ≠ "java/lang/invoke/VarHandle" ∧ (parseMethodDescriptor yX1_improve.desc).map (fun d => d.parameters.length) = some 1 := by decide +kernel
theorem hdX1_worstLetter : yX1_worstLetter.cls = RX1 ∧ yX1_worstLetter.cls ≠ "java/lang/invoke/MethodHandle" ∧ yX1_worstLetter.cls ≠ "java/lang/invoke/VarHandle" ∧ (parseMethodDescriptor yX1_worstLetter.desc).map (fun d => d.parameters.length) = some 0 := by decide +kernel
theorem hdX1_run : yX1_run.cls = RX1 ∧ yX1_run.cls ≠ "java/lang/invoke/MethodHandle" ∧ yX1_run.cls ≠ "java/lang/invoke/VarHandle" ∧ (parseMethodDescriptor yX1_run.desc).map (fun d => d.parameters.length) = some 1 := by decide +kernel
theorem hdX1_jams : yX1_jams.cls = RX1 ∧ yX1_jams.cls ≠ "java/lang/invoke/MethodHandle" ∧ yX1_jams.cls ≠ "java/lang/invoke/VarHandle" ∧ (parseMethodDescriptor yX1_jams.desc).map (fun d => d.parameters.length) = some 0 := by decide +kernel
theorem hdX1_lost : yX1_lost.cls = RX1 ∧ yX1_lost.cls ≠ "java/lang/invoke/MethodHandle" ∧ yX1_lost.cls ≠ "java/lang/invoke/VarHandle" ∧ (parseMethodDescriptor yX1_lost.desc).map (fun d => d.parameters.length) = some 0 := by decide +kernel
theorem hdX1_duration : yX1_duration.cls = RX1 ∧ yX1_duration.cls ≠ "java/lang/invoke/MethodHandle" ∧ yX1_duration.cls ≠ "java/lang/invoke/VarHandle" ∧ (parseMethodDescriptor yX1_duration.desc).map (fun d => d.parameters.length) = some 0 := by decide +kernel
theorem hdX1_printedLetter : yX1_printedLetter.cls = RX1 ∧ yX1_printedLetter.cls ≠ "java/lang/invoke/MethodHandle" ∧ yX1_printedLetter.cls ≠ "java/lang/invoke/VarHandle" ∧ (parseMethodDescriptor yX1_printedLetter.desc).map (fun d => d.parameters.length) = some 1 := by decide +kernel
theorem hdX1_jammedKeystroke : yX1_jammedKeystroke.cls = RX1 ∧ yX1_jammedKeystroke.cls ≠ "java/lang/invoke/MethodHandle" ∧ yX1_jammedKeystroke.cls ≠ "java/lang/invoke/VarHandle" ∧ (parseMethodDescriptor yX1_jammedKeystroke.desc).map (fun d => d.parameters.length) = some 1 := by decide +kernel
theorem hdX1_safeInterval : yX1_safeInterval.cls = RX1 ∧ yX1_safeInterval.cls ≠ "java/lang/invoke/MethodHandle" ∧ yX1_safeInterval.cls ≠ "java/lang/invoke/VarHandle" ∧ (parseMethodDescriptor yX1_safeInterval.desc).map (fun d => d.parameters.length) = some 0 := by decide +kernel
theorem hdX1_digest : yX1_digest.cls = RX1 ∧ yX1_digest.cls ≠ "java/lang/invoke/MethodHandle" ∧ yX1_digest.cls ≠ "java/lang/invoke/VarHandle" ∧ (parseMethodDescriptor yX1_digest.desc).map (fun d => d.parameters.length) = some 0 := by decide +kernel
theorem hdX1_isNumber : yX1_isNumber.cls = RX1 ∧ yX1_isNumber.cls ≠ "java/lang/invoke/MethodHandle" ∧ yX1_isNumber.cls ≠ "java/lang/invoke/VarHandle" ∧ (parseMethodDescriptor yX1_isNumber.desc).map (fun d => d.parameters.length) = some 1 := by decide +kernel
theorem hdX1_isPairOf : yX1_isPairOf.cls = RX1 ∧ yX1_isPairOf.cls ≠ "java/lang/invoke/MethodHandle" ∧ yX1_isPairOf.cls ≠ "java/lang/invoke/VarHandle" ∧ (parseMethodDescriptor yX1_isPairOf.desc).map (fun d => d.parameters.length) = some 4 := by decide +kernel
theorem hdX1_textIsLayout : yX1_textIsLayout.cls = RX1 ∧ yX1_textIsLayout.cls ≠ "java/lang/invoke/MethodHandle" ∧ yX1_textIsLayout.cls ≠ "java/lang/invoke/VarHandle" ∧ (parseMethodDescriptor yX1_textIsLayout.desc).map (fun d => d.parameters.length) = some 0 := by decide +kernel
theorem hdX1_place : yX1_place.cls = RX1 ∧ yX1_place.cls ≠ "java/lang/invoke/MethodHandle" ∧ yX1_place.cls ≠ "java/lang/invoke/VarHandle" ∧ (parseMethodDescriptor yX1_place.desc).map (fun d => d.parameters.length) = some 2 := by decide +kernel
theorem hdX1_exchange : yX1_exchange.cls = RX1 ∧ yX1_exchange.cls ≠ "java/lang/invoke/MethodHandle" ∧ yX1_exchange.cls ≠ "java/lang/invoke/VarHandle" ∧ (parseMethodDescriptor yX1_exchange.desc).map (fun d => d.parameters.length) = some 2 := by decide +kernel
theorem hdX1_swapError : yX1_swapError.cls = RX1 ∧ yX1_swapError.cls ≠ "java/lang/invoke/MethodHandle" ∧ yX1_swapError.cls ≠ "java/lang/invoke/VarHandle" ∧ (parseMethodDescriptor yX1_swapError.desc).map (fun d => d.parameters.length) = some 2 := by decide +kernel
theorem hdX1_makeSwap : yX1_makeSwap.cls = RX1 ∧ yX1_makeSwap.cls ≠ "java/lang/invoke/MethodHandle" ∧ yX1_makeSwap.cls ≠ "java/lang/invoke/VarHandle" ∧ (parseMethodDescriptor yX1_makeSwap.desc).map (fun d => d.parameters.length) = some 2 := by decide +kernel
theorem hdX1_forgetOldestSwap : yX1_forgetOldestSwap.cls = RX1 ∧ yX1_forgetOldestSwap.cls ≠ "java/lang/invoke/MethodHandle" ∧ yX1_forgetOldestSwap.cls ≠ "java/lang/invoke/VarHandle" ∧ (parseMethodDescriptor yX1_forgetOldestSwap.desc).map (fun d => d.parameters.length) = some 0 := by decide +kernel
theorem hdX1_closeness : yX1_closeness.cls = RX1 ∧ yX1_closeness.cls ≠ "java/lang/invoke/MethodHandle" ∧ yX1_closeness.cls ≠ "java/lang/invoke/VarHandle" ∧ (parseMethodDescriptor yX1_closeness.desc).map (fun d => d.parameters.length) = some 2 := by decide +kernel
theorem hdX1_closenessOf : yX1_closenessOf.cls = RX1 ∧ yX1_closenessOf.cls ≠ "java/lang/invoke/MethodHandle" ∧ yX1_closenessOf.cls ≠ "java/lang/invoke/VarHandle" ∧ (parseMethodDescriptor yX1_closenessOf.desc).map (fun d => d.parameters.length) = some 1 := by decide +kernel
theorem hdX1_costAfterSwap : yX1_costAfterSwap.cls = RX1 ∧ yX1_costAfterSwap.cls ≠ "java/lang/invoke/MethodHandle" ∧ yX1_costAfterSwap.cls ≠ "java/lang/invoke/VarHandle" ∧ (parseMethodDescriptor yX1_costAfterSwap.desc).map (fun d => d.parameters.length) = some 2 := by decide +kernel
theorem hdX1_typeText : yX1_typeText.cls = RX1 ∧ yX1_typeText.cls ≠ "java/lang/invoke/MethodHandle" ∧ yX1_typeText.cls ≠ "java/lang/invoke/VarHandle" ∧ (parseMethodDescriptor yX1_typeText.desc).map (fun d => d.parameters.length) = some 2 := by decide +kernel
theorem hdX1_strike : yX1_strike.cls = RX1 ∧ yX1_strike.cls ≠ "java/lang/invoke/MethodHandle" ∧ yX1_strike.cls ≠ "java/lang/invoke/VarHandle" ∧ (parseMethodDescriptor yX1_strike.desc).map (fun d => d.parameters.length) = some 3 := by decide +kernel
theorem hdX1_mix : yX1_mix.cls = RX1 ∧ yX1_mix.cls ≠ "java/lang/invoke/MethodHandle" ∧ yX1_mix.cls ≠ "java/lang/invoke/VarHandle" ∧ (parseMethodDescriptor yX1_mix.desc).map (fun d => d.parameters.length) = some 2 := by decide +kernel
theorem hdX1_mixAll : yX1_mixAll.cls = RX1 ∧ yX1_mixAll.cls ≠ "java/lang/invoke/MethodHandle" ∧ yX1_mixAll.cls ≠ "java/lang/invoke/VarHandle" ∧ (parseMethodDescriptor yX1_mixAll.desc).map (fun d => d.parameters.length) = some 3 := by decide +kernel
theorem hdX2_init : yX2_init.cls = RX2 ∧ yX2_init.cls ≠ "java/lang/invoke/MethodHandle" ∧ yX2_init.cls ≠ "java/lang/invoke/VarHandle" ∧ (parseMethodDescriptor yX2_init.desc).map (fun d => d.parameters.length) = some 0 := by decide +kernel
theorem hdX2_within : yX2_within.cls = RX2 ∧ yX2_within.cls ≠ "java/lang/invoke/MethodHandle" ∧ yX2_within.cls ≠ "java/lang/invoke/VarHandle" ∧ (parseMethodDescriptor yX2_within.desc).map (fun d => d.parameters.length) = some 3 := by decide +kernel
theorem hdX2_apart : yX2_apart.cls = RX2 ∧ yX2_apart.cls ≠ "java/lang/invoke/MethodHandle" ∧ yX2_apart.cls ≠ "java/lang/invoke/VarHandle" ∧ (parseMethodDescriptor yX2_apart.desc).map (fun d => d.parameters.length) = some 2 := by decide +kernel
theorem hdX2_append : yX2_append.cls = RX2 ∧ yX2_append.cls ≠ "java/lang/invoke/MethodHandle" ∧ yX2_append.cls ≠ "java/lang/invoke/VarHandle" ∧ (parseMethodDescriptor yX2_append.desc).map (fun d => d.parameters.length) = some 1 := by decide +kernel
theorem hdX2_clearText : yX2_clearText.cls = RX2 ∧ yX2_clearText.cls ≠ "java/lang/invoke/MethodHandle" ∧ yX2_clearText.cls ≠ "java/lang/invoke/VarHandle" ∧ (parseMethodDescriptor yX2_clearText.desc).map (fun d => d.parameters.length) = some 0 := by decide +kernel
theorem hdX2_isLetter : yX2_isLetter.cls = RX2 ∧ yX2_isLetter.cls ≠ "java/lang/invoke/MethodHandle" ∧ yX2_isLetter.cls ≠ "java/lang/invoke/VarHandle" ∧ (parseMethodDescriptor yX2_isLetter.desc).map (fun d => d.parameters.length) = some 1 := by decide +kernel
theorem hdX2_pairCount : yX2_pairCount.cls = RX2 ∧ yX2_pairCount.cls ≠ "java/lang/invoke/MethodHandle" ∧ yX2_pairCount.cls ≠ "java/lang/invoke/VarHandle" ∧ (parseMethodDescriptor yX2_pairCount.desc).map (fun d => d.parameters.length) = some 2 := by decide +kernel
theorem hdX2_setTravelTime : yX2_setTravelTime.cls = RX2 ∧ yX2_setTravelTime.cls ≠ "java/lang/invoke/MethodHandle" ∧ yX2_setTravelTime.cls ≠ "java/lang/invoke/VarHandle" ∧ (parseMethodDescriptor yX2_setTravelTime.desc).map (fun d => d.parameters.length) = some 1 := by decide +kernel
theorem hdX2_setClashDistance : yX2_setClashDistance.cls = RX2 ∧ yX2_setClashDistance.cls ≠ "java/lang/invoke/MethodHandle" ∧ yX2_setClashDistance.cls ≠ "java/lang/invoke/VarHandle" ∧ (parseMethodDescriptor yX2_setClashDistance.desc).map (fun d => d.parameters.length) = some 1 := by decide +kernel
theorem hdX2_setClearingTime : yX2_setClearingTime.cls = RX2 ∧ yX2_setClearingTime.cls ≠ "java/lang/invoke/MethodHandle" ∧ yX2_setClearingTime.cls ≠ "java/lang/invoke/VarHandle" ∧ (parseMethodDescriptor yX2_setClearingTime.desc).map (fun d => d.parameters.length) = some 1 := by decide +kernel
theorem hdX2_isLayout : yX2_isLayout.cls = RX2 ∧ yX2_isLayout.cls ≠ "java/lang/invoke/MethodHandle" ∧ yX2_isLayout.cls ≠ "java/lang/invoke/VarHandle" ∧ (parseMethodDescriptor yX2_isLayout.desc).map (fun d => d.parameters.length) = some 0 := by decide +kernel
theorem hdX2_loadLayout : yX2_loadLayout.cls = RX2 ∧ yX2_loadLayout.cls ≠ "java/lang/invoke/MethodHandle" ∧ yX2_loadLayout.cls ≠ "java/lang/invoke/VarHandle" ∧ (parseMethodDescriptor yX2_loadLayout.desc).map (fun d => d.parameters.length) = some 0 := by decide +kernel
theorem hdX2_letterAt : yX2_letterAt.cls = RX2 ∧ yX2_letterAt.cls ≠ "java/lang/invoke/MethodHandle" ∧ yX2_letterAt.cls ≠ "java/lang/invoke/VarHandle" ∧ (parseMethodDescriptor yX2_letterAt.desc).map (fun d => d.parameters.length) = some 1 := by decide +kernel
theorem hdX2_positionOf : yX2_positionOf.cls = RX2 ∧ yX2_positionOf.cls ≠ "java/lang/invoke/MethodHandle" ∧ yX2_positionOf.cls ≠ "java/lang/invoke/VarHandle" ∧ (parseMethodDescriptor yX2_positionOf.desc).map (fun d => d.parameters.length) = some 1 := by decide +kernel
theorem hdX2_exchange : yX2_exchange.cls = RX2 ∧ yX2_exchange.cls ≠ "java/lang/invoke/MethodHandle" ∧ yX2_exchange.cls ≠ "java/lang/invoke/VarHandle" ∧ (parseMethodDescriptor yX2_exchange.desc).map (fun d => d.parameters.length) = some 2 := by decide +kernel
theorem hdX2_swapNow : yX2_swapNow.cls = RX2 ∧ yX2_swapNow.cls ≠ "java/lang/invoke/MethodHandle" ∧ yX2_swapNow.cls ≠ "java/lang/invoke/VarHandle" ∧ (parseMethodDescriptor yX2_swapNow.desc).map (fun d => d.parameters.length) = some 2 := by decide +kernel
theorem hdX2_refusal : yX2_refusal.cls = RX2 ∧ yX2_refusal.cls ≠ "java/lang/invoke/MethodHandle" ∧ yX2_refusal.cls ≠ "java/lang/invoke/VarHandle" ∧ (parseMethodDescriptor yX2_refusal.desc).map (fun d => d.parameters.length) = some 2 := by decide +kernel
theorem hdX2_swap : yX2_swap.cls = RX2 ∧ yX2_swap.cls ≠ "java/lang/invoke/MethodHandle" ∧ yX2_swap.cls ≠ "java/lang/invoke/VarHandle" ∧ (parseMethodDescriptor yX2_swap.desc).map (fun d => d.parameters.length) = some 2 := by decide +kernel
theorem hdX2_undo : yX2_undo.cls = RX2 ∧ yX2_undo.cls ≠ "java/lang/invoke/MethodHandle" ∧ yX2_undo.cls ≠ "java/lang/invoke/VarHandle" ∧ (parseMethodDescriptor yX2_undo.desc).map (fun d => d.parameters.length) = some 0 := by decide +kernel
theorem hdX2_undoCount : yX2_undoCount.cls = RX2 ∧ yX2_undoCount.cls ≠ "java/lang/invoke/MethodHandle" ∧ yX2_undoCount.cls ≠ "java/lang/invoke/VarHandle" ∧ (parseMethodDescriptor yX2_undoCount.desc).map (fun d => d.parameters.length) = some 0 := by decide +kernel
theorem hdX2_mirror : yX2_mirror.cls = RX2 ∧ yX2_mirror.cls ≠ "java/lang/invoke/MethodHandle" ∧ yX2_mirror.cls ≠ "java/lang/invoke/VarHandle" ∧ (parseMethodDescriptor yX2_mirror.desc).map (fun d => d.parameters.length) = some 0 := by decide +kernel
theorem hdX2_closeness : yX2_closeness.cls = RX2 ∧ yX2_closeness.cls ≠ "java/lang/invoke/MethodHandle" ∧ yX2_closeness.cls ≠ "java/lang/invoke/VarHandle" ∧ (parseMethodDescriptor yX2_closeness.desc).map (fun d => d.parameters.length) = some 2 := by decide +kernel
theorem hdX2_costNow : yX2_costNow.cls = RX2 ∧ yX2_costNow.cls ≠ "java/lang/invoke/MethodHandle" ∧ yX2_costNow.cls ≠ "java/lang/invoke/VarHandle" ∧ (parseMethodDescriptor yX2_costNow.desc).map (fun d => d.parameters.length) = some 0 := by decide +kernel
theorem hdX2_cost : yX2_cost.cls = RX2 ∧ yX2_cost.cls ≠ "java/lang/invoke/MethodHandle" ∧ yX2_cost.cls ≠ "java/lang/invoke/VarHandle" ∧ (parseMethodDescriptor yX2_cost.desc).map (fun d => d.parameters.length) = some 0 := by decide +kernel
theorem hdX2_gainNow : yX2_gainNow.cls = RX2 ∧ yX2_gainNow.cls ≠ "java/lang/invoke/MethodHandle" ∧ yX2_gainNow.cls ≠ "java/lang/invoke/VarHandle" ∧ (parseMethodDescriptor yX2_gainNow.desc).map (fun d => d.parameters.length) = some 2 := by decide +kernel
theorem hdX2_gain : yX2_gain.cls = RX2 ∧ yX2_gain.cls ≠ "java/lang/invoke/MethodHandle" ∧ yX2_gain.cls ≠ "java/lang/invoke/VarHandle" ∧ (parseMethodDescriptor yX2_gain.desc).map (fun d => d.parameters.length) = some 2 := by decide +kernel
theorem hdX2_bestNow : yX2_bestNow.cls = RX2 ∧ yX2_bestNow.cls ≠ "java/lang/invoke/MethodHandle" ∧ yX2_bestNow.cls ≠ "java/lang/invoke/VarHandle" ∧ (parseMethodDescriptor yX2_bestNow.desc).map (fun d => d.parameters.length) = some 0 := by decide +kernel
theorem hdX2_bestSwap : yX2_bestSwap.cls = RX2 ∧ yX2_bestSwap.cls ≠ "java/lang/invoke/MethodHandle" ∧ yX2_bestSwap.cls ≠ "java/lang/invoke/VarHandle" ∧ (parseMethodDescriptor yX2_bestSwap.desc).map (fun d => d.parameters.length) = some 0 := by decide +kernel
theorem hdX2_improve : yX2_improve.cls = RX2 ∧ yX2_improve.cls ≠ "java/lang/invoke/MethodHandle" ∧ yX2_improve.cls ≠ "java/lang/invoke/VarHandle" ∧ (parseMethodDescriptor yX2_improve.desc).map (fun d => d.parameters.length) = some 1 := by decide +kernel
theorem hdX2_partOf : yX2_partOf.cls = RX2 ∧ yX2_partOf.cls ≠ "java/lang/invoke/MethodHandle" ∧ yX2_partOf.cls ≠ "java/lang/invoke/VarHandle" ∧ (parseMethodDescriptor yX2_partOf.desc).map (fun d => d.parameters.length) = some 1 := by decide +kernel
theorem hdX2_worstNow : yX2_worstNow.cls = RX2 ∧ yX2_worstNow.cls ≠ "java/lang/invoke/MethodHandle" ∧ yX2_worstNow.cls ≠ "java/lang/invoke/VarHandle" ∧ (parseMethodDescriptor yX2_worstNow.desc).map (fun d => d.parameters.length) = some 0 := by decide +kernel
theorem hdX2_worstLetter : yX2_worstLetter.cls = RX2 ∧ yX2_worstLetter.cls ≠ "java/lang/invoke/MethodHandle" ∧ yX2_worstLetter.cls ≠ "java/lang/invoke/VarHandle" ∧ (parseMethodDescriptor yX2_worstLetter.desc).map (fun d => d.parameters.length) = some 0 := by decide +kernel
theorem hdX2_stroke : yX2_stroke.cls = RX2 ∧ yX2_stroke.cls ≠ "java/lang/invoke/MethodHandle" ∧ yX2_stroke.cls ≠ "java/lang/invoke/VarHandle" ∧ (parseMethodDescriptor yX2_stroke.desc).map (fun d => d.parameters.length) = some 2 := by decide +kernel
theorem hdX2_type : yX2_type.cls = RX2 ∧ yX2_type.cls ≠ "java/lang/invoke/MethodHandle" ∧ yX2_type.cls ≠ "java/lang/invoke/VarHandle" ∧ (parseMethodDescriptor yX2_type.desc).map (fun d => d.parameters.length) = some 1 := by decide +kernel
theorem hdX2_run : yX2_run.cls = RX2 ∧ yX2_run.cls ≠ "java/lang/invoke/MethodHandle" ∧ yX2_run.cls ≠ "java/lang/invoke/VarHandle" ∧ (parseMethodDescriptor yX2_run.desc).map (fun d => d.parameters.length) = some 1 := by decide +kernel
theorem hdX2_jams : yX2_jams.cls = RX2 ∧ yX2_jams.cls ≠ "java/lang/invoke/MethodHandle" ∧ yX2_jams.cls ≠ "java/lang/invoke/VarHandle" ∧ (parseMethodDescriptor yX2_jams.desc).map (fun d => d.parameters.length) = some 0 := by decide +kernel
theorem hdX2_lost : yX2_lost.cls = RX2 ∧ yX2_lost.cls ≠ "java/lang/invoke/MethodHandle" ∧ yX2_lost.cls ≠ "java/lang/invoke/VarHandle" ∧ (parseMethodDescriptor yX2_lost.desc).map (fun d => d.parameters.length) = some 0 := by decide +kernel
theorem hdX2_duration : yX2_duration.cls = RX2 ∧ yX2_duration.cls ≠ "java/lang/invoke/MethodHandle" ∧ yX2_duration.cls ≠ "java/lang/invoke/VarHandle" ∧ (parseMethodDescriptor yX2_duration.desc).map (fun d => d.parameters.length) = some 0 := by decide +kernel
theorem hdX2_printedLetter : yX2_printedLetter.cls = RX2 ∧ yX2_printedLetter.cls ≠ "java/lang/invoke/MethodHandle" ∧ yX2_printedLetter.cls ≠ "java/lang/invoke/VarHandle" ∧ (parseMethodDescriptor yX2_printedLetter.desc).map (fun d => d.parameters.length) = some 1 := by decide +kernel
theorem hdX2_jammedKeystroke : yX2_jammedKeystroke.cls = RX2 ∧ yX2_jammedKeystroke.cls ≠ "java/lang/invoke/MethodHandle" ∧ yX2_jammedKeystroke.cls ≠ "java/lang/invoke/VarHandle" ∧ (parseMethodDescriptor yX2_jammedKeystroke.desc).map (fun d => d.parameters.length) = some 1 := by decide +kernel
theorem hdX2_isSafe : yX2_isSafe.cls = RX2 ∧ yX2_isSafe.cls ≠ "java/lang/invoke/MethodHandle" ∧ yX2_isSafe.cls ≠ "java/lang/invoke/VarHandle" ∧ (parseMethodDescriptor yX2_isSafe.desc).map (fun d => d.parameters.length) = some 1 := by decide +kernel
theorem hdX2_safeNow : yX2_safeNow.cls = RX2 ∧ yX2_safeNow.cls ≠ "java/lang/invoke/MethodHandle" ∧ yX2_safeNow.cls ≠ "java/lang/invoke/VarHandle" ∧ (parseMethodDescriptor yX2_safeNow.desc).map (fun d => d.parameters.length) = some 0 := by decide +kernel
theorem hdX2_safeInterval : yX2_safeInterval.cls = RX2 ∧ yX2_safeInterval.cls ≠ "java/lang/invoke/MethodHandle" ∧ yX2_safeInterval.cls ≠ "java/lang/invoke/VarHandle" ∧ (parseMethodDescriptor yX2_safeInterval.desc).map (fun d => d.parameters.length) = some 0 := by decide +kernel
theorem hdX2_mix : yX2_mix.cls = RX2 ∧ yX2_mix.cls ≠ "java/lang/invoke/MethodHandle" ∧ yX2_mix.cls ≠ "java/lang/invoke/VarHandle" ∧ (parseMethodDescriptor yX2_mix.desc).map (fun d => d.parameters.length) = some 1 := by decide +kernel
theorem hdX2_digest : yX2_digest.cls = RX2 ∧ yX2_digest.cls ≠ "java/lang/invoke/MethodHandle" ∧ yX2_digest.cls ≠ "java/lang/invoke/VarHandle" ∧ (parseMethodDescriptor yX2_digest.desc).map (fun d => d.parameters.length) = some 0 := by decide +kernel
theorem aE_ext (cA : ClassId) {n : Nat} {f g : Nat → Nat} (h : ∀ j, j < n → f j = g j) : vp_cell cA (n, .inl (nF f)) = vp_cell cA (n, .inl (nF g)) := by
  rw [vp_cell_i, vp_cell_i, arrV, arrV]
  congr 1
  apply Array.ext
  · simp
  · intro i h1 h2
    simp only [Array.getElem_ofFn, nF]
    rw [h i (by simpa using h1)]
theorem qV.arr {D : va_G} {A : Nat → Prop} {H0 H : Heap} {ws : va_W} {locs : List Loc} {a n : Nat} {cA : ClassId} {f g : Nat → Nat} (hV : qV D A H0 ws H locs) (q0 : Nat) (ha : ws[q0]? = some (a, aE cA n f)) (h : ∀ j, j < n → f j = g j) : qV D A H0 (ws.set q0 (a, aE cA n g)) H locs := by
  refine ⟨hV.1.set hV.2.1 ha ?_ (fun _ _ => rfl), hV.2.1.set ha, hV.2.2⟩
  have h1 : H[a]? = some (vp_cell cA (n, .inl (nF f))) := hV.1 q0 _ ha
  show H[a]? = some (vp_cell cA (n, .inl (nF g)))
  rw [← aE_ext cA h]
  exact h1
theorem nb01 {b : Nat} (h : b ≤ 1) : narrow .boolean (.int (nI b)) = .int (nI b) := by
  have : b = 0 ∨ b = 1 := by omega
  rcases this with rfl | rfl <;> rfl
theorem nI_abs {a b : Nat} (ha : a < 2 ^ 30) (hb : b < 2 ^ 30) : (if 0 ≤ nI a - nI b then nI a - nI b else 0 - (nI a - nI b)) = nI ((a - b) + (b - a)) := by
  have e := pk_sub_toInt ha hb
  by_cases h : b ≤ a
  · rw [if_pos (by rw [Int32.le_iff_toInt_le, Int32.toInt_zero, e]; omega), pk_sub h]
    congr 1; omega
  · rw [if_neg (by rw [Int32.le_iff_toInt_le, Int32.toInt_zero, e]; omega)]
    have h2 : (0 : Int32) - (nI a - nI b) = nI b - nI a := by
      apply Int32.toInt_inj.mp
      rw [pk_sub_toInt hb ha, Int32.toInt_sub, e, Int32.toInt_zero]
      simp only [Int.bmod]
      omega
    rw [h2, pk_sub (by omega)]
    congr 1; omega
theorem nI_max0 {a b : Nat} (ha : a < 2 ^ 30) (hb : b < 2 ^ 30) : (if nI 0 < nI a - nI b then nI a - nI b else nI 0) = nI (a - b) := by
  have e := pk_sub_toInt ha hb
  by_cases h : b < a
  · rw [if_pos (by rw [Int32.lt_iff_toInt_lt, nI_0, Int32.toInt_zero, e]; omega), pk_sub (by omega)]
  · rw [if_neg (by rw [Int32.lt_iff_toInt_lt, nI_0, Int32.toInt_zero, e]; omega)]
    congr 1; omega
theorem nI_min {a b : Nat} (ha : a < 2 ^ 31) (hb : b < 2 ^ 31) : (if nI b < nI a then nI b else nI a) = nI (min a b) := by
  by_cases h : b < a
  · rw [if_pos ((nI_ltI hb ha).mpr h), Nat.min_eq_right (by omega)]
  · rw [if_neg (fun q => h ((nI_ltI hb ha).mp q)), Nat.min_eq_left (by omega)]
section QX
variable {p : Program} {l : Launch} {e : Env} {R : Room} {s : State} {m : MethodId} {args : Array Value} {below : List Frame} {meth : Method} {c : Code} {H : Heap} {locs : List Loc} {cells slots : Nat} {Q : State → Prop} {cc : ByteArray} {pc : Nat} {ls : Array Slot} {rest : List Value}
theorem q_iadd2 (hx : p.tables.exec = Jvm.exec) (hb : c.code = cc) {x y z : Nat} (h : z = x + y) (hdg : decode cc pc = .ok (.iadd, 1)) (k : W p l e R s m args below meth c H locs cells slots Q (F0 m (pc + 1) ls (.int (nI z) :: rest))) : W p l e R s m args below meth c H locs cells slots Q (F0 m pc ls (.int (nI y) :: .int (nI x) :: rest)) := q_iadd hx hb hdg (h ▸ k)
theorem q_isub2 (hx : p.tables.exec = Jvm.exec) (hb : c.code = cc) {x y z : Nat} (h : y ≤ x ∧ z = x - y) (hdg : decode cc pc = .ok (.isub, 1)) (k : W p l e R s m args below meth c H locs cells slots Q (F0 m (pc + 1) ls (.int (nI z) :: rest))) : W p l e R s m args below meth c H locs cells slots Q (F0 m pc ls (.int (nI y) :: .int (nI x) :: rest)) := q_isub hx hb h.1 hdg (h.2 ▸ k)
theorem q_imul2 (hx : p.tables.exec = Jvm.exec) (hb : c.code = cc) {x y z : Nat} (h : z = x * y) (hdg : decode cc pc = .ok (.imul, 1)) (k : W p l e R s m args below meth c H locs cells slots Q (F0 m (pc + 1) ls (.int (nI z) :: rest))) : W p l e R s m args below meth c H locs cells slots Q (F0 m pc ls (.int (nI y) :: .int (nI x) :: rest)) := q_imul hx hb hdg (h ▸ k)
theorem q_iinc (hx : p.tables.exec = Jvm.exec) (hb : c.code = cc) {i nL k dd x z : Nat} {n : Int} {lv lv' : List (Nat × Value)} (hdg : decode cc pc = .ok (.iinc i n, 3)) (h : lv_has ls nL lv) (hk : lv[k]? = some (i, .int (nI x))) (hd : Int32.ofInt n = nI dd) (hz : z = x + dd) (hn : i < nL) (hl : (i, Value.int (nI z)) :: lv.filter (fun q => !(q.1 == i) && !(q.1 + 1 == i && q.2.category == 2)) = lv')
    (kk : ∀ ls' : Array Slot, lv_has ls' nL lv' → W p l e R s m args below meth c H locs cells slots Q (F0 m (pc + 3) ls' rest)) : W p l e R s m args below meth c H locs cells slots Q (F0 m pc ls rest) :=
  lv_iinc (v := nI z) hx hb hdg h hk (by rw [hd, nI_add, hz]) hn hl kk
theorem q_abs (hx : p.tables.exec = Jvm.exec) (hb : c.code = cc) (hml : c.maxLocals = ls.size) {own : String} {index : Nat} (hown : s.vm.findClass own = some m.cls) (hlink : (Cond.methodLink own index Lib.Math.abs.name).before args s = true) (hstat : (Cond.static Lib.Math.abs.name).before args s = true) (hini : (Cond.initialized "java/lang/Math").before args s = true) (hcode : (Cond.code Lib.Math.abs.name Lib.Math.abs.code 1 (some .int)).before args s = true)
    (hframes : 1 ≤ R.frames) (hlocals : (rest.map fun v => v.category).sum + 13 ≤ R.locals) (hc : cells ≤ R.cells) (hs : slots ≤ R.slots) {x y : Nat} (h1 : x < 2 ^ 30) (h2 : y < 2 ^ 30) (hdg : decode cc pc = .ok (.invokestatic index, 3))
    (kk : W p l e R s m args below meth c H locs cells slots Q (F0 m (pc + 3) ls (.int (nI ((x - y) + (y - x))) :: rest))) : W p l e R s m args below meth c H locs cells slots Q (F0 m pc ls (.int (nI x - nI y) :: rest)) := by
  refine va_mabs hx hb hml hown hlink hstat hini hcode hframes hlocals hc hs hdg ?_
  rw [nI_abs h1 h2]; exact kk
theorem q_max0 (hx : p.tables.exec = Jvm.exec) (hb : c.code = cc) (hml : c.maxLocals = ls.size) {own : String} {index : Nat} (hown : s.vm.findClass own = some m.cls) (hlink : (Cond.methodLink own index Lib.Math.max.name).before args s = true) (hstat : (Cond.static Lib.Math.max.name).before args s = true) (hini : (Cond.initialized "java/lang/Math").before args s = true) (hcode : (Cond.code Lib.Math.max.name Lib.Math.max.code 2 (some .int)).before args s = true)
    (hframes : 1 ≤ R.frames) (hlocals : (rest.map fun v => v.category).sum + 13 ≤ R.locals) (hc : cells ≤ R.cells) (hs : slots ≤ R.slots) {x y : Nat} (h1 : x < 2 ^ 30) (h2 : y < 2 ^ 30) (hdg : decode cc pc = .ok (.invokestatic index, 3))
    (kk : W p l e R s m args below meth c H locs cells slots Q (F0 m (pc + 3) ls (.int (nI (x - y)) :: rest))) : W p l e R s m args below meth c H locs cells slots Q (F0 m pc ls (.int (nI x - nI y) :: .int (nI 0) :: rest)) := by
  refine va_mmax hx hb hml hown hlink hstat hini hcode hframes hlocals hc hs hdg ?_
  rw [nI_max0 h1 h2]; exact kk
theorem q_min (hx : p.tables.exec = Jvm.exec) (hb : c.code = cc) (hml : c.maxLocals = ls.size) {own : String} {index : Nat} (hown : s.vm.findClass own = some m.cls) (hlink : (Cond.methodLink own index Lib.Math.min.name).before args s = true) (hstat : (Cond.static Lib.Math.min.name).before args s = true) (hini : (Cond.initialized "java/lang/Math").before args s = true) (hcode : (Cond.code Lib.Math.min.name Lib.Math.min.code 2 (some .int)).before args s = true)
    (hframes : 1 ≤ R.frames) (hlocals : (rest.map fun v => v.category).sum + 13 ≤ R.locals) (hc : cells ≤ R.cells) (hs : slots ≤ R.slots) {x y : Nat} (h1 : x < 2 ^ 31) (h2 : y < 2 ^ 31) (hdg : decode cc pc = .ok (.invokestatic index, 3))
    (kk : W p l e R s m args below meth c H locs cells slots Q (F0 m (pc + 3) ls (.int (nI (min x y)) :: rest))) : W p l e R s m args below meth c H locs cells slots Q (F0 m pc ls (.int (nI y) :: .int (nI x) :: rest)) := by
  refine va_mmin hx hb hml hown hlink hstat hini hcode hframes hlocals hc hs hdg ?_
  rw [nI_min h1 h2]; exact kk
end QX
/-- rows of zeros, one by one -/
def zr (f : Nat → Nat) : Nat → (Nat → Nat)
  | 0 => f
  | j + 1 => up (zr f j) j 0
theorem zr_at (f : Nat → Nat) (j k : Nat) (h : k < j) : zr f j k = 0 := by
  induction j with
  | zero => omega
  | succ j ih =>
    simp only [zr, up]
    split
    · rfl
    · exact ih (by omega)
/-- any int: a small number, or another -/
def okR (lo hi : Nat) (v : Int32) : Nat := if (lo : Int) ≤ v.toInt ∧ v.toInt ≤ (hi : Int) then 1 else 0
def iN (v : Int32) : Nat := v.toInt.toNat
theorem okR_le (lo hi : Nat) (v : Int32) : okR lo hi v ≤ 1 := by unfold okR; split <;> omega
theorem iN_nI {k : Nat} (h : k < 2147483648) : iN (nI k) = k := by
  unfold iN; rw [nI_toInt h]; omega
theorem okR_nI {lo hi k : Nat} (h : k < 2147483648) : okR lo hi (nI k) = if lo ≤ k ∧ k ≤ hi then 1 else 0 := by
  unfold okR; rw [nI_toInt h]
  by_cases q : lo ≤ k ∧ k ≤ hi
  · rw [if_pos q, if_pos (by omega)]
  · rw [if_neg q, if_neg (by omega)]
theorem okR_1 {lo hi : Nat} {v : Int32} (hh : hi < 2147483648) (h : okR lo hi v ≠ 0) : ∃ k, lo ≤ k ∧ k ≤ hi ∧ v = nI k := by
  unfold okR at h
  split at h
  · rename_i q
    obtain ⟨j, hj, rfl⟩ := nI_of (x := v) (by rw [Int32.lt_iff_toInt_lt, Int32.toInt_zero]; omega)
    rw [nI_toInt hj] at q
    exact ⟨j, by omega, by omega, rfl⟩
  · exact absurd rfl h
theorem okR_of {lo hi : Nat} {v : Int32} (h1 : (lo : Int) ≤ v.toInt) (h2 : v.toInt ≤ (hi : Int)) : okR lo hi v = 1 := if_pos ⟨h1, h2⟩
theorem okR_no {lo hi : Nat} {v : Int32} (h : v.toInt < (lo : Int) ∨ (hi : Int) < v.toInt) : okR lo hi v = 0 := if_neg (by omega)
