abbrev rm_X1_isNumber : Room := { frames := 0, cells := 0, slots := 0, locals := 0 }
set_option maxHeartbeats 4000000 in
set_option maxRecDepth 100000 in
theorem c_X1_isNumber (l : Launch) (D : va_G) (cA : ClassId) (v1 : Int32)   : CTi l D cA yX1_isNumber wsX1_isNumber rm_X1_isNumber [.int v1] (([] : va_W)) (fun r W1 => r = nI (okR 0 11 v1) ∧ W1 = ([] : va_W)) := by
  refine CTi.mk (cc := cX1_isNumber) (maxL := 1) (ret := some .boolean) (by decide) rfl (Nat.le_of_ble_eq_true rfl) ?_
  intro p e s m below meth c A ls E hV hl
  obtain ⟨hx, hb, hml, hr, hown, hts, hlocks, hK, hA, hN⟩ := E
  have hown : s.vm.findClass RX1 = some m.cls := hown
  have hl : lv_has ls 1 [(0, .int v1)] := hl
  refine lv_iload_n hx hb dX1_isNumber_0 rfl (lv_at hl 0 rfl) ?_
  refine z_if_lt (tgt := 14) hx hb dX1_isNumber_1 (by decide) (fun c1 => ?_) (fun c1 => ?_)
  · refine lv_iconst (v := nI 0) hx hb dX1_isNumber_14 (by decide) ?_
    exact q_zret (W1 := ([] : va_W)) hx hb hr hlocks hV dX1_isNumber_15 (by first | rfl | exact nb01 (by omega)) ⟨by first | rw [okR_of (by omega) (by omega)] | rw [okR_no (by omega)], rfl⟩
  · refine lv_iload_n hx hb dX1_isNumber_4 rfl (lv_at hl 0 rfl) ?_
    refine lv_bipush (v := nI 12) hx hb dX1_isNumber_5 (by decide) ?_
    refine z_icmp_ge (tgt := 14) hx hb dX1_isNumber_7 (by decide) (fun c7 => ?_) (fun c7 => ?_)
    · rw [nI_toInt (n := 12) (by omega)] at c7
      refine lv_iconst (v := nI 0) hx hb dX1_isNumber_14 (by decide) ?_
      exact q_zret (W1 := ([] : va_W)) hx hb hr hlocks hV dX1_isNumber_15 (by first | rfl | exact nb01 (by omega)) ⟨by first | rw [okR_of (by omega) (by omega)] | rw [okR_no (by omega)], rfl⟩
    · rw [nI_toInt (n := 12) (by omega)] at c7
      refine lv_iconst (v := nI 1) hx hb dX1_isNumber_10 (by decide) ?_
      refine lv_goto (tgt := 15) hx hb dX1_isNumber_11 (by decide) ?_
      exact q_zret (W1 := ([] : va_W)) hx hb hr hlocks hV dX1_isNumber_15 (by first | rfl | exact nb01 (by omega)) ⟨by first | rw [okR_of (by omega) (by omega)] | rw [okR_no (by omega)], rfl⟩
abbrev rm_X1_isPairOf : Room := { frames := 0, cells := 0, slots := 0, locals := 0 }
set_option maxHeartbeats 4000000 in
set_option maxRecDepth 100000 in
theorem c_X1_isPairOf (l : Launch) (D : va_G) (cA : ClassId) (a0 : Nat) (a1 : Nat) (b0 : Nat) (b1 : Nat)  (h1 : a0 < 100) (h2 : a1 < 100) (h3 : b0 < 100) (h4 : b1 < 100) : CTi l D cA yX1_isPairOf wsX1_isPairOf rm_X1_isPairOf [.int (nI a0), .int (nI a1), .int (nI b0), .int (nI b1)] (([] : va_W)) (fun r W1 => r = nI (if (a0 = b0 ∧ a1 = b1) ∨ (a0 = b1 ∧ a1 = b0) then 1 else 0) ∧ W1 = ([] : va_W)) := by
  refine CTi.mk (cc := cX1_isPairOf) (maxL := 4) (ret := some .boolean) (by decide) rfl (Nat.le_of_ble_eq_true rfl) ?_
  intro p e s m below meth c A ls E hV hl
  obtain ⟨hx, hb, hml, hr, hown, hts, hlocks, hK, hA, hN⟩ := E
  have hown : s.vm.findClass RX1 = some m.cls := hown
  have hl : lv_has ls 4 [(0, .int (nI a0)), (1, .int (nI a1)), (2, .int (nI b0)), (3, .int (nI b1))] := hl
  refine lv_iload_n hx hb dX1_isPairOf_0 rfl (lv_at hl 0 rfl) ?_
  refine lv_iload_n hx hb dX1_isPairOf_1 rfl (lv_at hl 2 rfl) ?_
  refine q_icmp_ne (x := a0) (y := b0) (tgt := 10) hx hb dX1_isPairOf_2 (by decide) (by omega) (by omega) (fun c2 => ?_) (fun c2 => ?_)
  · refine lv_iload_n hx hb dX1_isPairOf_10 rfl (lv_at hl 0 rfl) ?_
    refine lv_iload_n hx hb dX1_isPairOf_11 rfl (lv_at hl 3 rfl) ?_
    refine q_icmp_ne (x := a0) (y := b1) (tgt := 24) hx hb dX1_isPairOf_12 (by decide) (by omega) (by omega) (fun c12 => ?_) (fun c12 => ?_)
    · refine lv_iconst (v := nI 0) hx hb dX1_isPairOf_24 (by decide) ?_
      exact q_zret (W1 := ([] : va_W)) hx hb hr hlocks hV dX1_isPairOf_25 (by first | rfl | exact nb01 (by omega)) ⟨by first | rw [if_pos (by omega)] | rw [if_neg (by omega)], rfl⟩
    · refine lv_iload_n hx hb dX1_isPairOf_15 rfl (lv_at hl 1 rfl) ?_
      refine lv_iload_n hx hb dX1_isPairOf_16 rfl (lv_at hl 2 rfl) ?_
      refine q_icmp_ne (x := a1) (y := b0) (tgt := 24) hx hb dX1_isPairOf_17 (by decide) (by omega) (by omega) (fun c17 => ?_) (fun c17 => ?_)
      · refine lv_iconst (v := nI 0) hx hb dX1_isPairOf_24 (by decide) ?_
        exact q_zret (W1 := ([] : va_W)) hx hb hr hlocks hV dX1_isPairOf_25 (by first | rfl | exact nb01 (by omega)) ⟨by first | rw [if_pos (by omega)] | rw [if_neg (by omega)], rfl⟩
      · refine lv_iconst (v := nI 1) hx hb dX1_isPairOf_20 (by decide) ?_
        refine lv_goto (tgt := 25) hx hb dX1_isPairOf_21 (by decide) ?_
        exact q_zret (W1 := ([] : va_W)) hx hb hr hlocks hV dX1_isPairOf_25 (by first | rfl | exact nb01 (by omega)) ⟨by first | rw [if_pos (by omega)] | rw [if_neg (by omega)], rfl⟩
  · refine lv_iload_n hx hb dX1_isPairOf_5 rfl (lv_at hl 1 rfl) ?_
    refine lv_iload_n hx hb dX1_isPairOf_6 rfl (lv_at hl 3 rfl) ?_
    refine q_icmp_eq (x := a1) (y := b1) (tgt := 20) hx hb dX1_isPairOf_7 (by decide) (by omega) (by omega) (fun c7 => ?_) (fun c7 => ?_)
    · refine lv_iconst (v := nI 1) hx hb dX1_isPairOf_20 (by decide) ?_
      refine lv_goto (tgt := 25) hx hb dX1_isPairOf_21 (by decide) ?_
      exact q_zret (W1 := ([] : va_W)) hx hb hr hlocks hV dX1_isPairOf_25 (by first | rfl | exact nb01 (by omega)) ⟨by first | rw [if_pos (by omega)] | rw [if_neg (by omega)], rfl⟩
    · refine lv_iload_n hx hb dX1_isPairOf_10 rfl (lv_at hl 0 rfl) ?_
      refine lv_iload_n hx hb dX1_isPairOf_11 rfl (lv_at hl 3 rfl) ?_
      refine q_icmp_ne (x := a0) (y := b1) (tgt := 24) hx hb dX1_isPairOf_12 (by decide) (by omega) (by omega) (fun c12 => ?_) (fun c12 => ?_)
      · refine lv_iconst (v := nI 0) hx hb dX1_isPairOf_24 (by decide) ?_
        exact q_zret (W1 := ([] : va_W)) hx hb hr hlocks hV dX1_isPairOf_25 (by first | rfl | exact nb01 (by omega)) ⟨by first | rw [if_pos (by omega)] | rw [if_neg (by omega)], rfl⟩
      · refine lv_iload_n hx hb dX1_isPairOf_15 rfl (lv_at hl 1 rfl) ?_
        refine lv_iload_n hx hb dX1_isPairOf_16 rfl (lv_at hl 2 rfl) ?_
        refine q_icmp_ne (x := a1) (y := b0) (tgt := 24) hx hb dX1_isPairOf_17 (by decide) (by omega) (by omega) (fun c17 => ?_) (fun c17 => ?_)
        · refine lv_iconst (v := nI 0) hx hb dX1_isPairOf_24 (by decide) ?_
          exact q_zret (W1 := ([] : va_W)) hx hb hr hlocks hV dX1_isPairOf_25 (by first | rfl | exact nb01 (by omega)) ⟨by first | rw [if_pos (by omega)] | rw [if_neg (by omega)], rfl⟩
        · refine lv_iconst (v := nI 1) hx hb dX1_isPairOf_20 (by decide) ?_
          refine lv_goto (tgt := 25) hx hb dX1_isPairOf_21 (by decide) ?_
          exact q_zret (W1 := ([] : va_W)) hx hb hr hlocks hV dX1_isPairOf_25 (by first | rfl | exact nb01 (by omega)) ⟨by first | rw [if_pos (by omega)] | rw [if_neg (by omega)], rfl⟩
abbrev rm_X1_swapError : Room := { frames := 1, cells := 0, slots := 0, locals := 20 }
set_option maxHeartbeats 4000000 in
set_option maxRecDepth 100000 in
theorem c_X1_swapError (l : Launch) (D : va_G) (cA : ClassId) (v1 : Int32) (v2 : Int32)   : CTi l D cA yX1_swapError wsX1_swapError rm_X1_swapError [.int v1, .int v2] (([] : va_W)) (fun r W1 => r = swErr v1 v2 ∧ W1 = ([] : va_W)) := by
  refine CTi.mk (cc := cX1_swapError) (maxL := 2) (ret := some .int) (by decide) rfl (Nat.le_of_ble_eq_true rfl) ?_
  intro p e s m below meth c A ls E hV hl
  obtain ⟨hx, hb, hml, hr, hown, hts, hlocks, hK, hA, hN⟩ := E
  have hown : s.vm.findClass RX1 = some m.cls := hown
  have hl : lv_has ls 2 [(0, .int v1), (1, .int v2)] := hl
  refine lv_iload_n hx hb dX1_swapError_0 rfl (lv_at hl 0 rfl) ?_
  refine k_S_i (w0 := ([] : va_W)) (wc := ([] : va_W)) (As := [.int v1]) (rest := []) hx hb hml hown hts hK hA hN hV hl.1 (c_X1_isNumber l D cA v1  ) gX1_swapError_X1_isNumber rfl rfl rfl hdX1_isNumber ⟨Nat.le_of_ble_eq_true rfl, Nat.le_of_ble_eq_true rfl⟩ rfl rfl (Nat.le_of_ble_eq_true rfl) dX1_swapError_1 ⟨Nat.zero_le _, Nat.zero_le _⟩ (fun r W1 H locs hp hV => ?_)
  obtain ⟨hp1, hp2⟩ := hp
  replace hp1 := hp1.symm
  subst hp1
  replace hp2 := hp2.symm
  subst hp2
  have hV : qV D A s.heap (([] : va_W)) H locs := hV
  have f1 := okR_le 0 11 v1
  refine q_if_eq (x := (okR 0 11 v1)) (tgt := 14) hx hb dX1_swapError_4 (by decide) (by omega) (fun c4 => ?_) (fun c4 => ?_)
  · refine lv_ldc (v := -1000003) hx hb hown (hts _ (List.mem_of_getElem? (i := 1) rfl)) dX1_swapError_14 ?_
    exact q_iret (W1 := ([] : va_W)) hx hb hr hlocks hV dX1_swapError_16 ⟨(swErr_no (by omega)).symm, rfl⟩
  · obtain ⟨k1, -, hk1, rfl⟩ := okR_1 (by decide) c4
    refine lv_iload_n hx hb dX1_swapError_7 rfl (lv_at hl 1 rfl) ?_
    refine k_S_i (w0 := ([] : va_W)) (wc := ([] : va_W)) (As := [.int v2]) (rest := []) hx hb hml hown hts hK hA hN hV hl.1 (c_X1_isNumber l D cA v2  ) gX1_swapError_X1_isNumber rfl rfl rfl hdX1_isNumber ⟨Nat.le_of_ble_eq_true rfl, Nat.le_of_ble_eq_true rfl⟩ rfl rfl (Nat.le_of_ble_eq_true rfl) dX1_swapError_8 ⟨Nat.zero_le _, Nat.zero_le _⟩ (fun r W1 H locs hp hV => ?_)
    obtain ⟨hp1, hp2⟩ := hp
    replace hp1 := hp1.symm
    subst hp1
    replace hp2 := hp2.symm
    subst hp2
    have hV : qV D A s.heap (([] : va_W)) H locs := hV
    have f2 := okR_le 0 11 v2
    refine q_if_ne (x := (okR 0 11 v2)) (tgt := 17) hx hb dX1_swapError_11 (by decide) (by omega) (fun c11 => ?_) (fun c11 => ?_)
    · obtain ⟨k2, -, hk2, rfl⟩ := okR_1 (by decide) c11
      refine lv_iload_n hx hb dX1_swapError_17 rfl (lv_at hl 0 rfl) ?_
      refine lv_iload_n hx hb dX1_swapError_18 rfl (lv_at hl 1 rfl) ?_
      refine q_icmp_ne (x := k1) (y := k2) (tgt := 27) hx hb dX1_swapError_19 (by decide) (by omega) (by omega) (fun c19 => ?_) (fun c19 => ?_)
      · refine lv_iconst (v := nI 0) hx hb dX1_swapError_27 (by decide) ?_
        exact q_iret (W1 := ([] : va_W)) hx hb hr hlocks hV dX1_swapError_28 ⟨by rw [swErr_ok hk1 hk2]; first | rw [if_pos (by omega)] | (rw [if_neg (by omega)]; exact nI_0), rfl⟩
      · refine lv_ldc (v := -1000005) hx hb hown (hts _ (List.mem_of_getElem? (i := 2) rfl)) dX1_swapError_22 ?_
        refine lv_goto (tgt := 28) hx hb dX1_swapError_24 (by decide) ?_
        exact q_iret (W1 := ([] : va_W)) hx hb hr hlocks hV dX1_swapError_28 ⟨by rw [swErr_ok hk1 hk2]; first | rw [if_pos (by omega)] | (rw [if_neg (by omega)]; exact nI_0), rfl⟩
    · refine lv_ldc (v := -1000003) hx hb hown (hts _ (List.mem_of_getElem? (i := 1) rfl)) dX1_swapError_14 ?_
      exact q_iret (W1 := ([] : va_W)) hx hb hr hlocks hV dX1_swapError_16 ⟨(swErr_no (by omega)).symm, rfl⟩
abbrev rm_X1_append : Room := { frames := 0, cells := 0, slots := 0, locals := 0 }
set_option maxHeartbeats 4000000 in
set_option maxRecDepth 100000 in
theorem c_X1_append (l : Launch) (D : va_G) (h : Nat → Nat) (ga : Nat) (gb : Nat) (cA : ClassId) (n : Nat) (tx : Nat → Nat) (T : Nat) (C : Nat) (K : Nat) (L : Nat → Nat) (P : Nat → Nat) (u : Nat) (ua : Nat → Nat) (ub : Nat → Nat) (v1 : Int32)  (hn : n ≤ 60) : CTi l D cA yX1_append wsX1_append rm_X1_append [.ref (h 0), .int v1] (wC h ga gb cA n tx T C K L P u ua ub) (fun r W1 => r = aApp n v1 ∧ W1 = wC h ga gb cA (nApp n v1) (tApp n tx v1) T C K L P u ua ub) := by
  refine CTi.mk (cc := cX1_append) (maxL := 2) (ret := some .int) (by decide) rfl (Nat.le_of_ble_eq_true rfl) ?_
  intro p e s m below meth c A ls E hV hl
  obtain ⟨hx, hb, hml, hr, hown, hts, hlocks, hK, hA, hN⟩ := E
  have hown : s.vm.findClass RX1 = some m.cls := hown
  have hin1 : ∀ w ∈ wsX10, w ∈ wsX1_append := fun _ h => List.mem_cons_of_mem _ (List.mem_append_right _ h)
  have hl : lv_has ls 2 [(0, .ref (h 0)), (1, .int v1)] := hl
  refine lv_iload_n hx hb dX1_append_0 rfl (lv_at hl 1 rfl) ?_
  refine lv_bipush (v := nI 97) hx hb dX1_append_1 (by decide) ?_
  refine z_icmp_lt (tgt := 12) hx hb dX1_append_3 (by decide) (fun c3 => ?_) (fun c3 => ?_)
  · rw [nI_toInt (n := 97) (by omega)] at c3
    refine lv_ldc (v := -1000001) hx hb hown (hts _ (List.mem_of_getElem? (i := 1) rfl)) dX1_append_12 ?_
    have e1 : okR 97 108 v1 = 0 := okR_no (by omega)
    exact q_iret (W1 := wC h ga gb cA n tx T C K L P u ua ub) hx hb hr hlocks hV dX1_append_14 ⟨by unfold aApp; rw [e1]; rfl, by unfold nApp tApp; rw [e1]; rfl⟩
  · rw [nI_toInt (n := 97) (by omega)] at c3
    refine lv_iload_n hx hb dX1_append_6 rfl (lv_at hl 1 rfl) ?_
    refine lv_bipush (v := nI 108) hx hb dX1_append_7 (by decide) ?_
    refine z_icmp_le (tgt := 15) hx hb dX1_append_9 (by decide) (fun c9 => ?_) (fun c9 => ?_)
    · rw [nI_toInt (n := 108) (by omega)] at c9
      obtain ⟨k1, hk0, hk1, rfl⟩ := okR_g (lo := 97) (hi := 108) (by decide) (by omega) (by omega)
      refine lv_aload_n hx hb dX1_append_15 rfl (lv_at hl 0 rfl) ?_
      refine q_get (C := RX1) (T := TX1) (N := 12) (ci := 1) (v := .int (nI n)) hx hb hts hin1 hown hK hV 0 rfl rfl 1 (by decide) (List.mem_of_getElem? (i := 2) rfl) rfl dX1_append_16 ?_
      refine lv_bipush (v := nI 60) hx hb dX1_append_19 (by decide) ?_
      refine q_icmp_lt (x := n) (y := 60) (tgt := 27) hx hb dX1_append_21 (by decide) (by omega) (by omega) (fun c21 => ?_) (fun c21 => ?_)
      · refine lv_aload_n hx hb dX1_append_27 rfl (lv_at hl 0 rfl) ?_
        refine q_get (C := RX1) (T := TX1) (N := 12) (ci := 1) (v := .ref (h 1)) hx hb hts hin1 hown hK hV 0 rfl rfl 0 (by decide) (List.mem_of_getElem? (i := 4) rfl) rfl dX1_append_28 ?_
        refine lv_aload_n hx hb dX1_append_31 rfl (lv_at hl 0 rfl) ?_
        refine q_get (C := RX1) (T := TX1) (N := 12) (ci := 1) (v := .int (nI n)) hx hb hts hin1 hown hK hV 0 rfl rfl 1 (by decide) (List.mem_of_getElem? (i := 2) rfl) rfl dX1_append_32 ?_
        refine lv_iload_n hx hb dX1_append_35 rfl (lv_at hl 1 rfl) ?_
        refine lv_bipush (v := nI 97) hx hb dX1_append_36 (by decide) ?_
        refine q_isub2 (x := k1) (y := 97) (z := (k1 - 97)) hx hb (by omega) dX1_append_38 ?_
        refine q_iast (n := 60) (k := n) (v := (k1 - 97)) (f := tx) (wC h ga gb cA n (up tx n (k1 - 97)) T C K L P u ua ub) hx hb hK hV 1 rfl (by omega) (by decide) rfl dX1_append_39 (fun H locs hV => ?_)
        refine lv_aload_n hx hb dX1_append_40 rfl (lv_at hl 0 rfl) ?_
        refine lv_dup hx hb dX1_append_41 rfl ?_
        refine q_get (C := RX1) (T := TX1) (N := 12) (ci := 1) (v := .int (nI n)) hx hb hts hin1 hown hK hV 0 rfl rfl 1 (by decide) (List.mem_of_getElem? (i := 2) rfl) rfl dX1_append_42 ?_
        refine lv_iconst (v := nI 1) hx hb dX1_append_45 (by decide) ?_
        refine q_iadd2 (x := n) (y := 1) (z := n + 1) hx hb (by omega) dX1_append_46 ?_
        refine q_put (C := RX1) (T := TX1) (N := 12) (ci := 1) (v := .int (nI (n + 1))) (wC h ga gb cA (n + 1) (up tx n (k1 - 97)) T C K L P u ua ub) hx hb hts hin1 tyX1 tyX1_ok nmX1 hown hK hV 0 rfl rfl 1 (by decide) (List.mem_of_getElem? (i := 2) rfl) rfl rfl rfl (Nat.le_of_ble_eq_true rfl) rfl dX1_append_47 (fun H locs hV => ?_)
        refine lv_aload_n hx hb dX1_append_50 rfl (lv_at hl 0 rfl) ?_
        refine q_get (C := RX1) (T := TX1) (N := 12) (ci := 1) (v := .int (nI (n + 1))) hx hb hts hin1 hown hK hV 0 rfl rfl 1 (by decide) (List.mem_of_getElem? (i := 2) rfl) rfl dX1_append_51 ?_
        have e1 := okR_k hk0 hk1 (by decide)
        exact q_iret (W1 := wC h ga gb cA (n + 1) (up tx n (k1 - 97)) T C K L P u ua ub) hx hb hr hlocks hV dX1_append_54 ⟨by unfold aApp; rw [e1, if_pos rfl, if_pos (by omega)], by unfold nApp tApp; rw [e1, if_pos rfl, if_pos (by omega), if_pos rfl, if_pos (by omega), iN_nI (by omega)]⟩
      · refine lv_ldc (v := -1000002) hx hb hown (hts _ (List.mem_of_getElem? (i := 3) rfl)) dX1_append_24 ?_
        have e1 := okR_k hk0 hk1 (by decide)
        exact q_iret (W1 := wC h ga gb cA n tx T C K L P u ua ub) hx hb hr hlocks hV dX1_append_26 ⟨by unfold aApp; rw [e1, if_pos rfl, if_neg (by omega)], by unfold nApp tApp; rw [e1, if_pos rfl, if_neg (by omega), if_pos rfl, if_neg (by omega)]⟩
    · rw [nI_toInt (n := 108) (by omega)] at c9
      refine lv_ldc (v := -1000001) hx hb hown (hts _ (List.mem_of_getElem? (i := 1) rfl)) dX1_append_12 ?_
      have e1 : okR 97 108 v1 = 0 := okR_no (by omega)
      exact q_iret (W1 := wC h ga gb cA n tx T C K L P u ua ub) hx hb hr hlocks hV dX1_append_14 ⟨by unfold aApp; rw [e1]; rfl, by unfold nApp tApp; rw [e1]; rfl⟩
abbrev rm_X1_clearText : Room := { frames := 0, cells := 0, slots := 0, locals := 0 }
set_option maxHeartbeats 4000000 in
set_option maxRecDepth 100000 in
theorem c_X1_clearText (l : Launch) (D : va_G) (h : Nat → Nat) (ga : Nat) (gb : Nat) (cA : ClassId) (n : Nat) (tx : Nat → Nat) (T : Nat) (C : Nat) (K : Nat) (L : Nat → Nat) (P : Nat → Nat) (u : Nat) (ua : Nat → Nat) (ub : Nat → Nat)    : CTi l D cA yX1_clearText wsX1_clearText rm_X1_clearText [.ref (h 0)] (wC h ga gb cA n tx T C K L P u ua ub) (fun r W1 => r = nI n ∧ W1 = wC h ga gb cA 0 tx T C K L P u ua ub) := by
  refine CTi.mk (cc := cX1_clearText) (maxL := 2) (ret := some .int) (by decide) rfl (Nat.le_of_ble_eq_true rfl) ?_
  intro p e s m below meth c A ls E hV hl
  obtain ⟨hx, hb, hml, hr, hown, hts, hlocks, hK, hA, hN⟩ := E
  have hown : s.vm.findClass RX1 = some m.cls := hown
  have hin1 : ∀ w ∈ wsX10, w ∈ wsX1_clearText := fun _ h => List.mem_cons_of_mem _ (List.mem_append_right _ h)
  have hl : lv_has ls 2 [(0, .ref (h 0))] := hl
  refine lv_aload_n hx hb dX1_clearText_0 rfl (lv_at hl 0 rfl) ?_
  refine q_get (C := RX1) (T := TX1) (N := 12) (ci := 1) (v := .int (nI n)) hx hb hts hin1 hown hK hV 0 rfl rfl 1 (by decide) (List.mem_of_getElem? (i := 1) rfl) rfl dX1_clearText_1 ?_
  refine lv_istore_n (lv' := [(1, .int (nI n)), (0, .ref (h 0))]) hx hb dX1_clearText_4 rfl hl (by decide) rfl (fun ls hl => ?_)
  refine lv_aload_n hx hb dX1_clearText_5 rfl (lv_at hl 1 rfl) ?_
  refine lv_iconst (v := nI 0) hx hb dX1_clearText_6 (by decide) ?_
  refine q_put (C := RX1) (T := TX1) (N := 12) (ci := 1) (v := .int (nI 0)) (wC h ga gb cA 0 tx T C K L P u ua ub) hx hb hts hin1 tyX1 tyX1_ok nmX1 hown hK hV 0 rfl rfl 1 (by decide) (List.mem_of_getElem? (i := 1) rfl) rfl rfl rfl (Nat.le_of_ble_eq_true rfl) rfl dX1_clearText_7 (fun H locs hV => ?_)
  refine lv_iload_n hx hb dX1_clearText_10 rfl (lv_at hl 0 rfl) ?_
  exact q_iret (W1 := wC h ga gb cA 0 tx T C K L P u ua ub) hx hb hr hlocks hV dX1_clearText_11 ⟨rfl, rfl⟩
abbrev rm_X1_pairCount : Room := { frames := 1, cells := 0, slots := 0, locals := 23 }
set_option maxHeartbeats 4000000 in
set_option maxRecDepth 100000 in
theorem c_X1_pairCount (l : Launch) (D : va_G) (h : Nat → Nat) (ga : Nat) (gb : Nat) (cA : ClassId) (n : Nat) (tx : Nat → Nat) (T : Nat) (C : Nat) (K : Nat) (L : Nat → Nat) (P : Nat → Nat) (u : Nat) (ua : Nat → Nat) (ub : Nat → Nat) (v1 : Int32) (v2 : Int32)  (hn : n ≤ 60) (htx : ∀ i, tx i < 12) : CTi l D cA yX1_pairCount wsX1_pairCount rm_X1_pairCount [.ref (h 0), .int v1, .int v2] (wC h ga gb cA n tx T C K L P u ua ub) (fun r W1 => r = aPair n tx v1 v2 ∧ W1 = wC h ga gb cA n tx T C K L P u ua ub) := by
  refine CTi.mk (cc := cX1_pairCount) (maxL := 5) (ret := some .int) (by decide) rfl (Nat.le_of_ble_eq_true rfl) ?_
  intro p e s m below meth c A ls E hV hl
  obtain ⟨hx, hb, hml, hr, hown, hts, hlocks, hK, hA, hN⟩ := E
  have hown : s.vm.findClass RX1 = some m.cls := hown
  have hin1 : ∀ w ∈ wsX10, w ∈ wsX1_pairCount := fun _ h => List.mem_cons_of_mem _ (List.mem_append_right _ h)
  have hl : lv_has ls 5 [(0, .ref (h 0)), (1, .int v1), (2, .int v2)] := hl
  refine lv_iload_n hx hb dX1_pairCount_0 rfl (lv_at hl 1 rfl) ?_
  refine k_S_i (w0 := wC h ga gb cA n tx T C K L P u ua ub) (wc := ([] : va_W)) (As := [.int v1]) (rest := []) hx hb hml hown hts hK hA hN hV hl.1 (c_X1_isNumber l D cA v1  ) gX1_pairCount_X1_isNumber rfl rfl rfl hdX1_isNumber ⟨Nat.le_of_ble_eq_true rfl, Nat.le_of_ble_eq_true rfl⟩ rfl rfl (Nat.le_of_ble_eq_true rfl) dX1_pairCount_1 ⟨Nat.zero_le _, Nat.zero_le _⟩ (fun r W1 H locs hp hV => ?_)
  obtain ⟨hp1, hp2⟩ := hp
  replace hp1 := hp1.symm
  subst hp1
  replace hp2 := hp2.symm
  subst hp2
  have hV : qV D A s.heap (wC h ga gb cA n tx T C K L P u ua ub) H locs := hV
  have f1 := okR_le 0 11 v1
  refine q_if_eq (x := (okR 0 11 v1)) (tgt := 14) hx hb dX1_pairCount_4 (by decide) (by omega) (fun c4 => ?_) (fun c4 => ?_)
  · refine lv_ldc (v := -1000003) hx hb hown (hts _ (List.mem_of_getElem? (i := 1) rfl)) dX1_pairCount_14 ?_
    exact q_iret (W1 := wC h ga gb cA n tx T C K L P u ua ub) hx hb hr hlocks hV dX1_pairCount_16 ⟨(aPair_no (by omega)).symm, rfl⟩
  · obtain ⟨k1, -, hk1, rfl⟩ := okR_1 (by decide) c4
    refine lv_iload_n hx hb dX1_pairCount_7 rfl (lv_at hl 2 rfl) ?_
    refine k_S_i (w0 := wC h ga gb cA n tx T C K L P u ua ub) (wc := ([] : va_W)) (As := [.int v2]) (rest := []) hx hb hml hown hts hK hA hN hV hl.1 (c_X1_isNumber l D cA v2  ) gX1_pairCount_X1_isNumber rfl rfl rfl hdX1_isNumber ⟨Nat.le_of_ble_eq_true rfl, Nat.le_of_ble_eq_true rfl⟩ rfl rfl (Nat.le_of_ble_eq_true rfl) dX1_pairCount_8 ⟨Nat.zero_le _, Nat.zero_le _⟩ (fun r W1 H locs hp hV => ?_)
    obtain ⟨hp1, hp2⟩ := hp
    replace hp1 := hp1.symm
    subst hp1
    replace hp2 := hp2.symm
    subst hp2
    have hV : qV D A s.heap (wC h ga gb cA n tx T C K L P u ua ub) H locs := hV
    have f2 := okR_le 0 11 v2
    refine q_if_ne (x := (okR 0 11 v2)) (tgt := 17) hx hb dX1_pairCount_11 (by decide) (by omega) (fun c11 => ?_) (fun c11 => ?_)
    · obtain ⟨k2, -, hk2, rfl⟩ := okR_1 (by decide) c11
      refine lv_iconst (v := nI 0) hx hb dX1_pairCount_17 (by decide) ?_
      refine lv_istore_n (lv' := [(3, .int (nI 0)), (0, .ref (h 0)), (1, .int (nI k1)), (2, .int (nI k2))]) hx hb dX1_pairCount_18 rfl hl (by decide) rfl (fun ls hl => ?_)
      refine lv_iconst (v := nI 1) hx hb dX1_pairCount_19 (by decide) ?_
      refine lv_istore (lv' := [(4, .int (nI 1)), (3, .int (nI 0)), (0, .ref (h 0)), (1, .int (nI k1)), (2, .int (nI k2))]) hx hb dX1_pairCount_20 hl (by decide) rfl (fun ls hl => ?_)
      have lp22 : ∀ (d22 : Nat) (j : Nat) (H : Heap) (locs : List Loc) (ls : Array Slot), (61 ≤ j + d22) → (j = 0 ∨ j + 1 ≤ n) → qV D A s.heap (wC h ga gb cA n tx T C K L P u ua ub) H locs → lv_has ls 5 [(0, .ref (h 0)), (1, .int (nI k1)), (2, .int (nI k2)), (3, .int (nI (prc tx k1 k2 j))), (4, .int (nI (j + 1)))] → W p l e rm_X1_pairCount s m ([.ref (h 0), .int (nI k1), .int (nI k2)] : List Value).toArray below meth c H locs 0 0 (MQ below (va_Qi (fun r W1 => r = aPair n tx (nI k1) (nI k2) ∧ W1 = wC h ga gb cA n tx T C K L P u ua ub) (cPost D A) A) ([.ref (h 0), .int (nI k1), .int (nI k2)] : List Value).toArray s 0 0 A) (F0 m 22 ls []) := by
        intro d22
        induction d22 with
        | zero => intro j H locs ls hm22 hj hV hl; exfalso; omega
        | succ d22 ih22 =>
          intro j H locs ls hm22 hj hV hl
          have f0 := prc_le tx k1 k2 j
          refine lv_iload hx hb dX1_pairCount_22 (lv_at hl 4 rfl) ?_
          refine lv_aload_n hx hb dX1_pairCount_24 rfl (lv_at hl 0 rfl) ?_
          refine q_get (C := RX1) (T := TX1) (N := 12) (ci := 1) (v := .int (nI n)) hx hb hts hin1 hown hK hV 0 rfl rfl 1 (by decide) (List.mem_of_getElem? (i := 2) rfl) rfl dX1_pairCount_25 ?_
          refine q_icmp_ge (x := j + 1) (y := n) (tgt := 64) hx hb dX1_pairCount_28 (by decide) (by omega) (by omega) (fun c28 => ?_) (fun c28 => ?_)
          · refine lv_iload_n hx hb dX1_pairCount_64 rfl (lv_at hl 3 rfl) ?_
            have ej : j = n - 1 := by omega
            exact q_iret (W1 := wC h ga gb cA n tx T C K L P u ua ub) hx hb hr hlocks hV dX1_pairCount_65 ⟨by rw [aPair_ok hk1 hk2, ej], rfl⟩
          · refine lv_aload_n hx hb dX1_pairCount_31 rfl (lv_at hl 0 rfl) ?_
            refine q_get (C := RX1) (T := TX1) (N := 12) (ci := 1) (v := .ref (h 1)) hx hb hts hin1 hown hK hV 0 rfl rfl 0 (by decide) (List.mem_of_getElem? (i := 3) rfl) rfl dX1_pairCount_32 ?_
            refine lv_iload hx hb dX1_pairCount_35 (lv_at hl 4 rfl) ?_
            refine lv_iconst (v := nI 1) hx hb dX1_pairCount_37 (by decide) ?_
            refine q_isub2 (x := j + 1) (y := 1) (z := j) hx hb (by omega) dX1_pairCount_38 ?_
            refine q_iald (n := 60) (k := j) (f := tx) hx hb hK hV 1 rfl (by omega) (by omega) dX1_pairCount_39 ?_
            have f3 := htx j
            refine lv_aload_n hx hb dX1_pairCount_40 rfl (lv_at hl 0 rfl) ?_
            refine q_get (C := RX1) (T := TX1) (N := 12) (ci := 1) (v := .ref (h 1)) hx hb hts hin1 hown hK hV 0 rfl rfl 0 (by decide) (List.mem_of_getElem? (i := 3) rfl) rfl dX1_pairCount_41 ?_
            refine lv_iload hx hb dX1_pairCount_44 (lv_at hl 4 rfl) ?_
            refine q_iald (n := 60) (k := j + 1) (f := tx) hx hb hK hV 1 rfl (by omega) (by omega) dX1_pairCount_46 ?_
            have f4 := htx (j + 1)
            refine lv_iload_n hx hb dX1_pairCount_47 rfl (lv_at hl 1 rfl) ?_
            refine lv_iload_n hx hb dX1_pairCount_48 rfl (lv_at hl 2 rfl) ?_
            refine k_S_i (w0 := wC h ga gb cA n tx T C K L P u ua ub) (wc := ([] : va_W)) (As := [.int (nI (tx j)), .int (nI (tx (j + 1))), .int (nI k1), .int (nI k2)]) (rest := []) hx hb hml hown hts hK hA hN hV hl.1 (c_X1_isPairOf l D cA (tx j) (tx (j + 1)) k1 k2  (by first | omega | assumption) (by first | omega | assumption) (by first | omega | assumption) (by first | omega | assumption)) gX1_pairCount_X1_isPairOf rfl rfl rfl hdX1_isPairOf ⟨Nat.le_of_ble_eq_true rfl, Nat.le_of_ble_eq_true rfl⟩ rfl rfl (Nat.le_of_ble_eq_true rfl) dX1_pairCount_49 ⟨Nat.zero_le _, Nat.zero_le _⟩ (fun r W1 H locs hp hV => ?_)
            obtain ⟨hp1, hp2⟩ := hp
            replace hp1 := hp1.symm
            subst hp1
            replace hp2 := hp2.symm
            subst hp2
            have hV : qV D A s.heap (wC h ga gb cA n tx T C K L P u ua ub) H locs := hV
            have f5 := ite_le (((tx j) = k1 ∧ (tx (j + 1)) = k2) ∨ ((tx j) = k2 ∧ (tx (j + 1)) = k1))
            refine q_if_eq (x := (if ((tx j) = k1 ∧ (tx (j + 1)) = k2) ∨ ((tx j) = k2 ∧ (tx (j + 1)) = k1) then 1 else 0)) (tgt := 58) hx hb dX1_pairCount_52 (by decide) (by omega) (fun c52 => ?_) (fun c52 => ?_)
            · have c52 := ite0 c52
              refine q_iinc (x := j + 1) (z := j + 2) (lv' := [(4, .int (nI (j + 2))), (0, .ref (h 0)), (1, .int (nI k1)), (2, .int (nI k2)), (3, .int (nI (prc tx k1 k2 j)))]) hx hb dX1_pairCount_58 hl (k := 4) rfl (dd := 1) rfl (by omega) (by decide) rfl (fun ls hl => ?_)
              refine lv_goto (tgt := 22) hx hb dX1_pairCount_61 (by decide) ?_
              have e1 : prc tx k1 k2 (j + 1) = (prc tx k1 k2 j) := by show prc tx k1 k2 j + _ = _; rw [if_neg c52, Nat.add_zero]
              exact ih22  (j + 1) _ _ _ (by omega) (by first | omega | assumption) hV (by rw [e1]; exact lv_sub hl [1, 2, 3, 4, 0] rfl)
            · have c52 := ite1 c52
              refine q_iinc (x := (prc tx k1 k2 j)) (z := (prc tx k1 k2 j) + 1) (lv' := [(3, .int (nI ((prc tx k1 k2 j) + 1))), (0, .ref (h 0)), (1, .int (nI k1)), (2, .int (nI k2)), (4, .int (nI (j + 1)))]) hx hb dX1_pairCount_55 hl (k := 3) rfl (dd := 1) rfl (by omega) (by decide) rfl (fun ls hl => ?_)
              refine q_iinc (x := j + 1) (z := j + 2) (lv' := [(4, .int (nI (j + 2))), (3, .int (nI ((prc tx k1 k2 j) + 1))), (0, .ref (h 0)), (1, .int (nI k1)), (2, .int (nI k2))]) hx hb dX1_pairCount_58 hl (k := 4) rfl (dd := 1) rfl (by omega) (by decide) rfl (fun ls hl => ?_)
              refine lv_goto (tgt := 22) hx hb dX1_pairCount_61 (by decide) ?_
              have e1 : prc tx k1 k2 (j + 1) = (prc tx k1 k2 j) + 1 := by show prc tx k1 k2 j + _ = _; rw [if_pos c52]
              exact ih22  (j + 1) _ _ _ (by omega) (by first | omega | assumption) hV (by rw [e1]; exact lv_sub hl [2, 3, 4, 1, 0] rfl)
      exact lp22 61 0 _ _ _ (by omega) (by first | omega | assumption) hV (lv_sub hl [2, 3, 4, 1, 0] rfl)
    · refine lv_ldc (v := -1000003) hx hb hown (hts _ (List.mem_of_getElem? (i := 1) rfl)) dX1_pairCount_14 ?_
      exact q_iret (W1 := wC h ga gb cA n tx T C K L P u ua ub) hx hb hr hlocks hV dX1_pairCount_16 ⟨(aPair_no (by omega)).symm, rfl⟩
abbrev rm_X1_setTravelTime : Room := { frames := 0, cells := 0, slots := 0, locals := 0 }
set_option maxHeartbeats 4000000 in
set_option maxRecDepth 100000 in
theorem c_X1_setTravelTime (l : Launch) (D : va_G) (h : Nat → Nat) (ga : Nat) (gb : Nat) (cA : ClassId) (n : Nat) (tx : Nat → Nat) (T : Nat) (C : Nat) (K : Nat) (L : Nat → Nat) (P : Nat → Nat) (u : Nat) (ua : Nat → Nat) (ub : Nat → Nat) (v1 : Int32)   : CTi l D cA yX1_setTravelTime wsX1_setTravelTime rm_X1_setTravelTime [.ref (h 0), .int v1] (wC h ga gb cA n tx T C K L P u ua ub) (fun r W1 => r = aSet 1 20 T v1 ∧ W1 = wC h ga gb cA n tx (nSet 1 20 T v1) C K L P u ua ub) := by
  refine CTi.mk (cc := cX1_setTravelTime) (maxL := 3) (ret := some .int) (by decide) rfl (Nat.le_of_ble_eq_true rfl) ?_
  intro p e s m below meth c A ls E hV hl
  obtain ⟨hx, hb, hml, hr, hown, hts, hlocks, hK, hA, hN⟩ := E
  have hown : s.vm.findClass RX1 = some m.cls := hown
  have hin1 : ∀ w ∈ wsX10, w ∈ wsX1_setTravelTime := fun _ h => List.mem_cons_of_mem _ (List.mem_append_right _ h)
  have hl : lv_has ls 3 [(0, .ref (h 0)), (1, .int v1)] := hl
  refine lv_iload_n hx hb dX1_setTravelTime_0 rfl (lv_at hl 1 rfl) ?_
  refine lv_iconst (v := nI 1) hx hb dX1_setTravelTime_1 (by decide) ?_
  refine z_icmp_lt (tgt := 11) hx hb dX1_setTravelTime_2 (by decide) (fun c2 => ?_) (fun c2 => ?_)
  · rw [nI_toInt (n := 1) (by omega)] at c2
    refine lv_ldc (v := -1000003) hx hb hown (hts _ (List.mem_of_getElem? (i := 1) rfl)) dX1_setTravelTime_11 ?_
    have e1 : okR 1 20 v1 = 0 := okR_no (by omega)
    exact q_iret (W1 := wC h ga gb cA n tx T C K L P u ua ub) hx hb hr hlocks hV dX1_setTravelTime_13 ⟨(aSet_no e1).symm, by rw [nSet_no e1]⟩
  · rw [nI_toInt (n := 1) (by omega)] at c2
    refine lv_iload_n hx hb dX1_setTravelTime_5 rfl (lv_at hl 1 rfl) ?_
    refine lv_bipush (v := nI 20) hx hb dX1_setTravelTime_6 (by decide) ?_
    refine z_icmp_le (tgt := 14) hx hb dX1_setTravelTime_8 (by decide) (fun c8 => ?_) (fun c8 => ?_)
    · rw [nI_toInt (n := 20) (by omega)] at c8
      obtain ⟨k1, hk0, hk1, rfl⟩ := okR_g (lo := 1) (hi := 20) (by decide) (by omega) (by omega)
      refine lv_aload_n hx hb dX1_setTravelTime_14 rfl (lv_at hl 0 rfl) ?_
      refine q_get (C := RX1) (T := TX1) (N := 12) (ci := 1) (v := .int (nI T)) hx hb hts hin1 hown hK hV 0 rfl rfl 2 (by decide) (List.mem_of_getElem? (i := 2) rfl) rfl dX1_setTravelTime_15 ?_
      refine lv_istore_n (lv' := [(2, .int (nI T)), (0, .ref (h 0)), (1, .int (nI k1))]) hx hb dX1_setTravelTime_18 rfl hl (by decide) rfl (fun ls hl => ?_)
      refine lv_aload_n hx hb dX1_setTravelTime_19 rfl (lv_at hl 1 rfl) ?_
      refine lv_iload_n hx hb dX1_setTravelTime_20 rfl (lv_at hl 2 rfl) ?_
      refine q_put (C := RX1) (T := TX1) (N := 12) (ci := 1) (v := .int (nI k1)) (wC h ga gb cA n tx k1 C K L P u ua ub) hx hb hts hin1 tyX1 tyX1_ok nmX1 hown hK hV 0 rfl rfl 2 (by decide) (List.mem_of_getElem? (i := 2) rfl) rfl rfl rfl (Nat.le_of_ble_eq_true rfl) rfl dX1_setTravelTime_21 (fun H locs hV => ?_)
      refine lv_iload_n hx hb dX1_setTravelTime_24 rfl (lv_at hl 0 rfl) ?_
      exact q_iret (W1 := wC h ga gb cA n tx k1 C K L P u ua ub) hx hb hr hlocks hV dX1_setTravelTime_25 ⟨(aSet_ok hk0 hk1 (by decide)).symm, by rw [nSet_ok hk0 hk1 (by decide)]⟩
    · rw [nI_toInt (n := 20) (by omega)] at c8
      refine lv_ldc (v := -1000003) hx hb hown (hts _ (List.mem_of_getElem? (i := 1) rfl)) dX1_setTravelTime_11 ?_
      have e1 : okR 1 20 v1 = 0 := okR_no (by omega)
      exact q_iret (W1 := wC h ga gb cA n tx T C K L P u ua ub) hx hb hr hlocks hV dX1_setTravelTime_13 ⟨(aSet_no e1).symm, by rw [nSet_no e1]⟩
abbrev rm_X1_setClashDistance : Room := { frames := 0, cells := 0, slots := 0, locals := 0 }
set_option maxHeartbeats 4000000 in
set_option maxRecDepth 100000 in
theorem c_X1_setClashDistance (l : Launch) (D : va_G) (h : Nat → Nat) (ga : Nat) (gb : Nat) (cA : ClassId) (n : Nat) (tx : Nat → Nat) (T : Nat) (C : Nat) (K : Nat) (L : Nat → Nat) (P : Nat → Nat) (u : Nat) (ua : Nat → Nat) (ub : Nat → Nat) (v1 : Int32)   : CTi l D cA yX1_setClashDistance wsX1_setClashDistance rm_X1_setClashDistance [.ref (h 0), .int v1] (wC h ga gb cA n tx T C K L P u ua ub) (fun r W1 => r = aSet 1 5 C v1 ∧ W1 = wC h ga gb cA n tx T (nSet 1 5 C v1) K L P u ua ub) := by
  refine CTi.mk (cc := cX1_setClashDistance) (maxL := 3) (ret := some .int) (by decide) rfl (Nat.le_of_ble_eq_true rfl) ?_
  intro p e s m below meth c A ls E hV hl
  obtain ⟨hx, hb, hml, hr, hown, hts, hlocks, hK, hA, hN⟩ := E
  have hown : s.vm.findClass RX1 = some m.cls := hown
  have hin1 : ∀ w ∈ wsX10, w ∈ wsX1_setClashDistance := fun _ h => List.mem_cons_of_mem _ (List.mem_append_right _ h)
  have hl : lv_has ls 3 [(0, .ref (h 0)), (1, .int v1)] := hl
  refine lv_iload_n hx hb dX1_setClashDistance_0 rfl (lv_at hl 1 rfl) ?_
  refine lv_iconst (v := nI 1) hx hb dX1_setClashDistance_1 (by decide) ?_
  refine z_icmp_lt (tgt := 10) hx hb dX1_setClashDistance_2 (by decide) (fun c2 => ?_) (fun c2 => ?_)
  · rw [nI_toInt (n := 1) (by omega)] at c2
    refine lv_ldc (v := -1000003) hx hb hown (hts _ (List.mem_of_getElem? (i := 1) rfl)) dX1_setClashDistance_10 ?_
    have e1 : okR 1 5 v1 = 0 := okR_no (by omega)
    exact q_iret (W1 := wC h ga gb cA n tx T C K L P u ua ub) hx hb hr hlocks hV dX1_setClashDistance_12 ⟨(aSet_no e1).symm, by rw [nSet_no e1]⟩
  · rw [nI_toInt (n := 1) (by omega)] at c2
    refine lv_iload_n hx hb dX1_setClashDistance_5 rfl (lv_at hl 1 rfl) ?_
    refine lv_iconst (v := nI 5) hx hb dX1_setClashDistance_6 (by decide) ?_
    refine z_icmp_le (tgt := 13) hx hb dX1_setClashDistance_7 (by decide) (fun c7 => ?_) (fun c7 => ?_)
    · rw [nI_toInt (n := 5) (by omega)] at c7
      obtain ⟨k1, hk0, hk1, rfl⟩ := okR_g (lo := 1) (hi := 5) (by decide) (by omega) (by omega)
      refine lv_aload_n hx hb dX1_setClashDistance_13 rfl (lv_at hl 0 rfl) ?_
      refine q_get (C := RX1) (T := TX1) (N := 12) (ci := 1) (v := .int (nI C)) hx hb hts hin1 hown hK hV 0 rfl rfl 3 (by decide) (List.mem_of_getElem? (i := 2) rfl) rfl dX1_setClashDistance_14 ?_
      refine lv_istore_n (lv' := [(2, .int (nI C)), (0, .ref (h 0)), (1, .int (nI k1))]) hx hb dX1_setClashDistance_17 rfl hl (by decide) rfl (fun ls hl => ?_)
      refine lv_aload_n hx hb dX1_setClashDistance_18 rfl (lv_at hl 1 rfl) ?_
      refine lv_iload_n hx hb dX1_setClashDistance_19 rfl (lv_at hl 2 rfl) ?_
      refine q_put (C := RX1) (T := TX1) (N := 12) (ci := 1) (v := .int (nI k1)) (wC h ga gb cA n tx T k1 K L P u ua ub) hx hb hts hin1 tyX1 tyX1_ok nmX1 hown hK hV 0 rfl rfl 3 (by decide) (List.mem_of_getElem? (i := 2) rfl) rfl rfl rfl (Nat.le_of_ble_eq_true rfl) rfl dX1_setClashDistance_20 (fun H locs hV => ?_)
      refine lv_iload_n hx hb dX1_setClashDistance_23 rfl (lv_at hl 0 rfl) ?_
      exact q_iret (W1 := wC h ga gb cA n tx T k1 K L P u ua ub) hx hb hr hlocks hV dX1_setClashDistance_24 ⟨(aSet_ok hk0 hk1 (by decide)).symm, by rw [nSet_ok hk0 hk1 (by decide)]⟩
    · rw [nI_toInt (n := 5) (by omega)] at c7
      refine lv_ldc (v := -1000003) hx hb hown (hts _ (List.mem_of_getElem? (i := 1) rfl)) dX1_setClashDistance_10 ?_
      have e1 : okR 1 5 v1 = 0 := okR_no (by omega)
      exact q_iret (W1 := wC h ga gb cA n tx T C K L P u ua ub) hx hb hr hlocks hV dX1_setClashDistance_12 ⟨(aSet_no e1).symm, by rw [nSet_no e1]⟩
abbrev rm_X1_setClearingTime : Room := { frames := 0, cells := 0, slots := 0, locals := 0 }
set_option maxHeartbeats 4000000 in
set_option maxRecDepth 100000 in
theorem c_X1_setClearingTime (l : Launch) (D : va_G) (h : Nat → Nat) (ga : Nat) (gb : Nat) (cA : ClassId) (n : Nat) (tx : Nat → Nat) (T : Nat) (C : Nat) (K : Nat) (L : Nat → Nat) (P : Nat → Nat) (u : Nat) (ua : Nat → Nat) (ub : Nat → Nat) (v1 : Int32)   : CTi l D cA yX1_setClearingTime wsX1_setClearingTime rm_X1_setClearingTime [.ref (h 0), .int v1] (wC h ga gb cA n tx T C K L P u ua ub) (fun r W1 => r = aSet 0 50 K v1 ∧ W1 = wC h ga gb cA n tx T C (nSet 0 50 K v1) L P u ua ub) := by
  refine CTi.mk (cc := cX1_setClearingTime) (maxL := 3) (ret := some .int) (by decide) rfl (Nat.le_of_ble_eq_true rfl) ?_
  intro p e s m below meth c A ls E hV hl
  obtain ⟨hx, hb, hml, hr, hown, hts, hlocks, hK, hA, hN⟩ := E
  have hown : s.vm.findClass RX1 = some m.cls := hown
  have hin1 : ∀ w ∈ wsX10, w ∈ wsX1_setClearingTime := fun _ h => List.mem_cons_of_mem _ (List.mem_append_right _ h)
  have hl : lv_has ls 3 [(0, .ref (h 0)), (1, .int v1)] := hl
  refine lv_iload_n hx hb dX1_setClearingTime_0 rfl (lv_at hl 1 rfl) ?_
  refine z_if_lt (tgt := 10) hx hb dX1_setClearingTime_1 (by decide) (fun c1 => ?_) (fun c1 => ?_)
  · refine lv_ldc (v := -1000003) hx hb hown (hts _ (List.mem_of_getElem? (i := 1) rfl)) dX1_setClearingTime_10 ?_
    have e1 : okR 0 50 v1 = 0 := okR_no (by omega)
    exact q_iret (W1 := wC h ga gb cA n tx T C K L P u ua ub) hx hb hr hlocks hV dX1_setClearingTime_12 ⟨(aSet_no e1).symm, by rw [nSet_no e1]⟩
  · refine lv_iload_n hx hb dX1_setClearingTime_4 rfl (lv_at hl 1 rfl) ?_
    refine lv_bipush (v := nI 50) hx hb dX1_setClearingTime_5 (by decide) ?_
    refine z_icmp_le (tgt := 13) hx hb dX1_setClearingTime_7 (by decide) (fun c7 => ?_) (fun c7 => ?_)
    · rw [nI_toInt (n := 50) (by omega)] at c7
      obtain ⟨k1, hk0, hk1, rfl⟩ := okR_g (lo := 0) (hi := 50) (by decide) (by omega) (by omega)
      refine lv_aload_n hx hb dX1_setClearingTime_13 rfl (lv_at hl 0 rfl) ?_
      refine q_get (C := RX1) (T := TX1) (N := 12) (ci := 1) (v := .int (nI K)) hx hb hts hin1 hown hK hV 0 rfl rfl 4 (by decide) (List.mem_of_getElem? (i := 2) rfl) rfl dX1_setClearingTime_14 ?_
      refine lv_istore_n (lv' := [(2, .int (nI K)), (0, .ref (h 0)), (1, .int (nI k1))]) hx hb dX1_setClearingTime_17 rfl hl (by decide) rfl (fun ls hl => ?_)
      refine lv_aload_n hx hb dX1_setClearingTime_18 rfl (lv_at hl 1 rfl) ?_
      refine lv_iload_n hx hb dX1_setClearingTime_19 rfl (lv_at hl 2 rfl) ?_
      refine q_put (C := RX1) (T := TX1) (N := 12) (ci := 1) (v := .int (nI k1)) (wC h ga gb cA n tx T C k1 L P u ua ub) hx hb hts hin1 tyX1 tyX1_ok nmX1 hown hK hV 0 rfl rfl 4 (by decide) (List.mem_of_getElem? (i := 2) rfl) rfl rfl rfl (Nat.le_of_ble_eq_true rfl) rfl dX1_setClearingTime_20 (fun H locs hV => ?_)
      refine lv_iload_n hx hb dX1_setClearingTime_23 rfl (lv_at hl 0 rfl) ?_
      exact q_iret (W1 := wC h ga gb cA n tx T C k1 L P u ua ub) hx hb hr hlocks hV dX1_setClearingTime_24 ⟨(aSet_ok hk0 hk1 (by decide)).symm, by rw [nSet_ok hk0 hk1 (by decide)]⟩
    · rw [nI_toInt (n := 50) (by omega)] at c7
      refine lv_ldc (v := -1000003) hx hb hown (hts _ (List.mem_of_getElem? (i := 1) rfl)) dX1_setClearingTime_10 ?_
      have e1 : okR 0 50 v1 = 0 := okR_no (by omega)
      exact q_iret (W1 := wC h ga gb cA n tx T C K L P u ua ub) hx hb hr hlocks hV dX1_setClearingTime_12 ⟨(aSet_no e1).symm, by rw [nSet_no e1]⟩
abbrev rm_X1_textIsLayout : Room := { frames := 0, cells := 0, slots := 0, locals := 0 }
set_option maxHeartbeats 4000000 in
set_option maxRecDepth 100000 in
theorem c_X1_textIsLayout (l : Launch) (D : va_G) (h : Nat → Nat) (ga : Nat) (gb : Nat) (cA : ClassId) (n : Nat) (tx : Nat → Nat) (T : Nat) (C : Nat) (K : Nat) (L : Nat → Nat) (P : Nat → Nat) (u : Nat) (ua : Nat → Nat) (ub : Nat → Nat)   (hn : n ≤ 60) (htx : ∀ i, tx i < 12) : CTi l D cA yX1_textIsLayout wsX1_textIsLayout rm_X1_textIsLayout [.ref (h 0)] (wC h ga gb cA n tx T C K L P u ua ub) (fun r W1 => r = nI (isLy n tx) ∧ W1 = wC h ga gb cA n tx T C K L P u ua ub) := by
  refine CTi.mk (cc := cX1_textIsLayout) (maxL := 3) (ret := some .boolean) (by decide) rfl (Nat.le_of_ble_eq_true rfl) ?_
  intro p e s m below meth c A ls E hV hl
  obtain ⟨hx, hb, hml, hr, hown, hts, hlocks, hK, hA, hN⟩ := E
  have hown : s.vm.findClass RX1 = some m.cls := hown
  have hin1 : ∀ w ∈ wsX10, w ∈ wsX1_textIsLayout := fun _ h => List.mem_cons_of_mem _ (List.mem_append_right _ h)
  have hl : lv_has ls 3 [(0, .ref (h 0))] := hl
  refine lv_aload_n hx hb dX1_textIsLayout_0 rfl (lv_at hl 0 rfl) ?_
  refine q_get (C := RX1) (T := TX1) (N := 12) (ci := 1) (v := .int (nI n)) hx hb hts hin1 hown hK hV 0 rfl rfl 1 (by decide) (List.mem_of_getElem? (i := 1) rfl) rfl dX1_textIsLayout_1 ?_
  refine lv_bipush (v := nI 12) hx hb dX1_textIsLayout_4 (by decide) ?_
  refine q_icmp_eq (x := n) (y := 12) (tgt := 11) hx hb dX1_textIsLayout_6 (by decide) (by omega) (by omega) (fun c6 => ?_) (fun c6 => ?_)
  · refine lv_iconst (v := nI 0) hx hb dX1_textIsLayout_11 (by decide) ?_
    refine lv_istore_n (lv' := [(1, .int (nI 0)), (0, .ref (h 0))]) hx hb dX1_textIsLayout_12 rfl hl (by decide) rfl (fun ls hl => ?_)
    refine lv_iconst (v := nI 0) hx hb dX1_textIsLayout_13 (by decide) ?_
    refine lv_istore_n (lv' := [(2, .int (nI 0)), (1, .int (nI 0)), (0, .ref (h 0))]) hx hb dX1_textIsLayout_14 rfl hl (by decide) rfl (fun ls hl => ?_)
    have lp15 : ∀ (d15 : Nat) (j : Nat) (H : Heap) (locs : List Loc) (ls : Array Slot), (13 ≤ j + d15) → (j ≤ 12) → qV D A s.heap (wC h ga gb cA n tx T C K L P u ua ub) H locs → lv_has ls 3 [(0, .ref (h 0)), (1, .int (msk tx j)), (2, .int (nI j))] → W p l e rm_X1_textIsLayout s m ([.ref (h 0)] : List Value).toArray below meth c H locs 0 0 (MQ below (va_Qi (fun r W1 => r = nI (isLy n tx) ∧ W1 = wC h ga gb cA n tx T C K L P u ua ub) (cPost D A) A) ([.ref (h 0)] : List Value).toArray s 0 0 A) (F0 m 15 ls []) := by
      intro d15
      induction d15 with
      | zero => intro j H locs ls hm15 hj hV hl; exfalso; omega
      | succ d15 ih15 =>
        intro j H locs ls hm15 hj hV hl
        refine lv_iload_n hx hb dX1_textIsLayout_15 rfl (lv_at hl 2 rfl) ?_
        refine lv_bipush (v := nI 12) hx hb dX1_textIsLayout_16 (by decide) ?_
        refine q_icmp_ge (x := j) (y := 12) (tgt := 38) hx hb dX1_textIsLayout_18 (by decide) (by omega) (by omega) (fun c18 => ?_) (fun c18 => ?_)
        · have ej : j = 12 := by omega
          subst ej
          refine lv_iload_n hx hb dX1_textIsLayout_38 rfl (lv_at hl 1 rfl) ?_
          refine lv_sipush (v := nI 4095) hx hb dX1_textIsLayout_39 (by decide) ?_
          refine z_icmp_ne (tgt := 49) hx hb dX1_textIsLayout_42 (by decide) (fun c42 => ?_) (fun c42 => ?_)
          · refine lv_iconst (v := nI 0) hx hb dX1_textIsLayout_49 (by decide) ?_
            exact q_zret (W1 := wC h ga gb cA n tx T C K L P u ua ub) hx hb hr hlocks hV dX1_textIsLayout_50 (by first | rfl | exact nb01 (by omega)) ⟨by unfold isLy; rw [if_neg (fun q => c42 q.2)], rfl⟩
          · refine lv_iconst (v := nI 1) hx hb dX1_textIsLayout_45 (by decide) ?_
            refine lv_goto (tgt := 50) hx hb dX1_textIsLayout_46 (by decide) ?_
            exact q_zret (W1 := wC h ga gb cA n tx T C K L P u ua ub) hx hb hr hlocks hV dX1_textIsLayout_50 (by first | rfl | exact nb01 (by omega)) ⟨by unfold isLy; rw [if_pos ⟨by omega, c42⟩], rfl⟩
        · refine lv_iload_n hx hb dX1_textIsLayout_21 rfl (lv_at hl 1 rfl) ?_
          refine lv_iconst (v := nI 1) hx hb dX1_textIsLayout_22 (by decide) ?_
          refine lv_aload_n hx hb dX1_textIsLayout_23 rfl (lv_at hl 0 rfl) ?_
          refine q_get (C := RX1) (T := TX1) (N := 12) (ci := 1) (v := .ref (h 1)) hx hb hts hin1 hown hK hV 0 rfl rfl 0 (by decide) (List.mem_of_getElem? (i := 2) rfl) rfl dX1_textIsLayout_24 ?_
          refine lv_iload_n hx hb dX1_textIsLayout_27 rfl (lv_at hl 2 rfl) ?_
          refine q_iald (n := 60) (k := j) (f := tx) hx hb hK hV 1 rfl (by omega) (by omega) dX1_textIsLayout_28 ?_
          have f1 := htx j
          refine lv_ishl hx hb dX1_textIsLayout_29 ?_
          refine lv_ior hx hb dX1_textIsLayout_30 ?_
          refine lv_istore_n (lv' := [(1, .int ((msk tx j) ||| ((nI 1) <<< ((nI (tx j)) &&& 31)))), (0, .ref (h 0)), (2, .int (nI j))]) hx hb dX1_textIsLayout_31 rfl hl (by decide) rfl (fun ls hl => ?_)
          refine q_iinc (x := j) (z := j + 1) (lv' := [(2, .int (nI (j + 1))), (1, .int ((msk tx j) ||| ((nI 1) <<< ((nI (tx j)) &&& 31)))), (0, .ref (h 0))]) hx hb dX1_textIsLayout_32 hl (k := 2) rfl (dd := 1) rfl (by omega) (by decide) rfl (fun ls hl => ?_)
          refine lv_goto (tgt := 15) hx hb dX1_textIsLayout_35 (by decide) ?_
          exact ih15  (j + 1) _ _ _ (by omega) (by first | omega | assumption) hV (lv_sub hl [2, 1, 0] rfl)
    exact lp15 13 0 _ _ _ (by omega) (by first | omega | assumption) hV (lv_sub hl [2, 1, 0] rfl)
  · refine lv_iconst (v := nI 0) hx hb dX1_textIsLayout_9 (by decide) ?_
    exact q_zret (W1 := wC h ga gb cA n tx T C K L P u ua ub) hx hb hr hlocks hV dX1_textIsLayout_10 (by first | rfl | exact nb01 (by omega)) ⟨by unfold isLy; rw [if_neg (by omega)], rfl⟩
abbrev rm_X1_place : Room := { frames := 0, cells := 0, slots := 0, locals := 0 }
set_option maxHeartbeats 4000000 in
set_option maxRecDepth 100000 in
theorem c_X1_place (l : Launch) (D : va_G) (h : Nat → Nat) (ga : Nat) (gb : Nat) (cA : ClassId) (n : Nat) (tx : Nat → Nat) (T : Nat) (C : Nat) (K : Nat) (L : Nat → Nat) (P : Nat → Nat) (u : Nat) (ua : Nat → Nat) (ub : Nat → Nat) (a : Nat) (b : Nat)  (h_a : a < 12) (h_b : b < 12) : CTv l D cA yX1_place wsX1_place rm_X1_place [.ref (h 0), .int (nI a), .int (nI b)] (wC h ga gb cA n tx T C K L P u ua ub) (fun W1 => W1 = wC h ga gb cA n tx T C K (up L b a) (up P a b) u ua ub) := by
  refine CTv.mk (cc := cX1_place) (maxL := 3) (ret := none) (by decide) rfl (Nat.le_of_ble_eq_true rfl) ?_
  intro p e s m below meth c A ls E hV hl
  obtain ⟨hx, hb, hml, hr, hown, hts, hlocks, hK, hA, hN⟩ := E
  have hown : s.vm.findClass RX1 = some m.cls := hown
  have hin1 : ∀ w ∈ wsX10, w ∈ wsX1_place := fun _ h => List.mem_cons_of_mem _ (List.mem_append_right _ h)
  have hl : lv_has ls 3 [(0, .ref (h 0)), (1, .int (nI a)), (2, .int (nI b))] := hl
  refine lv_aload_n hx hb dX1_place_0 rfl (lv_at hl 0 rfl) ?_
  refine q_get (C := RX1) (T := TX1) (N := 12) (ci := 1) (v := .ref (h 2)) hx hb hts hin1 hown hK hV 0 rfl rfl 5 (by decide) (List.mem_of_getElem? (i := 1) rfl) rfl dX1_place_1 ?_
  refine lv_iload_n hx hb dX1_place_4 rfl (lv_at hl 2 rfl) ?_
  refine lv_iload_n hx hb dX1_place_5 rfl (lv_at hl 1 rfl) ?_
  refine q_iast (n := 12) (k := b) (v := a) (f := L) (wC h ga gb cA n tx T C K (up L b a) P u ua ub) hx hb hK hV 2 rfl (by omega) (by decide) rfl dX1_place_6 (fun H locs hV => ?_)
  refine lv_aload_n hx hb dX1_place_7 rfl (lv_at hl 0 rfl) ?_
  refine q_get (C := RX1) (T := TX1) (N := 12) (ci := 1) (v := .ref (h 3)) hx hb hts hin1 hown hK hV 0 rfl rfl 6 (by decide) (List.mem_of_getElem? (i := 2) rfl) rfl dX1_place_8 ?_
  refine lv_iload_n hx hb dX1_place_11 rfl (lv_at hl 1 rfl) ?_
  refine lv_iload_n hx hb dX1_place_12 rfl (lv_at hl 2 rfl) ?_
  refine q_iast (n := 12) (k := a) (v := b) (f := P) (wC h ga gb cA n tx T C K (up L b a) (up P a b) u ua ub) hx hb hK hV 3 rfl (by omega) (by decide) rfl dX1_place_13 (fun H locs hV => ?_)
  exact q_vret (W1 := wC h ga gb cA n tx T C K (up L b a) (up P a b) u ua ub) hx hb hr hlocks hV dX1_place_14 rfl
abbrev rm_X1_exchange : Room := { frames := 1, cells := 0, slots := 0, locals := 22 }
set_option maxHeartbeats 4000000 in
set_option maxRecDepth 100000 in
theorem c_X1_exchange (l : Launch) (D : va_G) (h : Nat → Nat) (ga : Nat) (gb : Nat) (cA : ClassId) (n : Nat) (tx : Nat → Nat) (T : Nat) (C : Nat) (K : Nat) (L : Nat → Nat) (P : Nat → Nat) (u : Nat) (ua : Nat → Nat) (ub : Nat → Nat) (a : Nat) (b : Nat)  (h_a : a < 12) (h_b : b < 12) (hp : perm L P) : CTv l D cA yX1_exchange wsX1_exchange rm_X1_exchange [.ref (h 0), .int (nI a), .int (nI b)] (wC h ga gb cA n tx T C K L P u ua ub) (fun W1 => W1 = wC h ga gb cA n tx T C K (exL L a b) (exP L P a b) u ua ub) := by
  refine CTv.mk (cc := cX1_exchange) (maxL := 4) (ret := none) (by decide) rfl (Nat.le_of_ble_eq_true rfl) ?_
  intro p e s m below meth c A ls E hV hl
  obtain ⟨hx, hb, hml, hr, hown, hts, hlocks, hK, hA, hN⟩ := E
  have hown : s.vm.findClass RX1 = some m.cls := hown
  have hin1 : ∀ w ∈ wsX10, w ∈ wsX1_exchange := fun _ h => List.mem_cons_of_mem _ (List.mem_append_right _ h)
  have hl : lv_has ls 4 [(0, .ref (h 0)), (1, .int (nI a)), (2, .int (nI b))] := hl
  refine lv_aload_n hx hb dX1_exchange_0 rfl (lv_at hl 0 rfl) ?_
  refine q_get (C := RX1) (T := TX1) (N := 12) (ci := 1) (v := .ref (h 2)) hx hb hts hin1 hown hK hV 0 rfl rfl 5 (by decide) (List.mem_of_getElem? (i := 1) rfl) rfl dX1_exchange_1 ?_
  refine lv_iload_n hx hb dX1_exchange_4 rfl (lv_at hl 1 rfl) ?_
  refine q_iald (n := 12) (k := a) (f := L) hx hb hK hV 2 rfl (by omega) (by omega) dX1_exchange_5 ?_
  have f1 := hp.L (i := a) (by omega)
  refine lv_istore_n (lv' := [(3, .int (nI (L a))), (0, .ref (h 0)), (1, .int (nI a)), (2, .int (nI b))]) hx hb dX1_exchange_6 rfl hl (by decide) rfl (fun ls hl => ?_)
  refine lv_aload_n hx hb dX1_exchange_7 rfl (lv_at hl 1 rfl) ?_
  refine lv_aload_n hx hb dX1_exchange_8 rfl (lv_at hl 1 rfl) ?_
  refine q_get (C := RX1) (T := TX1) (N := 12) (ci := 1) (v := .ref (h 2)) hx hb hts hin1 hown hK hV 0 rfl rfl 5 (by decide) (List.mem_of_getElem? (i := 1) rfl) rfl dX1_exchange_9 ?_
  refine lv_iload_n hx hb dX1_exchange_12 rfl (lv_at hl 3 rfl) ?_
  refine q_iald (n := 12) (k := b) (f := L) hx hb hK hV 2 rfl (by omega) (by omega) dX1_exchange_13 ?_
  have f2 := hp.L (i := b) (by omega)
  refine lv_iload_n hx hb dX1_exchange_14 rfl (lv_at hl 2 rfl) ?_
  refine k_V_v (w0 := ([] : va_W)) (wc := wC h ga gb cA n tx T C K L P u ua ub) (b := h 0) (As := [.int (nI (L b)), .int (nI a)]) (rest := []) hx hb hml hown hts hK hA hN hV hl.1 (c_X1_place l D h ga gb cA n tx T C K L P u ua ub (L b) a  (by first | omega | assumption) (by first | omega | assumption)) gX1_exchange_X1_place rfl rfl rfl hdX1_place ⟨Nat.le_of_ble_eq_true rfl, Nat.le_of_ble_eq_true rfl⟩ 0 1 rfl rfl rfl rfl rfl (Nat.le_of_ble_eq_true rfl) dX1_exchange_15 ⟨Nat.zero_le _, Nat.zero_le _⟩ (fun W1 H locs hp hV => ?_)
  subst hp
  have hV : qV D A s.heap (wC h ga gb cA n tx T C K (up L a (L b)) (up P (L b) a) u ua ub) H locs := hV
  refine lv_aload_n hx hb dX1_exchange_18 rfl (lv_at hl 1 rfl) ?_
  refine lv_iload_n hx hb dX1_exchange_19 rfl (lv_at hl 0 rfl) ?_
  refine lv_iload_n hx hb dX1_exchange_20 rfl (lv_at hl 3 rfl) ?_
  refine k_V_v (w0 := ([] : va_W)) (wc := wC h ga gb cA n tx T C K (up L a (L b)) (up P (L b) a) u ua ub) (b := h 0) (As := [.int (nI (L a)), .int (nI b)]) (rest := []) hx hb hml hown hts hK hA hN hV hl.1 (c_X1_place l D h ga gb cA n tx T C K (up L a (L b)) (up P (L b) a) u ua ub (L a) b  (by first | omega | assumption) (by first | omega | assumption)) gX1_exchange_X1_place rfl rfl rfl hdX1_place ⟨Nat.le_of_ble_eq_true rfl, Nat.le_of_ble_eq_true rfl⟩ 0 1 rfl rfl rfl rfl rfl (Nat.le_of_ble_eq_true rfl) dX1_exchange_21 ⟨Nat.zero_le _, Nat.zero_le _⟩ (fun W1 H locs hp hV => ?_)
  subst hp
  have hV : qV D A s.heap (wC h ga gb cA n tx T C K (up (up L a (L b)) b (L a)) (up (up P (L b) a) (L a) b) u ua ub) H locs := hV
  exact q_vret (W1 := wC h ga gb cA n tx T C K (up (up L a (L b)) b (L a)) (up (up P (L b) a) (L a) b) u ua ub) hx hb hr hlocks hV dX1_exchange_24 rfl
abbrev rm_X1_loadLayout : Room := { frames := 1, cells := 0, slots := 0, locals := 22 }
set_option maxHeartbeats 4000000 in
set_option maxRecDepth 100000 in
theorem c_X1_loadLayout (l : Launch) (D : va_G) (h : Nat → Nat) (ga : Nat) (gb : Nat) (cA : ClassId) (n : Nat) (tx : Nat → Nat) (T : Nat) (C : Nat) (K : Nat) (L : Nat → Nat) (P : Nat → Nat) (u : Nat) (ua : Nat → Nat) (ub : Nat → Nat)   (hn : n ≤ 60) (htx : ∀ i, tx i < 12) : CTi l D cA yX1_loadLayout wsX1_loadLayout rm_X1_loadLayout [.ref (h 0)] (wC h ga gb cA n tx T C K L P u ua ub) (fun r W1 => r = aLd n tx ∧ W1 = wC h ga gb cA (nLd n tx) tx T C K ((yLd n tx (L, P, u, ua, ub)).1) ((yLd n tx (L, P, u, ua, ub)).2.1) ((yLd n tx (L, P, u, ua, ub)).2.2.1) ((yLd n tx (L, P, u, ua, ub)).2.2.2.1) ((yLd n tx (L, P, u, ua, ub)).2.2.2.2)) := by
  refine CTi.mk (cc := cX1_loadLayout) (maxL := 2) (ret := some .int) (by decide) rfl (Nat.le_of_ble_eq_true rfl) ?_
  intro p e s m below meth c A ls E hV hl
  obtain ⟨hx, hb, hml, hr, hown, hts, hlocks, hK, hA, hN⟩ := E
  have hown : s.vm.findClass RX1 = some m.cls := hown
  have hin1 : ∀ w ∈ wsX10, w ∈ wsX1_loadLayout := fun _ h => List.mem_cons_of_mem _ (List.mem_append_right _ h)
  have hl : lv_has ls 2 [(0, .ref (h 0))] := hl
  refine lv_aload_n hx hb dX1_loadLayout_0 rfl (lv_at hl 0 rfl) ?_
  refine k_V_i (w0 := ([] : va_W)) (wc := wC h ga gb cA n tx T C K L P u ua ub) (b := h 0) (As := []) (rest := []) hx hb hml hown hts hK hA hN hV hl.1 (c_X1_textIsLayout l D h ga gb cA n tx T C K L P u ua ub   (by first | omega | assumption) (by first | omega | assumption)) gX1_loadLayout_X1_textIsLayout rfl rfl rfl hdX1_textIsLayout ⟨Nat.le_of_ble_eq_true rfl, Nat.le_of_ble_eq_true rfl⟩ 0 1 rfl rfl rfl rfl rfl (Nat.le_of_ble_eq_true rfl) dX1_loadLayout_1 ⟨Nat.zero_le _, Nat.zero_le _⟩ (fun r W1 H locs hp hV => ?_)
  obtain ⟨hp1, hp2⟩ := hp
  replace hp1 := hp1.symm
  subst hp1
  replace hp2 := hp2.symm
  subst hp2
  have hV : qV D A s.heap (wC h ga gb cA n tx T C K L P u ua ub) H locs := hV
  have f1 := isLy_le n tx
  refine q_if_ne (x := (isLy n tx)) (tgt := 10) hx hb dX1_loadLayout_4 (by decide) (by omega) (fun c4 => ?_) (fun c4 => ?_)
  · refine lv_iconst (v := nI 0) hx hb dX1_loadLayout_10 (by decide) ?_
    refine lv_istore_n (lv' := [(1, .int (nI 0)), (0, .ref (h 0))]) hx hb dX1_loadLayout_11 rfl hl (by decide) rfl (fun ls hl => ?_)
    have lp12 : ∀ (d12 : Nat) (j : Nat) (H : Heap) (locs : List Loc) (ls : Array Slot), (13 ≤ j + d12) → (j ≤ 12) → qV D A s.heap (wC h ga gb cA n tx T C K (ldL L tx j) (ldP P tx j) u ua ub) H locs → lv_has ls 2 [(0, .ref (h 0)), (1, .int (nI j))] → W p l e rm_X1_loadLayout s m ([.ref (h 0)] : List Value).toArray below meth c H locs 0 0 (MQ below (va_Qi (fun r W1 => r = aLd n tx ∧ W1 = wC h ga gb cA (nLd n tx) tx T C K ((yLd n tx (L, P, u, ua, ub)).1) ((yLd n tx (L, P, u, ua, ub)).2.1) ((yLd n tx (L, P, u, ua, ub)).2.2.1) ((yLd n tx (L, P, u, ua, ub)).2.2.2.1) ((yLd n tx (L, P, u, ua, ub)).2.2.2.2)) (cPost D A) A) ([.ref (h 0)] : List Value).toArray s 0 0 A) (F0 m 12 ls []) := by
      intro d12
      induction d12 with
      | zero => intro j H locs ls hm12 hj hV hl; exfalso; omega
      | succ d12 ih12 =>
        intro j H locs ls hm12 hj hV hl
        refine lv_iload_n hx hb dX1_loadLayout_12 rfl (lv_at hl 1 rfl) ?_
        refine lv_bipush (v := nI 12) hx hb dX1_loadLayout_13 (by decide) ?_
        refine q_icmp_ge (x := j) (y := 12) (tgt := 35) hx hb dX1_loadLayout_15 (by decide) (by omega) (by omega) (fun c15 => ?_) (fun c15 => ?_)
        · have ej : j = 12 := by omega
          subst ej
          refine lv_aload_n hx hb dX1_loadLayout_35 rfl (lv_at hl 0 rfl) ?_
          refine lv_iconst (v := nI 0) hx hb dX1_loadLayout_36 (by decide) ?_
          refine q_put (C := RX1) (T := TX1) (N := 12) (ci := 1) (v := .int (nI 0)) (wC h ga gb cA 0 tx T C K (ldL L tx 12) (ldP P tx 12) u ua ub) hx hb hts hin1 tyX1 tyX1_ok nmX1 hown hK hV 0 rfl rfl 1 (by decide) (List.mem_of_getElem? (i := 3) rfl) rfl rfl rfl (Nat.le_of_ble_eq_true rfl) rfl dX1_loadLayout_37 (fun H locs hV => ?_)
          refine lv_aload_n hx hb dX1_loadLayout_40 rfl (lv_at hl 0 rfl) ?_
          refine lv_iconst (v := nI 0) hx hb dX1_loadLayout_41 (by decide) ?_
          refine q_put (C := RX1) (T := TX1) (N := 12) (ci := 1) (v := .int (nI 0)) (wC h ga gb cA 0 tx T C K (ldL L tx 12) (ldP P tx 12) 0 ua ub) hx hb hts hin1 tyX1 tyX1_ok nmX1 hown hK hV 0 rfl rfl 9 (by decide) (List.mem_of_getElem? (i := 4) rfl) rfl rfl rfl (Nat.le_of_ble_eq_true rfl) rfl dX1_loadLayout_42 (fun H locs hV => ?_)
          refine lv_bipush (v := nI 12) hx hb dX1_loadLayout_45 (by decide) ?_
          have e1 : isLy n tx = 1 := by omega
          exact q_iret (W1 := wC h ga gb cA 0 tx T C K (ldL L tx 12) (ldP P tx 12) 0 ua ub) hx hb hr hlocks hV dX1_loadLayout_47 ⟨by unfold aLd; rw [if_pos e1], by unfold nLd yLd; rw [if_pos e1, if_pos e1]⟩
        · refine lv_aload_n hx hb dX1_loadLayout_18 rfl (lv_at hl 0 rfl) ?_
          refine lv_aload_n hx hb dX1_loadLayout_19 rfl (lv_at hl 0 rfl) ?_
          refine q_get (C := RX1) (T := TX1) (N := 12) (ci := 1) (v := .ref (h 1)) hx hb hts hin1 hown hK hV 0 rfl rfl 0 (by decide) (List.mem_of_getElem? (i := 2) rfl) rfl dX1_loadLayout_20 ?_
          refine lv_iload_n hx hb dX1_loadLayout_23 rfl (lv_at hl 1 rfl) ?_
          refine q_iald (n := 60) (k := j) (f := tx) hx hb hK hV 1 rfl (by omega) (by omega) dX1_loadLayout_24 ?_
          have f2 := htx j
          refine lv_iload_n hx hb dX1_loadLayout_25 rfl (lv_at hl 1 rfl) ?_
          refine k_V_v (w0 := ([] : va_W)) (wc := wC h ga gb cA n tx T C K (ldL L tx j) (ldP P tx j) u ua ub) (b := h 0) (As := [.int (nI (tx j)), .int (nI j)]) (rest := []) hx hb hml hown hts hK hA hN hV hl.1 (c_X1_place l D h ga gb cA n tx T C K (ldL L tx j) (ldP P tx j) u ua ub (tx j) j  (by first | omega | assumption) (by first | omega | assumption)) gX1_loadLayout_X1_place rfl rfl rfl hdX1_place ⟨Nat.le_of_ble_eq_true rfl, Nat.le_of_ble_eq_true rfl⟩ 0 1 rfl rfl rfl rfl rfl (Nat.le_of_ble_eq_true rfl) dX1_loadLayout_26 ⟨Nat.zero_le _, Nat.zero_le _⟩ (fun W1 H locs hp hV => ?_)
          subst hp
          have hV : qV D A s.heap (wC h ga gb cA n tx T C K (up (ldL L tx j) j (tx j)) (up (ldP P tx j) (tx j) j) u ua ub) H locs := hV
          refine q_iinc (x := j) (z := j + 1) (lv' := [(1, .int (nI (j + 1))), (0, .ref (h 0))]) hx hb dX1_loadLayout_29 hl (k := 1) rfl (dd := 1) rfl (by omega) (by decide) rfl (fun ls hl => ?_)
          refine lv_goto (tgt := 12) hx hb dX1_loadLayout_32 (by decide) ?_
          exact ih12  (j + 1) _ _ _ (by omega) (by first | omega | assumption) hV (lv_sub hl [1, 0] rfl)
    exact lp12 13 0 _ _ _ (by omega) (by first | omega | assumption) hV (lv_sub hl [1, 0] rfl)
  · refine lv_ldc (v := -1000004) hx hb hown (hts _ (List.mem_of_getElem? (i := 1) rfl)) dX1_loadLayout_7 ?_
    have e1 : ¬ isLy n tx = 1 := by omega
    exact q_iret (W1 := wC h ga gb cA n tx T C K L P u ua ub) hx hb hr hlocks hV dX1_loadLayout_9 ⟨by unfold aLd; rw [if_neg e1], by unfold nLd yLd; rw [if_neg e1, if_neg e1]⟩
abbrev rm_X1_letterAt : Room := { frames := 1, cells := 0, slots := 0, locals := 20 }
set_option maxHeartbeats 4000000 in
set_option maxRecDepth 100000 in
theorem c_X1_letterAt (l : Launch) (D : va_G) (h : Nat → Nat) (ga : Nat) (gb : Nat) (cA : ClassId) (n : Nat) (tx : Nat → Nat) (T : Nat) (C : Nat) (K : Nat) (L : Nat → Nat) (P : Nat → Nat) (u : Nat) (ua : Nat → Nat) (ub : Nat → Nat) (v1 : Int32)   : CTi l D cA yX1_letterAt wsX1_letterAt rm_X1_letterAt [.ref (h 0), .int v1] (wC h ga gb cA n tx T C K L P u ua ub) (fun r W1 => r = aAt L v1 ∧ W1 = wC h ga gb cA n tx T C K L P u ua ub) := by
  refine CTi.mk (cc := cX1_letterAt) (maxL := 2) (ret := some .int) (by decide) rfl (Nat.le_of_ble_eq_true rfl) ?_
  intro p e s m below meth c A ls E hV hl
  obtain ⟨hx, hb, hml, hr, hown, hts, hlocks, hK, hA, hN⟩ := E
  have hown : s.vm.findClass RX1 = some m.cls := hown
  have hin1 : ∀ w ∈ wsX10, w ∈ wsX1_letterAt := fun _ h => List.mem_cons_of_mem _ (List.mem_append_right _ h)
  have hl : lv_has ls 2 [(0, .ref (h 0)), (1, .int v1)] := hl
  refine lv_iload_n hx hb dX1_letterAt_0 rfl (lv_at hl 1 rfl) ?_
  refine k_S_i (w0 := wC h ga gb cA n tx T C K L P u ua ub) (wc := ([] : va_W)) (As := [.int v1]) (rest := []) hx hb hml hown hts hK hA hN hV hl.1 (c_X1_isNumber l D cA v1  ) gX1_letterAt_X1_isNumber rfl rfl rfl hdX1_isNumber ⟨Nat.le_of_ble_eq_true rfl, Nat.le_of_ble_eq_true rfl⟩ rfl rfl (Nat.le_of_ble_eq_true rfl) dX1_letterAt_1 ⟨Nat.zero_le _, Nat.zero_le _⟩ (fun r W1 H locs hp hV => ?_)
  obtain ⟨hp1, hp2⟩ := hp
  replace hp1 := hp1.symm
  subst hp1
  replace hp2 := hp2.symm
  subst hp2
  have hV : qV D A s.heap (wC h ga gb cA n tx T C K L P u ua ub) H locs := hV
  have f1 := okR_le 0 11 v1
  refine q_if_eq (x := (okR 0 11 v1)) (tgt := 16) hx hb dX1_letterAt_4 (by decide) (by omega) (fun c4 => ?_) (fun c4 => ?_)
  · refine lv_ldc (v := -1000003) hx hb hown (hts _ (List.mem_of_getElem? (i := 2) rfl)) dX1_letterAt_16 ?_
    exact q_iret (W1 := wC h ga gb cA n tx T C K L P u ua ub) hx hb hr hlocks hV dX1_letterAt_18 ⟨by first | exact (aAt_ok hk1).symm | exact (aAt_no c4).symm, rfl⟩
  · obtain ⟨k1, -, hk1, rfl⟩ := okR_1 (by decide) c4
    refine lv_aload_n hx hb dX1_letterAt_7 rfl (lv_at hl 0 rfl) ?_
    refine q_get (C := RX1) (T := TX1) (N := 12) (ci := 1) (v := .ref (h 2)) hx hb hts hin1 hown hK hV 0 rfl rfl 5 (by decide) (List.mem_of_getElem? (i := 1) rfl) rfl dX1_letterAt_8 ?_
    refine lv_iload_n hx hb dX1_letterAt_11 rfl (lv_at hl 1 rfl) ?_
    refine q_iald (n := 12) (k := k1) (f := L) hx hb hK hV 2 rfl (by omega) (by omega) dX1_letterAt_12 ?_
    refine lv_goto (tgt := 18) hx hb dX1_letterAt_13 (by decide) ?_
    exact q_iret (W1 := wC h ga gb cA n tx T C K L P u ua ub) hx hb hr hlocks hV dX1_letterAt_18 ⟨by first | exact (aAt_ok hk1).symm | exact (aAt_no c4).symm, rfl⟩
abbrev rm_X1_positionOf : Room := { frames := 1, cells := 0, slots := 0, locals := 20 }
set_option maxHeartbeats 4000000 in
set_option maxRecDepth 100000 in
theorem c_X1_positionOf (l : Launch) (D : va_G) (h : Nat → Nat) (ga : Nat) (gb : Nat) (cA : ClassId) (n : Nat) (tx : Nat → Nat) (T : Nat) (C : Nat) (K : Nat) (L : Nat → Nat) (P : Nat → Nat) (u : Nat) (ua : Nat → Nat) (ub : Nat → Nat) (v1 : Int32)   : CTi l D cA yX1_positionOf wsX1_positionOf rm_X1_positionOf [.ref (h 0), .int v1] (wC h ga gb cA n tx T C K L P u ua ub) (fun r W1 => r = aAt P v1 ∧ W1 = wC h ga gb cA n tx T C K L P u ua ub) := by
  refine CTi.mk (cc := cX1_positionOf) (maxL := 2) (ret := some .int) (by decide) rfl (Nat.le_of_ble_eq_true rfl) ?_
  intro p e s m below meth c A ls E hV hl
  obtain ⟨hx, hb, hml, hr, hown, hts, hlocks, hK, hA, hN⟩ := E
  have hown : s.vm.findClass RX1 = some m.cls := hown
  have hin1 : ∀ w ∈ wsX10, w ∈ wsX1_positionOf := fun _ h => List.mem_cons_of_mem _ (List.mem_append_right _ h)
  have hl : lv_has ls 2 [(0, .ref (h 0)), (1, .int v1)] := hl
  refine lv_iload_n hx hb dX1_positionOf_0 rfl (lv_at hl 1 rfl) ?_
  refine k_S_i (w0 := wC h ga gb cA n tx T C K L P u ua ub) (wc := ([] : va_W)) (As := [.int v1]) (rest := []) hx hb hml hown hts hK hA hN hV hl.1 (c_X1_isNumber l D cA v1  ) gX1_positionOf_X1_isNumber rfl rfl rfl hdX1_isNumber ⟨Nat.le_of_ble_eq_true rfl, Nat.le_of_ble_eq_true rfl⟩ rfl rfl (Nat.le_of_ble_eq_true rfl) dX1_positionOf_1 ⟨Nat.zero_le _, Nat.zero_le _⟩ (fun r W1 H locs hp hV => ?_)
  obtain ⟨hp1, hp2⟩ := hp
  replace hp1 := hp1.symm
  subst hp1
  replace hp2 := hp2.symm
  subst hp2
  have hV : qV D A s.heap (wC h ga gb cA n tx T C K L P u ua ub) H locs := hV
  have f1 := okR_le 0 11 v1
  refine q_if_eq (x := (okR 0 11 v1)) (tgt := 16) hx hb dX1_positionOf_4 (by decide) (by omega) (fun c4 => ?_) (fun c4 => ?_)
  · refine lv_ldc (v := -1000003) hx hb hown (hts _ (List.mem_of_getElem? (i := 2) rfl)) dX1_positionOf_16 ?_
    exact q_iret (W1 := wC h ga gb cA n tx T C K L P u ua ub) hx hb hr hlocks hV dX1_positionOf_18 ⟨by first | exact (aAt_ok hk1).symm | exact (aAt_no c4).symm, rfl⟩
  · obtain ⟨k1, -, hk1, rfl⟩ := okR_1 (by decide) c4
    refine lv_aload_n hx hb dX1_positionOf_7 rfl (lv_at hl 0 rfl) ?_
    refine q_get (C := RX1) (T := TX1) (N := 12) (ci := 1) (v := .ref (h 3)) hx hb hts hin1 hown hK hV 0 rfl rfl 6 (by decide) (List.mem_of_getElem? (i := 1) rfl) rfl dX1_positionOf_8 ?_
    refine lv_iload_n hx hb dX1_positionOf_11 rfl (lv_at hl 1 rfl) ?_
    refine q_iald (n := 12) (k := k1) (f := P) hx hb hK hV 3 rfl (by omega) (by omega) dX1_positionOf_12 ?_
    refine lv_goto (tgt := 18) hx hb dX1_positionOf_13 (by decide) ?_
    exact q_iret (W1 := wC h ga gb cA n tx T C K L P u ua ub) hx hb hr hlocks hV dX1_positionOf_18 ⟨by first | exact (aAt_ok hk1).symm | exact (aAt_no c4).symm, rfl⟩
abbrev rm_X1_forgetOldestSwap : Room := { frames := 0, cells := 0, slots := 0, locals := 0 }
set_option maxHeartbeats 4000000 in
set_option maxRecDepth 100000 in
theorem c_X1_forgetOldestSwap (l : Launch) (D : va_G) (h : Nat → Nat) (ga : Nat) (gb : Nat) (cA : ClassId) (n : Nat) (tx : Nat → Nat) (T : Nat) (C : Nat) (K : Nat) (L : Nat → Nat) (P : Nat → Nat) (u : Nat) (ua : Nat → Nat) (ub : Nat → Nat)    : CTv l D cA yX1_forgetOldestSwap wsX1_forgetOldestSwap rm_X1_forgetOldestSwap [.ref (h 0)] (wC h ga gb cA n tx T C K L P u ua ub) (fun W1 => W1 = wC h ga gb cA n tx T C K L P 29 (shf ua 29) (shf ub 29)) := by
  refine CTv.mk (cc := cX1_forgetOldestSwap) (maxL := 2) (ret := none) (by decide) rfl (Nat.le_of_ble_eq_true rfl) ?_
  intro p e s m below meth c A ls E hV hl
  obtain ⟨hx, hb, hml, hr, hown, hts, hlocks, hK, hA, hN⟩ := E
  have hown : s.vm.findClass RX1 = some m.cls := hown
  have hin1 : ∀ w ∈ wsX10, w ∈ wsX1_forgetOldestSwap := fun _ h => List.mem_cons_of_mem _ (List.mem_append_right _ h)
  have hl : lv_has ls 2 [(0, .ref (h 0))] := hl
  refine lv_iconst (v := nI 1) hx hb dX1_forgetOldestSwap_0 (by decide) ?_
  refine lv_istore_n (lv' := [(1, .int (nI 1)), (0, .ref (h 0))]) hx hb dX1_forgetOldestSwap_1 rfl hl (by decide) rfl (fun ls hl => ?_)
  have lp2 : ∀ (d2 : Nat) (j : Nat) (H : Heap) (locs : List Loc) (ls : Array Slot), (30 ≤ j + d2) → (j ≤ 29) → qV D A s.heap (wC h ga gb cA n tx T C K L P u (shf ua j) (shf ub j)) H locs → lv_has ls 2 [(0, .ref (h 0)), (1, .int (nI (j + 1)))] → W p l e rm_X1_forgetOldestSwap s m ([.ref (h 0)] : List Value).toArray below meth c H locs 0 0 (MQ below (va_Qv (fun W1 => W1 = wC h ga gb cA n tx T C K L P 29 (shf ua 29) (shf ub 29)) (cPost D A) A) ([.ref (h 0)] : List Value).toArray s 0 0 A) (F0 m 2 ls []) := by
    intro d2
    induction d2 with
    | zero => intro j H locs ls hm2 hj hV hl; exfalso; omega
    | succ d2 ih2 =>
      intro j H locs ls hm2 hj hV hl
      refine lv_iload_n hx hb dX1_forgetOldestSwap_2 rfl (lv_at hl 1 rfl) ?_
      refine lv_bipush (v := nI 30) hx hb dX1_forgetOldestSwap_3 (by decide) ?_
      refine q_icmp_ge (x := j + 1) (y := 30) (tgt := 42) hx hb dX1_forgetOldestSwap_5 (by decide) (by omega) (by omega) (fun c5 => ?_) (fun c5 => ?_)
      · refine lv_aload_n hx hb dX1_forgetOldestSwap_42 rfl (lv_at hl 0 rfl) ?_
        refine lv_bipush (v := nI 29) hx hb dX1_forgetOldestSwap_43 (by decide) ?_
        refine q_put (C := RX1) (T := TX1) (N := 12) (ci := 1) (v := .int (nI 29)) (wC h ga gb cA n tx T C K L P 29 (shf ua j) (shf ub j)) hx hb hts hin1 tyX1 tyX1_ok nmX1 hown hK hV 0 rfl rfl 9 (by decide) (List.mem_of_getElem? (i := 3) rfl) rfl rfl rfl (Nat.le_of_ble_eq_true rfl) rfl dX1_forgetOldestSwap_45 (fun H locs hV => ?_)
        have ej : j = 29 := by omega
        exact q_vret (W1 := wC h ga gb cA n tx T C K L P 29 (shf ua j) (shf ub j)) hx hb hr hlocks hV dX1_forgetOldestSwap_48 (by rw [ej])
      · refine lv_aload_n hx hb dX1_forgetOldestSwap_8 rfl (lv_at hl 0 rfl) ?_
        refine q_get (C := RX1) (T := TX1) (N := 12) (ci := 1) (v := .ref (h 4)) hx hb hts hin1 hown hK hV 0 rfl rfl 7 (by decide) (List.mem_of_getElem? (i := 1) rfl) rfl dX1_forgetOldestSwap_9 ?_
        refine lv_iload_n hx hb dX1_forgetOldestSwap_12 rfl (lv_at hl 1 rfl) ?_
        refine lv_iconst (v := nI 1) hx hb dX1_forgetOldestSwap_13 (by decide) ?_
        refine q_isub2 (x := j + 1) (y := 1) (z := j) hx hb (by omega) dX1_forgetOldestSwap_14 ?_
        refine lv_aload_n hx hb dX1_forgetOldestSwap_15 rfl (lv_at hl 0 rfl) ?_
        refine q_get (C := RX1) (T := TX1) (N := 12) (ci := 1) (v := .ref (h 4)) hx hb hts hin1 hown hK hV 0 rfl rfl 7 (by decide) (List.mem_of_getElem? (i := 1) rfl) rfl dX1_forgetOldestSwap_16 ?_
        refine lv_iload_n hx hb dX1_forgetOldestSwap_19 rfl (lv_at hl 1 rfl) ?_
        refine q_iald (n := 30) (k := j + 1) (f := shf ua j) hx hb hK hV 4 rfl (by omega) (by omega) dX1_forgetOldestSwap_20 ?_
        refine q_iast (n := 30) (k := j) (v := ((shf ua j) (j + 1))) (f := shf ua j) (wC h ga gb cA n tx T C K L P u (up (shf ua j) j ((shf ua j) (j + 1))) (shf ub j)) hx hb hK hV 4 rfl (by omega) (by decide) rfl dX1_forgetOldestSwap_21 (fun H locs hV => ?_)
        refine lv_aload_n hx hb dX1_forgetOldestSwap_22 rfl (lv_at hl 0 rfl) ?_
        refine q_get (C := RX1) (T := TX1) (N := 12) (ci := 1) (v := .ref (h 5)) hx hb hts hin1 hown hK hV 0 rfl rfl 8 (by decide) (List.mem_of_getElem? (i := 2) rfl) rfl dX1_forgetOldestSwap_23 ?_
        refine lv_iload_n hx hb dX1_forgetOldestSwap_26 rfl (lv_at hl 1 rfl) ?_
        refine lv_iconst (v := nI 1) hx hb dX1_forgetOldestSwap_27 (by decide) ?_
        refine q_isub2 (x := j + 1) (y := 1) (z := j) hx hb (by omega) dX1_forgetOldestSwap_28 ?_
        refine lv_aload_n hx hb dX1_forgetOldestSwap_29 rfl (lv_at hl 0 rfl) ?_
        refine q_get (C := RX1) (T := TX1) (N := 12) (ci := 1) (v := .ref (h 5)) hx hb hts hin1 hown hK hV 0 rfl rfl 8 (by decide) (List.mem_of_getElem? (i := 2) rfl) rfl dX1_forgetOldestSwap_30 ?_
        refine lv_iload_n hx hb dX1_forgetOldestSwap_33 rfl (lv_at hl 1 rfl) ?_
        refine q_iald (n := 30) (k := j + 1) (f := shf ub j) hx hb hK hV 5 rfl (by omega) (by omega) dX1_forgetOldestSwap_34 ?_
        refine q_iast (n := 30) (k := j) (v := ((shf ub j) (j + 1))) (f := shf ub j) (wC h ga gb cA n tx T C K L P u (up (shf ua j) j ((shf ua j) (j + 1))) (up (shf ub j) j ((shf ub j) (j + 1)))) hx hb hK hV 5 rfl (by omega) (by decide) rfl dX1_forgetOldestSwap_35 (fun H locs hV => ?_)
        refine q_iinc (x := j + 1) (z := j + 2) (lv' := [(1, .int (nI (j + 2))), (0, .ref (h 0))]) hx hb dX1_forgetOldestSwap_36 hl (k := 1) rfl (dd := 1) rfl (by omega) (by decide) rfl (fun ls hl => ?_)
        refine lv_goto (tgt := 2) hx hb dX1_forgetOldestSwap_39 (by decide) ?_
        have e1 : shf ua (j + 1) = up (shf ua j) j (shf ua j (j + 1)) := by rw [shf_at, shf_s]
        have e2 : shf ub (j + 1) = up (shf ub j) j (shf ub j (j + 1)) := by rw [shf_at, shf_s]
        exact ih2  (j + 1) _ _ _ (by omega) (by first | omega | assumption) (by rw [e1, e2]; exact hV) (lv_sub hl [1, 0] rfl)
  exact lp2 30 0 _ _ _ (by omega) (by first | omega | assumption) (by rw [shf_0, shf_0]; exact hV) (lv_sub hl [1, 0] rfl)
abbrev rm_X1_makeSwap : Room := { frames := 2, cells := 0, slots := 0, locals := 45 }
set_option maxHeartbeats 4000000 in
set_option maxRecDepth 100000 in
theorem c_X1_makeSwap (l : Launch) (D : va_G) (h : Nat → Nat) (ga : Nat) (gb : Nat) (cA : ClassId) (n : Nat) (tx : Nat → Nat) (T : Nat) (C : Nat) (K : Nat) (L : Nat → Nat) (P : Nat → Nat) (u : Nat) (ua : Nat → Nat) (ub : Nat → Nat) (a : Nat) (b : Nat)  (h_a : a < 12) (h_b : b < 12) (hp : perm L P) (hu : u ≤ 30) : CTv l D cA yX1_makeSwap wsX1_makeSwap rm_X1_makeSwap [.ref (h 0), .int (nI a), .int (nI b)] (wC h ga gb cA n tx T C K L P u ua ub) (fun W1 => W1 = wC h ga gb cA n tx T C K (exL L a b) (exP L P a b) (pshU u) (pshA ua u a) (pshA ub u b)) := by
  refine CTv.mk (cc := cX1_makeSwap) (maxL := 3) (ret := none) (by decide) rfl (Nat.le_of_ble_eq_true rfl) ?_
  intro p e s m below meth c A ls E hV hl
  obtain ⟨hx, hb, hml, hr, hown, hts, hlocks, hK, hA, hN⟩ := E
  have hown : s.vm.findClass RX1 = some m.cls := hown
  have hin1 : ∀ w ∈ wsX10, w ∈ wsX1_makeSwap := fun _ h => List.mem_cons_of_mem _ (List.mem_append_right _ h)
  have hl : lv_has ls 3 [(0, .ref (h 0)), (1, .int (nI a)), (2, .int (nI b))] := hl
  refine lv_aload_n hx hb dX1_makeSwap_0 rfl (lv_at hl 0 rfl) ?_
  refine lv_iload_n hx hb dX1_makeSwap_1 rfl (lv_at hl 1 rfl) ?_
  refine lv_iload_n hx hb dX1_makeSwap_2 rfl (lv_at hl 2 rfl) ?_
  refine k_V_v (w0 := ([] : va_W)) (wc := wC h ga gb cA n tx T C K L P u ua ub) (b := h 0) (As := [.int (nI a), .int (nI b)]) (rest := []) hx hb hml hown hts hK hA hN hV hl.1 (c_X1_exchange l D h ga gb cA n tx T C K L P u ua ub a b  (by first | omega | assumption) (by first | omega | assumption) (by first | omega | assumption)) gX1_makeSwap_X1_exchange rfl rfl rfl hdX1_exchange ⟨Nat.le_of_ble_eq_true rfl, Nat.le_of_ble_eq_true rfl⟩ 0 1 rfl rfl rfl rfl rfl (Nat.le_of_ble_eq_true rfl) dX1_makeSwap_3 ⟨Nat.zero_le _, Nat.zero_le _⟩ (fun W1 H locs hp hV => ?_)
  subst hp
  have hV : qV D A s.heap (wC h ga gb cA n tx T C K (exL L a b) (exP L P a b) u ua ub) H locs := hV
  refine lv_aload_n hx hb dX1_makeSwap_6 rfl (lv_at hl 0 rfl) ?_
  refine q_get (C := RX1) (T := TX1) (N := 12) (ci := 1) (v := .int (nI u)) hx hb hts hin1 hown hK hV 0 rfl rfl 9 (by decide) (List.mem_of_getElem? (i := 1) rfl) rfl dX1_makeSwap_7 ?_
  refine lv_bipush (v := nI 30) hx hb dX1_makeSwap_10 (by decide) ?_
  refine q_icmp_lt (x := u) (y := 30) (tgt := 19) hx hb dX1_makeSwap_12 (by decide) (by omega) (by omega) (fun c12 => ?_) (fun c12 => ?_)
  · refine lv_aload_n hx hb dX1_makeSwap_19 rfl (lv_at hl 0 rfl) ?_
    refine q_get (C := RX1) (T := TX1) (N := 12) (ci := 1) (v := .ref (h 4)) hx hb hts hin1 hown hK hV 0 rfl rfl 7 (by decide) (List.mem_of_getElem? (i := 2) rfl) rfl dX1_makeSwap_20 ?_
    refine lv_aload_n hx hb dX1_makeSwap_23 rfl (lv_at hl 0 rfl) ?_
    refine q_get (C := RX1) (T := TX1) (N := 12) (ci := 1) (v := .int (nI u)) hx hb hts hin1 hown hK hV 0 rfl rfl 9 (by decide) (List.mem_of_getElem? (i := 1) rfl) rfl dX1_makeSwap_24 ?_
    refine lv_iload_n hx hb dX1_makeSwap_27 rfl (lv_at hl 1 rfl) ?_
    refine q_iast (n := 30) (k := u) (v := a) (f := ua) (wC h ga gb cA n tx T C K (exL L a b) (exP L P a b) u (up ua u a) ub) hx hb hK hV 4 rfl (by omega) (by decide) rfl dX1_makeSwap_28 (fun H locs hV => ?_)
    refine lv_aload_n hx hb dX1_makeSwap_29 rfl (lv_at hl 0 rfl) ?_
    refine q_get (C := RX1) (T := TX1) (N := 12) (ci := 1) (v := .ref (h 5)) hx hb hts hin1 hown hK hV 0 rfl rfl 8 (by decide) (List.mem_of_getElem? (i := 3) rfl) rfl dX1_makeSwap_30 ?_
    refine lv_aload_n hx hb dX1_makeSwap_33 rfl (lv_at hl 0 rfl) ?_
    refine q_get (C := RX1) (T := TX1) (N := 12) (ci := 1) (v := .int (nI u)) hx hb hts hin1 hown hK hV 0 rfl rfl 9 (by decide) (List.mem_of_getElem? (i := 1) rfl) rfl dX1_makeSwap_34 ?_
    refine lv_iload_n hx hb dX1_makeSwap_37 rfl (lv_at hl 2 rfl) ?_
    refine q_iast (n := 30) (k := u) (v := b) (f := ub) (wC h ga gb cA n tx T C K (exL L a b) (exP L P a b) u (up ua u a) (up ub u b)) hx hb hK hV 5 rfl (by omega) (by decide) rfl dX1_makeSwap_38 (fun H locs hV => ?_)
    refine lv_aload_n hx hb dX1_makeSwap_39 rfl (lv_at hl 0 rfl) ?_
    refine lv_dup hx hb dX1_makeSwap_40 rfl ?_
    refine q_get (C := RX1) (T := TX1) (N := 12) (ci := 1) (v := .int (nI u)) hx hb hts hin1 hown hK hV 0 rfl rfl 9 (by decide) (List.mem_of_getElem? (i := 1) rfl) rfl dX1_makeSwap_41 ?_
    refine lv_iconst (v := nI 1) hx hb dX1_makeSwap_44 (by decide) ?_
    refine q_iadd2 (x := u) (y := 1) (z := u + 1) hx hb (by omega) dX1_makeSwap_45 ?_
    refine q_put (C := RX1) (T := TX1) (N := 12) (ci := 1) (v := .int (nI (u + 1))) (wC h ga gb cA n tx T C K (exL L a b) (exP L P a b) (u + 1) (up ua u a) (up ub u b)) hx hb hts hin1 tyX1 tyX1_ok nmX1 hown hK hV 0 rfl rfl 9 (by decide) (List.mem_of_getElem? (i := 1) rfl) rfl rfl rfl (Nat.le_of_ble_eq_true rfl) rfl dX1_makeSwap_46 (fun H locs hV => ?_)
    exact q_vret (W1 := wC h ga gb cA n tx T C K (exL L a b) (exP L P a b) (u + 1) (up ua u a) (up ub u b)) hx hb hr hlocks hV dX1_makeSwap_49 (by unfold pshU pshA; rw [if_pos (by omega), if_pos (by omega), if_pos (by omega)])
  · refine lv_aload_n hx hb dX1_makeSwap_15 rfl (lv_at hl 0 rfl) ?_
    refine k_V_v (w0 := ([] : va_W)) (wc := wC h ga gb cA n tx T C K (exL L a b) (exP L P a b) u ua ub) (b := h 0) (As := []) (rest := []) hx hb hml hown hts hK hA hN hV hl.1 (c_X1_forgetOldestSwap l D h ga gb cA n tx T C K (exL L a b) (exP L P a b) u ua ub   ) gX1_makeSwap_X1_forgetOldestSwap rfl rfl rfl hdX1_forgetOldestSwap ⟨Nat.le_of_ble_eq_true rfl, Nat.le_of_ble_eq_true rfl⟩ 0 1 rfl rfl rfl rfl rfl (Nat.le_of_ble_eq_true rfl) dX1_makeSwap_16 ⟨Nat.zero_le _, Nat.zero_le _⟩ (fun W1 H locs hp hV => ?_)
    subst hp
    have hV : qV D A s.heap (wC h ga gb cA n tx T C K (exL L a b) (exP L P a b) 29 (shf ua 29) (shf ub 29)) H locs := hV
    refine lv_aload_n hx hb dX1_makeSwap_19 rfl (lv_at hl 0 rfl) ?_
    refine q_get (C := RX1) (T := TX1) (N := 12) (ci := 1) (v := .ref (h 4)) hx hb hts hin1 hown hK hV 0 rfl rfl 7 (by decide) (List.mem_of_getElem? (i := 2) rfl) rfl dX1_makeSwap_20 ?_
    refine lv_aload_n hx hb dX1_makeSwap_23 rfl (lv_at hl 0 rfl) ?_
    refine q_get (C := RX1) (T := TX1) (N := 12) (ci := 1) (v := .int (nI 29)) hx hb hts hin1 hown hK hV 0 rfl rfl 9 (by decide) (List.mem_of_getElem? (i := 1) rfl) rfl dX1_makeSwap_24 ?_
    refine lv_iload_n hx hb dX1_makeSwap_27 rfl (lv_at hl 1 rfl) ?_
    refine q_iast (n := 30) (k := 29) (v := a) (f := shf ua 29) (wC h ga gb cA n tx T C K (exL L a b) (exP L P a b) 29 (up (shf ua 29) 29 a) (shf ub 29)) hx hb hK hV 4 rfl (by omega) (by decide) rfl dX1_makeSwap_28 (fun H locs hV => ?_)
    refine lv_aload_n hx hb dX1_makeSwap_29 rfl (lv_at hl 0 rfl) ?_
    refine q_get (C := RX1) (T := TX1) (N := 12) (ci := 1) (v := .ref (h 5)) hx hb hts hin1 hown hK hV 0 rfl rfl 8 (by decide) (List.mem_of_getElem? (i := 3) rfl) rfl dX1_makeSwap_30 ?_
    refine lv_aload_n hx hb dX1_makeSwap_33 rfl (lv_at hl 0 rfl) ?_
    refine q_get (C := RX1) (T := TX1) (N := 12) (ci := 1) (v := .int (nI 29)) hx hb hts hin1 hown hK hV 0 rfl rfl 9 (by decide) (List.mem_of_getElem? (i := 1) rfl) rfl dX1_makeSwap_34 ?_
    refine lv_iload_n hx hb dX1_makeSwap_37 rfl (lv_at hl 2 rfl) ?_
    refine q_iast (n := 30) (k := 29) (v := b) (f := shf ub 29) (wC h ga gb cA n tx T C K (exL L a b) (exP L P a b) 29 (up (shf ua 29) 29 a) (up (shf ub 29) 29 b)) hx hb hK hV 5 rfl (by omega) (by decide) rfl dX1_makeSwap_38 (fun H locs hV => ?_)
    refine lv_aload_n hx hb dX1_makeSwap_39 rfl (lv_at hl 0 rfl) ?_
    refine lv_dup hx hb dX1_makeSwap_40 rfl ?_
    refine q_get (C := RX1) (T := TX1) (N := 12) (ci := 1) (v := .int (nI 29)) hx hb hts hin1 hown hK hV 0 rfl rfl 9 (by decide) (List.mem_of_getElem? (i := 1) rfl) rfl dX1_makeSwap_41 ?_
    refine lv_iconst (v := nI 1) hx hb dX1_makeSwap_44 (by decide) ?_
    refine q_iadd2 (x := 29) (y := 1) (z := 30) hx hb (by omega) dX1_makeSwap_45 ?_
    refine q_put (C := RX1) (T := TX1) (N := 12) (ci := 1) (v := .int (nI 30)) (wC h ga gb cA n tx T C K (exL L a b) (exP L P a b) 30 (up (shf ua 29) 29 a) (up (shf ub 29) 29 b)) hx hb hts hin1 tyX1 tyX1_ok nmX1 hown hK hV 0 rfl rfl 9 (by decide) (List.mem_of_getElem? (i := 1) rfl) rfl rfl rfl (Nat.le_of_ble_eq_true rfl) rfl dX1_makeSwap_46 (fun H locs hV => ?_)
    have hV := hV.arr 4 rfl (g := pshA ua u a) (pshA_cls (by omega))
    have hV := hV.arr 5 rfl (g := pshA ub u b) (pshA_cls (by omega))
    exact q_vret (W1 := wC h ga gb cA n tx T C K (exL L a b) (exP L P a b) 30 (pshA ua u a) (pshA ub u b)) hx hb hr hlocks hV dX1_makeSwap_49 (by unfold pshU; rw [if_neg (by omega)])
abbrev rm_X1_closeness : Room := { frames := 1, cells := 0, slots := 0, locals := 21 }
set_option maxHeartbeats 4000000 in
set_option maxRecDepth 100000 in
theorem c_X1_closeness (l : Launch) (D : va_G) (h : Nat → Nat) (ga : Nat) (gb : Nat) (cA : ClassId) (n : Nat) (tx : Nat → Nat) (T : Nat) (C : Nat) (K : Nat) (L : Nat → Nat) (P : Nat → Nat) (u : Nat) (ua : Nat → Nat) (ub : Nat → Nat) (a : Nat) (b : Nat)  (h_a : a < 12) (h_b : b < 12) (hC : C ≤ 5) (hp : perm L P) : CTi l D cA yX1_closeness wsX1_closeness rm_X1_closeness [.ref (h 0), .int (nI a), .int (nI b)] (wC h ga gb cA n tx T C K L P u ua ub) (fun r W1 => r = nI (clos C P a b) ∧ W1 = wC h ga gb cA n tx T C K L P u ua ub) := by
  refine CTi.mk (cc := cX1_closeness) (maxL := 4) (ret := some .int) (by decide) rfl (Nat.le_of_ble_eq_true rfl) ?_
  intro p e s m below meth c A ls E hV hl
  obtain ⟨hx, hb, hml, hr, hown, hts, hlocks, hK, hA, hN⟩ := E
  have hown : s.vm.findClass RX1 = some m.cls := hown
  have hin1 : ∀ w ∈ wsX10, w ∈ wsX1_closeness := fun _ h => List.mem_cons_of_mem _ (List.mem_append_right _ h)
  have hl : lv_has ls 4 [(0, .ref (h 0)), (1, .int (nI a)), (2, .int (nI b))] := hl
  refine lv_iload_n hx hb dX1_closeness_0 rfl (lv_at hl 1 rfl) ?_
  refine lv_iload_n hx hb dX1_closeness_1 rfl (lv_at hl 2 rfl) ?_
  refine q_icmp_ne (x := a) (y := b) (tgt := 7) hx hb dX1_closeness_2 (by decide) (by omega) (by omega) (fun c2 => ?_) (fun c2 => ?_)
  · refine lv_aload_n hx hb dX1_closeness_7 rfl (lv_at hl 0 rfl) ?_
    refine q_get (C := RX1) (T := TX1) (N := 12) (ci := 1) (v := .ref (h 3)) hx hb hts hin1 hown hK hV 0 rfl rfl 6 (by decide) (List.mem_of_getElem? (i := 1) rfl) rfl dX1_closeness_8 ?_
    refine lv_iload_n hx hb dX1_closeness_11 rfl (lv_at hl 1 rfl) ?_
    refine q_iald (n := 12) (k := a) (f := P) hx hb hK hV 3 rfl (by omega) (by omega) dX1_closeness_12 ?_
    have f1 := hp.P (i := a) (by omega)
    refine lv_aload_n hx hb dX1_closeness_13 rfl (lv_at hl 0 rfl) ?_
    refine q_get (C := RX1) (T := TX1) (N := 12) (ci := 1) (v := .ref (h 3)) hx hb hts hin1 hown hK hV 0 rfl rfl 6 (by decide) (List.mem_of_getElem? (i := 1) rfl) rfl dX1_closeness_14 ?_
    refine lv_iload_n hx hb dX1_closeness_17 rfl (lv_at hl 2 rfl) ?_
    refine q_iald (n := 12) (k := b) (f := P) hx hb hK hV 3 rfl (by omega) (by omega) dX1_closeness_18 ?_
    have f2 := hp.P (i := b) (by omega)
    refine lv_isub hx hb dX1_closeness_19 ?_
    refine q_abs (x := (P a)) (y := (P b)) hx hb (hml.trans hl.1.symm) hown (hts _ (List.mem_of_getElem? (i := 2) rfl)) (hts _ (List.mem_of_getElem? (i := 3) rfl)) (hts _ (List.mem_of_getElem? (i := 4) rfl)) (hts _ (List.mem_of_getElem? (i := 5) rfl)) (by decide) (by decide) (Nat.zero_le _) (Nat.zero_le _) (by omega) (by omega) dX1_closeness_20 ?_
    refine lv_istore_n (lv' := [(3, .int (nI (((P a) - (P b)) + ((P b) - (P a))))), (0, .ref (h 0)), (1, .int (nI a)), (2, .int (nI b))]) hx hb dX1_closeness_23 rfl hl (by decide) rfl (fun ls hl => ?_)
    refine lv_iconst (v := nI 0) hx hb dX1_closeness_24 (by decide) ?_
    refine lv_aload_n hx hb dX1_closeness_25 rfl (lv_at hl 1 rfl) ?_
    refine q_get (C := RX1) (T := TX1) (N := 12) (ci := 1) (v := .int (nI C)) hx hb hts hin1 hown hK hV 0 rfl rfl 3 (by decide) (List.mem_of_getElem? (i := 6) rfl) rfl dX1_closeness_26 ?_
    refine lv_iconst (v := nI 1) hx hb dX1_closeness_29 (by decide) ?_
    refine q_iadd2 (x := C) (y := 1) (z := C + 1) hx hb (by omega) dX1_closeness_30 ?_
    refine lv_iload_n hx hb dX1_closeness_31 rfl (lv_at hl 0 rfl) ?_
    refine lv_isub hx hb dX1_closeness_32 ?_
    refine q_max0 (x := (C + 1)) (y := (((P a) - (P b)) + ((P b) - (P a)))) hx hb (hml.trans hl.1.symm) hown (hts _ (List.mem_of_getElem? (i := 7) rfl)) (hts _ (List.mem_of_getElem? (i := 8) rfl)) (hts _ (List.mem_of_getElem? (i := 4) rfl)) (hts _ (List.mem_of_getElem? (i := 9) rfl)) (by decide) (by decide) (Nat.zero_le _) (Nat.zero_le _) (by omega) (by omega) dX1_closeness_33 ?_
    exact q_iret (W1 := wC h ga gb cA n tx T C K L P u ua ub) hx hb hr hlocks hV dX1_closeness_36 ⟨by unfold clos; rw [if_neg c2], rfl⟩
  · refine lv_iconst (v := nI 0) hx hb dX1_closeness_5 (by decide) ?_
    exact q_iret (W1 := wC h ga gb cA n tx T C K L P u ua ub) hx hb hr hlocks hV dX1_closeness_6 ⟨by unfold clos; rw [if_pos c2], rfl⟩
abbrev rm_X1_cost : Room := { frames := 2, cells := 0, slots := 0, locals := 44 }
set_option maxHeartbeats 4000000 in
set_option maxRecDepth 100000 in
theorem c_X1_cost (l : Launch) (D : va_G) (h : Nat → Nat) (ga : Nat) (gb : Nat) (cA : ClassId) (n : Nat) (tx : Nat → Nat) (T : Nat) (C : Nat) (K : Nat) (L : Nat → Nat) (P : Nat → Nat) (u : Nat) (ua : Nat → Nat) (ub : Nat → Nat)   (hn : n ≤ 60) (htx : ∀ i, tx i < 12) (hC : C ≤ 5) (hp : perm L P) : CTi l D cA yX1_cost wsX1_cost rm_X1_cost [.ref (h 0)] (wC h ga gb cA n tx T C K L P u ua ub) (fun r W1 => r = nI (cst C P tx (n - 1)) ∧ W1 = wC h ga gb cA n tx T C K L P u ua ub) := by
  refine CTi.mk (cc := cX1_cost) (maxL := 3) (ret := some .int) (by decide) rfl (Nat.le_of_ble_eq_true rfl) ?_
  intro p e s m below meth c A ls E hV hl
  obtain ⟨hx, hb, hml, hr, hown, hts, hlocks, hK, hA, hN⟩ := E
  have hown : s.vm.findClass RX1 = some m.cls := hown
  have hin1 : ∀ w ∈ wsX10, w ∈ wsX1_cost := fun _ h => List.mem_cons_of_mem _ (List.mem_append_right _ h)
  have hl : lv_has ls 3 [(0, .ref (h 0))] := hl
  refine lv_iconst (v := nI 0) hx hb dX1_cost_0 (by decide) ?_
  refine lv_istore_n (lv' := [(1, .int (nI 0)), (0, .ref (h 0))]) hx hb dX1_cost_1 rfl hl (by decide) rfl (fun ls hl => ?_)
  refine lv_iconst (v := nI 1) hx hb dX1_cost_2 (by decide) ?_
  refine lv_istore_n (lv' := [(2, .int (nI 1)), (1, .int (nI 0)), (0, .ref (h 0))]) hx hb dX1_cost_3 rfl hl (by decide) rfl (fun ls hl => ?_)
  have lp4 : ∀ (d4 : Nat) (j : Nat) (H : Heap) (locs : List Loc) (ls : Array Slot), (61 ≤ j + d4) → (j = 0 ∨ j + 1 ≤ n) → qV D A s.heap (wC h ga gb cA n tx T C K L P u ua ub) H locs → lv_has ls 3 [(0, .ref (h 0)), (1, .int (nI (cst C P tx j))), (2, .int (nI (j + 1)))] → W p l e rm_X1_cost s m ([.ref (h 0)] : List Value).toArray below meth c H locs 0 0 (MQ below (va_Qi (fun r W1 => r = nI (cst C P tx (n - 1)) ∧ W1 = wC h ga gb cA n tx T C K L P u ua ub) (cPost D A) A) ([.ref (h 0)] : List Value).toArray s 0 0 A) (F0 m 4 ls []) := by
    intro d4
    induction d4 with
    | zero => intro j H locs ls hm4 hj hV hl; exfalso; omega
    | succ d4 ih4 =>
      intro j H locs ls hm4 hj hV hl
      refine lv_iload_n hx hb dX1_cost_4 rfl (lv_at hl 2 rfl) ?_
      refine lv_aload_n hx hb dX1_cost_5 rfl (lv_at hl 0 rfl) ?_
      refine q_get (C := RX1) (T := TX1) (N := 12) (ci := 1) (v := .int (nI n)) hx hb hts hin1 hown hK hV 0 rfl rfl 1 (by decide) (List.mem_of_getElem? (i := 1) rfl) rfl dX1_cost_6 ?_
      refine q_icmp_ge (x := j + 1) (y := n) (tgt := 39) hx hb dX1_cost_9 (by decide) (by omega) (by omega) (fun c9 => ?_) (fun c9 => ?_)
      · refine lv_iload_n hx hb dX1_cost_39 rfl (lv_at hl 1 rfl) ?_
        have ej : j = n - 1 := by omega
        exact q_iret (W1 := wC h ga gb cA n tx T C K L P u ua ub) hx hb hr hlocks hV dX1_cost_40 ⟨by rw [ej], rfl⟩
      · refine lv_iload_n hx hb dX1_cost_12 rfl (lv_at hl 1 rfl) ?_
        refine lv_aload_n hx hb dX1_cost_13 rfl (lv_at hl 0 rfl) ?_
        refine lv_aload_n hx hb dX1_cost_14 rfl (lv_at hl 0 rfl) ?_
        refine q_get (C := RX1) (T := TX1) (N := 12) (ci := 1) (v := .ref (h 1)) hx hb hts hin1 hown hK hV 0 rfl rfl 0 (by decide) (List.mem_of_getElem? (i := 2) rfl) rfl dX1_cost_15 ?_
        refine lv_iload_n hx hb dX1_cost_18 rfl (lv_at hl 2 rfl) ?_
        refine lv_iconst (v := nI 1) hx hb dX1_cost_19 (by decide) ?_
        refine q_isub2 (x := j + 1) (y := 1) (z := j) hx hb (by omega) dX1_cost_20 ?_
        refine q_iald (n := 60) (k := j) (f := tx) hx hb hK hV 1 rfl (by omega) (by omega) dX1_cost_21 ?_
        have f1 := htx j
        refine lv_aload_n hx hb dX1_cost_22 rfl (lv_at hl 0 rfl) ?_
        refine q_get (C := RX1) (T := TX1) (N := 12) (ci := 1) (v := .ref (h 1)) hx hb hts hin1 hown hK hV 0 rfl rfl 0 (by decide) (List.mem_of_getElem? (i := 2) rfl) rfl dX1_cost_23 ?_
        refine lv_iload_n hx hb dX1_cost_26 rfl (lv_at hl 2 rfl) ?_
        refine q_iald (n := 60) (k := j + 1) (f := tx) hx hb hK hV 1 rfl (by omega) (by omega) dX1_cost_27 ?_
        have f2 := htx (j + 1)
        refine k_V_i (w0 := ([] : va_W)) (wc := wC h ga gb cA n tx T C K L P u ua ub) (b := h 0) (As := [.int (nI (tx j)), .int (nI (tx (j + 1)))]) (rest := [.int (nI (cst C P tx j))]) hx hb hml hown hts hK hA hN hV hl.1 (c_X1_closeness l D h ga gb cA n tx T C K L P u ua ub (tx j) (tx (j + 1))  (by first | omega | assumption) (by first | omega | assumption) (by first | omega | assumption) (by first | omega | assumption)) gX1_cost_X1_closeness rfl rfl rfl hdX1_closeness ⟨Nat.le_of_ble_eq_true rfl, Nat.le_of_ble_eq_true rfl⟩ 0 1 rfl rfl rfl rfl rfl (Nat.le_of_ble_eq_true rfl) dX1_cost_28 ⟨Nat.zero_le _, Nat.zero_le _⟩ (fun r W1 H locs hp hV => ?_)
        obtain ⟨hp1, hp2⟩ := hp
        replace hp1 := hp1.symm
        subst hp1
        replace hp2 := hp2.symm
        subst hp2
        have hV : qV D A s.heap (wC h ga gb cA n tx T C K L P u ua ub) H locs := hV
        have f3 := clos_le C P (tx j) (tx (j + 1))
        refine q_iadd2 (x := (cst C P tx j)) (y := (clos C P (tx j) (tx (j + 1)))) (z := (cst C P tx j) + (clos C P (tx j) (tx (j + 1)))) hx hb (by omega) dX1_cost_31 ?_
        refine lv_istore_n (lv' := [(1, .int (nI ((cst C P tx j) + (clos C P (tx j) (tx (j + 1)))))), (0, .ref (h 0)), (2, .int (nI (j + 1)))]) hx hb dX1_cost_32 rfl hl (by decide) rfl (fun ls hl => ?_)
        refine q_iinc (x := j + 1) (z := j + 2) (lv' := [(2, .int (nI (j + 2))), (1, .int (nI ((cst C P tx j) + (clos C P (tx j) (tx (j + 1)))))), (0, .ref (h 0))]) hx hb dX1_cost_33 hl (k := 2) rfl (dd := 1) rfl (by omega) (by decide) rfl (fun ls hl => ?_)
        refine lv_goto (tgt := 4) hx hb dX1_cost_36 (by decide) ?_
        exact ih4  (j + 1) _ _ _ (by omega) (by first | omega | assumption) hV (lv_sub hl [2, 1, 0] rfl)
  exact lp4 61 0 _ _ _ (by omega) (by first | omega | assumption) hV (lv_sub hl [2, 1, 0] rfl)
abbrev rm_X1_costAfterSwap : Room := { frames := 3, cells := 0, slots := 0, locals := 66 }
set_option maxHeartbeats 4000000 in
set_option maxRecDepth 100000 in
theorem c_X1_costAfterSwap (l : Launch) (D : va_G) (h : Nat → Nat) (ga : Nat) (gb : Nat) (cA : ClassId) (n : Nat) (tx : Nat → Nat) (T : Nat) (C : Nat) (K : Nat) (L : Nat → Nat) (P : Nat → Nat) (u : Nat) (ua : Nat → Nat) (ub : Nat → Nat) (a : Nat) (b : Nat)  (h_a : a < 12) (h_b : b < 12) (hn : n ≤ 60) (htx : ∀ i, tx i < 12) (hC : C ≤ 5) (hp : perm L P) : CTi l D cA yX1_costAfterSwap wsX1_costAfterSwap rm_X1_costAfterSwap [.ref (h 0), .int (nI a), .int (nI b)] (wC h ga gb cA n tx T C K L P u ua ub) (fun r W1 => r = nI (caf C L P tx n a b) ∧ W1 = wC h ga gb cA n tx T C K L P u ua ub) := by
  refine CTi.mk (cc := cX1_costAfterSwap) (maxL := 4) (ret := some .int) (by decide) rfl (Nat.le_of_ble_eq_true rfl) ?_
  intro p e s m below meth c A ls E hV hl
  obtain ⟨hx, hb, hml, hr, hown, hts, hlocks, hK, hA, hN⟩ := E
  have hown : s.vm.findClass RX1 = some m.cls := hown
  have hin1 : ∀ w ∈ wsX10, w ∈ wsX1_costAfterSwap := fun _ h => List.mem_cons_of_mem _ (List.mem_append_right _ h)
  have hl : lv_has ls 4 [(0, .ref (h 0)), (1, .int (nI a)), (2, .int (nI b))] := hl
  refine lv_aload_n hx hb dX1_costAfterSwap_0 rfl (lv_at hl 0 rfl) ?_
  refine lv_iload_n hx hb dX1_costAfterSwap_1 rfl (lv_at hl 1 rfl) ?_
  refine lv_iload_n hx hb dX1_costAfterSwap_2 rfl (lv_at hl 2 rfl) ?_
  refine k_V_v (w0 := ([] : va_W)) (wc := wC h ga gb cA n tx T C K L P u ua ub) (b := h 0) (As := [.int (nI a), .int (nI b)]) (rest := []) hx hb hml hown hts hK hA hN hV hl.1 (c_X1_exchange l D h ga gb cA n tx T C K L P u ua ub a b  (by first | omega | assumption) (by first | omega | assumption) (by first | omega | assumption)) gX1_costAfterSwap_X1_exchange rfl rfl rfl hdX1_exchange ⟨Nat.le_of_ble_eq_true rfl, Nat.le_of_ble_eq_true rfl⟩ 0 1 rfl rfl rfl rfl rfl (Nat.le_of_ble_eq_true rfl) dX1_costAfterSwap_3 ⟨Nat.zero_le _, Nat.zero_le _⟩ (fun W1 H locs hp hV => ?_)
  subst hp
  have hV : qV D A s.heap (wC h ga gb cA n tx T C K (exL L a b) (exP L P a b) u ua ub) H locs := hV
  refine lv_aload_n hx hb dX1_costAfterSwap_6 rfl (lv_at hl 0 rfl) ?_
  refine k_V_i (w0 := ([] : va_W)) (wc := wC h ga gb cA n tx T C K (exL L a b) (exP L P a b) u ua ub) (b := h 0) (As := []) (rest := []) hx hb hml hown hts hK hA hN hV hl.1 (c_X1_cost l D h ga gb cA n tx T C K (exL L a b) (exP L P a b) u ua ub   (by first | omega | assumption) (by first | omega | assumption) (by first | omega | assumption) (hp.ex h_a h_b)) gX1_costAfterSwap_X1_cost rfl rfl rfl hdX1_cost ⟨Nat.le_of_ble_eq_true rfl, Nat.le_of_ble_eq_true rfl⟩ 0 1 rfl rfl rfl rfl rfl (Nat.le_of_ble_eq_true rfl) dX1_costAfterSwap_7 ⟨Nat.zero_le _, Nat.zero_le _⟩ (fun r W1 H locs hp hV => ?_)
  obtain ⟨hp1, hp2⟩ := hp
  replace hp1 := hp1.symm
  subst hp1
  replace hp2 := hp2.symm
  subst hp2
  have hV : qV D A s.heap (wC h ga gb cA n tx T C K (exL L a b) (exP L P a b) u ua ub) H locs := hV
  have f1 := cst_lt (exP L P a b) tx (j := n - 1) hC (by omega)
  refine lv_istore_n (lv' := [(3, .int (nI (cst C (exP L P a b) tx (n - 1)))), (0, .ref (h 0)), (1, .int (nI a)), (2, .int (nI b))]) hx hb dX1_costAfterSwap_10 rfl hl (by decide) rfl (fun ls hl => ?_)
  refine lv_aload_n hx hb dX1_costAfterSwap_11 rfl (lv_at hl 1 rfl) ?_
  refine lv_iload_n hx hb dX1_costAfterSwap_12 rfl (lv_at hl 2 rfl) ?_
  refine lv_iload_n hx hb dX1_costAfterSwap_13 rfl (lv_at hl 3 rfl) ?_
  refine k_V_v (w0 := ([] : va_W)) (wc := wC h ga gb cA n tx T C K (exL L a b) (exP L P a b) u ua ub) (b := h 0) (As := [.int (nI a), .int (nI b)]) (rest := []) hx hb hml hown hts hK hA hN hV hl.1 (c_X1_exchange l D h ga gb cA n tx T C K (exL L a b) (exP L P a b) u ua ub a b  (by first | omega | assumption) (by first | omega | assumption) (hp.ex h_a h_b)) gX1_costAfterSwap_X1_exchange rfl rfl rfl hdX1_exchange ⟨Nat.le_of_ble_eq_true rfl, Nat.le_of_ble_eq_true rfl⟩ 0 1 rfl rfl rfl rfl rfl (Nat.le_of_ble_eq_true rfl) dX1_costAfterSwap_14 ⟨Nat.zero_le _, Nat.zero_le _⟩ (fun W1 H locs hp hV => ?_)
  subst hp
  have hV : qV D A s.heap (wC h ga gb cA n tx T C K (exL (exL L a b) a b) (exP (exL L a b) (exP L P a b) a b) u ua ub) H locs := hV
  rw [exL_ex, exP_ex hp h_a h_b] at hV
  refine lv_iload_n hx hb dX1_costAfterSwap_17 rfl (lv_at hl 0 rfl) ?_
  exact q_iret (W1 := wC h ga gb cA n tx T C K L P u ua ub) hx hb hr hlocks hV dX1_costAfterSwap_18 ⟨rfl, rfl⟩
