abbrev rm_X2_within : Room := { frames := 0, cells := 0, slots := 0, locals := 0 }
set_option maxHeartbeats 4000000 in
set_option maxRecDepth 100000 in
theorem c_X2_within (l : Launch) (D : va_G) (cA : ClassId) (v1 : Int32) (v2 : Int32) (v3 : Int32)   : CTi l D cA yX2_within wsX2_within rm_X2_within [.int v1, .int v2, .int v3] (([] : va_W)) (fun r W1 => r = nI (wi v1 v2 v3) ∧ W1 = ([] : va_W)) := by
  refine CTi.mk (cc := cX2_within) (maxL := 3) (ret := some .boolean) (by decide) rfl (Nat.le_of_ble_eq_true rfl) ?_
  intro p e s m below meth c A ls E hV hl
  obtain ⟨hx, hb, hml, hr, hown, hts, hlocks, hK, hA, hN⟩ := E
  have hown : s.vm.findClass RX2 = some m.cls := hown
  have hl : lv_has ls 3 [(0, .int v1), (1, .int v2), (2, .int v3)] := hl
  refine lv_iload_n hx hb dX2_within_0 rfl (lv_at hl 0 rfl) ?_
  refine lv_iload_n hx hb dX2_within_1 rfl (lv_at hl 1 rfl) ?_
  refine z_icmp_lt (tgt := 14) hx hb dX2_within_2 (by decide) (fun c2 => ?_) (fun c2 => ?_)
  · refine lv_iconst (v := nI 0) hx hb dX2_within_14 (by decide) ?_
    exact q_zret (W1 := ([] : va_W)) hx hb hr hlocks hV dX2_within_15 (by first | rfl | exact nb01 (by omega)) ⟨by unfold wi; rw [if_neg (by omega)], rfl⟩
  · refine lv_iload_n hx hb dX2_within_5 rfl (lv_at hl 0 rfl) ?_
    refine lv_iload_n hx hb dX2_within_6 rfl (lv_at hl 2 rfl) ?_
    refine z_icmp_gt (tgt := 14) hx hb dX2_within_7 (by decide) (fun c7 => ?_) (fun c7 => ?_)
    · refine lv_iconst (v := nI 0) hx hb dX2_within_14 (by decide) ?_
      exact q_zret (W1 := ([] : va_W)) hx hb hr hlocks hV dX2_within_15 (by first | rfl | exact nb01 (by omega)) ⟨by unfold wi; rw [if_neg (by omega)], rfl⟩
    · refine lv_iconst (v := nI 1) hx hb dX2_within_10 (by decide) ?_
      refine lv_goto (tgt := 15) hx hb dX2_within_11 (by decide) ?_
      exact q_zret (W1 := ([] : va_W)) hx hb hr hlocks hV dX2_within_15 (by first | rfl | exact nb01 (by omega)) ⟨by unfold wi; rw [if_pos (by omega)], rfl⟩
abbrev rm_X2_apart : Room := { frames := 0, cells := 0, slots := 0, locals := 0 }
set_option maxHeartbeats 4000000 in
set_option maxRecDepth 100000 in
theorem c_X2_apart (l : Launch) (D : va_G) (cA : ClassId) (x0 : Nat) (y0 : Nat)  (h1 : x0 < 1073741824) (h2 : y0 < 1073741824) : CTi l D cA yX2_apart wsX2_apart rm_X2_apart [.int (nI x0), .int (nI y0)] (([] : va_W)) (fun r W1 => r = nI ((x0 - y0) + (y0 - x0)) ∧ W1 = ([] : va_W)) := by
  refine CTi.mk (cc := cX2_apart) (maxL := 2) (ret := some .int) (by decide) rfl (Nat.le_of_ble_eq_true rfl) ?_
  intro p e s m below meth c A ls E hV hl
  obtain ⟨hx, hb, hml, hr, hown, hts, hlocks, hK, hA, hN⟩ := E
  have hown : s.vm.findClass RX2 = some m.cls := hown
  have hl : lv_has ls 2 [(0, .int (nI x0)), (1, .int (nI y0))] := hl
  refine lv_iload_n hx hb dX2_apart_0 rfl (lv_at hl 0 rfl) ?_
  refine lv_iload_n hx hb dX2_apart_1 rfl (lv_at hl 1 rfl) ?_
  refine q_icmp_ge (x := x0) (y := y0) (tgt := 11) hx hb dX2_apart_2 (by decide) (by omega) (by omega) (fun c2 => ?_) (fun c2 => ?_)
  · refine lv_iload_n hx hb dX2_apart_11 rfl (lv_at hl 0 rfl) ?_
    refine lv_iload_n hx hb dX2_apart_12 rfl (lv_at hl 1 rfl) ?_
    refine q_isub2 (x := x0) (y := y0) (z := (x0 - y0)) hx hb (by omega) dX2_apart_13 ?_
    exact q_iret (W1 := ([] : va_W)) hx hb hr hlocks hV dX2_apart_14 ⟨by congr 1; omega, rfl⟩
  · refine lv_iload_n hx hb dX2_apart_5 rfl (lv_at hl 1 rfl) ?_
    refine lv_iload_n hx hb dX2_apart_6 rfl (lv_at hl 0 rfl) ?_
    refine q_isub2 (x := y0) (y := x0) (z := (y0 - x0)) hx hb (by omega) dX2_apart_7 ?_
    refine lv_goto (tgt := 14) hx hb dX2_apart_8 (by decide) ?_
    exact q_iret (W1 := ([] : va_W)) hx hb hr hlocks hV dX2_apart_14 ⟨by congr 1; omega, rfl⟩
abbrev rm_X2_isLetter : Room := { frames := 1, cells := 0, slots := 0, locals := 22 }
set_option maxHeartbeats 4000000 in
set_option maxRecDepth 100000 in
theorem c_X2_isLetter (l : Launch) (D : va_G) (cA : ClassId) (v1 : Int32)   : CTi l D cA yX2_isLetter wsX2_isLetter rm_X2_isLetter [.int v1] (([] : va_W)) (fun r W1 => r = nI (okR 0 11 v1) ∧ W1 = ([] : va_W)) := by
  refine CTi.mk (cc := cX2_isLetter) (maxL := 1) (ret := some .boolean) (by decide) rfl (Nat.le_of_ble_eq_true rfl) ?_
  intro p e s m below meth c A ls E hV hl
  obtain ⟨hx, hb, hml, hr, hown, hts, hlocks, hK, hA, hN⟩ := E
  have hown : s.vm.findClass RX2 = some m.cls := hown
  have hl : lv_has ls 1 [(0, .int v1)] := hl
  refine lv_iload_n hx hb dX2_isLetter_0 rfl (lv_at hl 0 rfl) ?_
  refine lv_iconst (v := nI 0) hx hb dX2_isLetter_1 (by decide) ?_
  refine lv_bipush (v := nI 11) hx hb dX2_isLetter_2 (by decide) ?_
  refine k_S_i (w0 := ([] : va_W)) (wc := ([] : va_W)) (As := [.int v1, .int (nI 0), .int (nI 11)]) (rest := []) hx hb hml hown hts hK hA hN hV hl.1 (c_X2_within l D cA v1 (nI 0) (nI 11)  ) gX2_isLetter_X2_within rfl rfl rfl hdX2_within ⟨Nat.le_of_ble_eq_true rfl, Nat.le_of_ble_eq_true rfl⟩ rfl rfl (Nat.le_of_ble_eq_true rfl) dX2_isLetter_4 ⟨Nat.zero_le _, Nat.zero_le _⟩ (fun r W1 H locs hp hV => ?_)
  obtain ⟨hp1, hp2⟩ := hp
  replace hp1 := hp1.symm
  subst hp1
  replace hp2 := hp2.symm
  subst hp2
  have hV : qV D A s.heap (([] : va_W)) H locs := hV
  have f1 := wi_le v1 (nI 0) (nI 11)
  refine q_top (congrArg nI (wi_ok (lo := 0) (hi := 11) (by decide) (by decide))) ?_
  have := okR_le 0 11 v1
  exact q_zret (W1 := ([] : va_W)) hx hb hr hlocks hV dX2_isLetter_7 (by first | rfl | exact nb01 (by omega)) ⟨rfl, rfl⟩
abbrev rm_X2_refusal : Room := { frames := 2, cells := 0, slots := 0, locals := 42 }
set_option maxHeartbeats 4000000 in
set_option maxRecDepth 100000 in
theorem c_X2_refusal (l : Launch) (D : va_G) (cA : ClassId) (v1 : Int32) (v2 : Int32)   : CTi l D cA yX2_refusal wsX2_refusal rm_X2_refusal [.int v1, .int v2] (([] : va_W)) (fun r W1 => r = swErr v1 v2 ∧ W1 = ([] : va_W)) := by
  refine CTi.mk (cc := cX2_refusal) (maxL := 2) (ret := some .int) (by decide) rfl (Nat.le_of_ble_eq_true rfl) ?_
  intro p e s m below meth c A ls E hV hl
  obtain ⟨hx, hb, hml, hr, hown, hts, hlocks, hK, hA, hN⟩ := E
  have hown : s.vm.findClass RX2 = some m.cls := hown
  have hl : lv_has ls 2 [(0, .int v1), (1, .int v2)] := hl
  refine lv_iload_n hx hb dX2_refusal_0 rfl (lv_at hl 0 rfl) ?_
  refine k_S_i (w0 := ([] : va_W)) (wc := ([] : va_W)) (As := [.int v1]) (rest := []) hx hb hml hown hts hK hA hN hV hl.1 (c_X2_isLetter l D cA v1  ) gX2_refusal_X2_isLetter rfl rfl rfl hdX2_isLetter ⟨Nat.le_of_ble_eq_true rfl, Nat.le_of_ble_eq_true rfl⟩ rfl rfl (Nat.le_of_ble_eq_true rfl) dX2_refusal_1 ⟨Nat.zero_le _, Nat.zero_le _⟩ (fun r W1 H locs hp hV => ?_)
  obtain ⟨hp1, hp2⟩ := hp
  replace hp1 := hp1.symm
  subst hp1
  replace hp2 := hp2.symm
  subst hp2
  have hV : qV D A s.heap (([] : va_W)) H locs := hV
  have f1 := okR_le 0 11 v1
  refine q_if_eq (x := (okR 0 11 v1)) (tgt := 14) hx hb dX2_refusal_4 (by decide) (by omega) (fun c4 => ?_) (fun c4 => ?_)
  · refine lv_ldc (v := -1000003) hx hb hown (hts _ (List.mem_of_getElem? (i := 1) rfl)) dX2_refusal_14 ?_
    exact q_iret (W1 := ([] : va_W)) hx hb hr hlocks hV dX2_refusal_16 ⟨(swErr_no (by omega)).symm, rfl⟩
  · obtain ⟨k1, -, hk1, rfl⟩ := okR_1 (by decide) c4
    refine lv_iload_n hx hb dX2_refusal_7 rfl (lv_at hl 1 rfl) ?_
    refine k_S_i (w0 := ([] : va_W)) (wc := ([] : va_W)) (As := [.int v2]) (rest := []) hx hb hml hown hts hK hA hN hV hl.1 (c_X2_isLetter l D cA v2  ) gX2_refusal_X2_isLetter rfl rfl rfl hdX2_isLetter ⟨Nat.le_of_ble_eq_true rfl, Nat.le_of_ble_eq_true rfl⟩ rfl rfl (Nat.le_of_ble_eq_true rfl) dX2_refusal_8 ⟨Nat.zero_le _, Nat.zero_le _⟩ (fun r W1 H locs hp hV => ?_)
    obtain ⟨hp1, hp2⟩ := hp
    replace hp1 := hp1.symm
    subst hp1
    replace hp2 := hp2.symm
    subst hp2
    have hV : qV D A s.heap (([] : va_W)) H locs := hV
    have f2 := okR_le 0 11 v2
    refine q_if_ne (x := (okR 0 11 v2)) (tgt := 17) hx hb dX2_refusal_11 (by decide) (by omega) (fun c11 => ?_) (fun c11 => ?_)
    · obtain ⟨k2, -, hk2, rfl⟩ := okR_1 (by decide) c11
      refine lv_iload_n hx hb dX2_refusal_17 rfl (lv_at hl 0 rfl) ?_
      refine lv_iload_n hx hb dX2_refusal_18 rfl (lv_at hl 1 rfl) ?_
      refine q_icmp_ne (x := k1) (y := k2) (tgt := 27) hx hb dX2_refusal_19 (by decide) (by omega) (by omega) (fun c19 => ?_) (fun c19 => ?_)
      · refine lv_iconst (v := nI 0) hx hb dX2_refusal_27 (by decide) ?_
        exact q_iret (W1 := ([] : va_W)) hx hb hr hlocks hV dX2_refusal_28 ⟨by rw [swErr_ok hk1 hk2]; first | rw [if_pos (by omega)] | (rw [if_neg (by omega)]; exact nI_0), rfl⟩
      · refine lv_ldc (v := -1000005) hx hb hown (hts _ (List.mem_of_getElem? (i := 2) rfl)) dX2_refusal_22 ?_
        refine lv_goto (tgt := 28) hx hb dX2_refusal_24 (by decide) ?_
        exact q_iret (W1 := ([] : va_W)) hx hb hr hlocks hV dX2_refusal_28 ⟨by rw [swErr_ok hk1 hk2]; first | rw [if_pos (by omega)] | (rw [if_neg (by omega)]; exact nI_0), rfl⟩
    · refine lv_ldc (v := -1000003) hx hb hown (hts _ (List.mem_of_getElem? (i := 1) rfl)) dX2_refusal_14 ?_
      exact q_iret (W1 := ([] : va_W)) hx hb hr hlocks hV dX2_refusal_16 ⟨(swErr_no (by omega)).symm, rfl⟩
abbrev rm_X2_append : Room := { frames := 1, cells := 0, slots := 0, locals := 22 }
set_option maxHeartbeats 4000000 in
set_option maxRecDepth 100000 in
theorem c_X2_append (l : Launch) (D : va_G) (h : Nat → Nat) (cA : ClassId) (n : Nat) (tx : Nat → Nat) (T : Nat) (C : Nat) (K : Nat) (P : Nat → Nat) (L : Nat → Nat) (u : Nat) (ua : Nat → Nat) (ub : Nat → Nat) (pm : Nat) (jm : Nat) (lm : Nat) (du : Nat) (lt : Nat) (hh : Int64) (v1 : Int32)  (hn : n ≤ 60) : CTi l D cA yX2_append wsX2_append rm_X2_append [.ref (h 0), .int v1] (wD h cA n tx T C K P L u ua ub pm jm lm du lt hh) (fun r W1 => r = aApp n v1 ∧ W1 = wD h cA (nApp n v1) (tApp n tx v1) T C K P L u ua ub pm jm lm du lt hh) := by
  refine CTi.mk (cc := cX2_append) (maxL := 2) (ret := some .int) (by decide) rfl (Nat.le_of_ble_eq_true rfl) ?_
  intro p e s m below meth c A ls E hV hl
  obtain ⟨hx, hb, hml, hr, hown, hts, hlocks, hK, hA, hN⟩ := E
  have hown : s.vm.findClass RX2 = some m.cls := hown
  have hin2 : ∀ w ∈ wsX20, w ∈ wsX2_append := fun _ h => List.mem_cons_of_mem _ (List.mem_append_right _ h)
  have hl : lv_has ls 2 [(0, .ref (h 0)), (1, .int v1)] := hl
  refine lv_iload_n hx hb dX2_append_0 rfl (lv_at hl 1 rfl) ?_
  refine lv_bipush (v := nI 97) hx hb dX2_append_1 (by decide) ?_
  refine lv_bipush (v := nI 108) hx hb dX2_append_3 (by decide) ?_
  refine k_S_i (w0 := wD h cA n tx T C K P L u ua ub pm jm lm du lt hh) (wc := ([] : va_W)) (As := [.int v1, .int (nI 97), .int (nI 108)]) (rest := []) hx hb hml hown hts hK hA hN hV hl.1 (c_X2_within l D cA v1 (nI 97) (nI 108)  ) gX2_append_X2_within rfl rfl rfl hdX2_within ⟨Nat.le_of_ble_eq_true rfl, Nat.le_of_ble_eq_true rfl⟩ rfl rfl (Nat.le_of_ble_eq_true rfl) dX2_append_5 ⟨Nat.zero_le _, Nat.zero_le _⟩ (fun r W1 H locs hp hV => ?_)
  obtain ⟨hp1, hp2⟩ := hp
  replace hp1 := hp1.symm
  subst hp1
  replace hp2 := hp2.symm
  subst hp2
  have hV : qV D A s.heap (wD h cA n tx T C K P L u ua ub pm jm lm du lt hh) H locs := hV
  have f1 := wi_le v1 (nI 97) (nI 108)
  refine q_top (congrArg nI (wi_ok (lo := 97) (hi := 108) (by decide) (by decide))) ?_
  have := okR_le 97 108 v1
  refine q_if_ne (x := (okR 97 108 v1)) (tgt := 14) hx hb dX2_append_8 (by decide) (by omega) (fun c8 => ?_) (fun c8 => ?_)
  · obtain ⟨k1, hk0, hk1, rfl⟩ := okR_1 (lo := 97) (hi := 108) (by decide) c8
    refine lv_aload_n hx hb dX2_append_14 rfl (lv_at hl 0 rfl) ?_
    refine q_get (C := RX2) (T := TX2) (N := 20) (ci := 2) (v := .int (nI n)) hx hb hts hin2 hown hK hV 0 rfl rfl 0 (by decide) (List.mem_of_getElem? (i := 2) rfl) rfl dX2_append_15 ?_
    refine lv_bipush (v := nI 60) hx hb dX2_append_18 (by decide) ?_
    refine q_icmp_ne (x := n) (y := 60) (tgt := 26) hx hb dX2_append_20 (by decide) (by omega) (by omega) (fun c20 => ?_) (fun c20 => ?_)
    · refine lv_aload_n hx hb dX2_append_26 rfl (lv_at hl 0 rfl) ?_
      refine q_get (C := RX2) (T := TX2) (N := 20) (ci := 2) (v := .ref (h 1)) hx hb hts hin2 hown hK hV 0 rfl rfl 1 (by decide) (List.mem_of_getElem? (i := 4) rfl) rfl dX2_append_27 ?_
      refine lv_aload_n hx hb dX2_append_30 rfl (lv_at hl 0 rfl) ?_
      refine q_get (C := RX2) (T := TX2) (N := 20) (ci := 2) (v := .int (nI n)) hx hb hts hin2 hown hK hV 0 rfl rfl 0 (by decide) (List.mem_of_getElem? (i := 2) rfl) rfl dX2_append_31 ?_
      refine lv_iload_n hx hb dX2_append_34 rfl (lv_at hl 1 rfl) ?_
      refine lv_bipush (v := nI 97) hx hb dX2_append_35 (by decide) ?_
      refine q_isub2 (x := k1) (y := 97) (z := (k1 - 97)) hx hb (by omega) dX2_append_37 ?_
      refine q_iast (n := 60) (k := n) (v := (k1 - 97)) (f := tx) (wD h cA n (up tx n (k1 - 97)) T C K P L u ua ub pm jm lm du lt hh) hx hb hK hV 1 rfl (by omega) (by decide) rfl dX2_append_38 (fun H locs hV => ?_)
      refine lv_aload_n hx hb dX2_append_39 rfl (lv_at hl 0 rfl) ?_
      refine lv_dup hx hb dX2_append_40 rfl ?_
      refine q_get (C := RX2) (T := TX2) (N := 20) (ci := 2) (v := .int (nI n)) hx hb hts hin2 hown hK hV 0 rfl rfl 0 (by decide) (List.mem_of_getElem? (i := 2) rfl) rfl dX2_append_41 ?_
      refine lv_iconst (v := nI 1) hx hb dX2_append_44 (by decide) ?_
      refine q_iadd2 (x := n) (y := 1) (z := n + 1) hx hb (by omega) dX2_append_45 ?_
      refine q_put (C := RX2) (T := TX2) (N := 20) (ci := 2) (v := .int (nI (n + 1))) (wD h cA (n + 1) (up tx n (k1 - 97)) T C K P L u ua ub pm jm lm du lt hh) hx hb hts hin2 tyX2 tyX2_ok nmX2 hown hK hV 0 rfl rfl 0 (by decide) (List.mem_of_getElem? (i := 2) rfl) rfl rfl rfl (Nat.le_of_ble_eq_true rfl) rfl dX2_append_46 (fun H locs hV => ?_)
      refine lv_aload_n hx hb dX2_append_49 rfl (lv_at hl 0 rfl) ?_
      refine q_get (C := RX2) (T := TX2) (N := 20) (ci := 2) (v := .int (nI (n + 1))) hx hb hts hin2 hown hK hV 0 rfl rfl 0 (by decide) (List.mem_of_getElem? (i := 2) rfl) rfl dX2_append_50 ?_
      have e1 := okR_k hk0 hk1 (by decide)
      exact q_iret (W1 := wD h cA (n + 1) (up tx n (k1 - 97)) T C K P L u ua ub pm jm lm du lt hh) hx hb hr hlocks hV dX2_append_53 ⟨by unfold aApp; rw [e1, if_pos rfl, if_pos (by omega)], by unfold nApp tApp; rw [e1, if_pos rfl, if_pos (by omega), if_pos rfl, if_pos (by omega), iN_nI (by omega)]⟩
    · refine lv_ldc (v := -1000002) hx hb hown (hts _ (List.mem_of_getElem? (i := 3) rfl)) dX2_append_23 ?_
      have e1 := okR_k hk0 hk1 (by decide)
      exact q_iret (W1 := wD h cA n tx T C K P L u ua ub pm jm lm du lt hh) hx hb hr hlocks hV dX2_append_25 ⟨by unfold aApp; rw [e1, if_pos rfl, if_neg (by omega)], by unfold nApp tApp; rw [e1, if_pos rfl, if_neg (by omega), if_pos rfl, if_neg (by omega)]⟩
  · refine lv_ldc (v := -1000001) hx hb hown (hts _ (List.mem_of_getElem? (i := 1) rfl)) dX2_append_11 ?_
    have e1 : okR 97 108 v1 = 0 := c8
    exact q_iret (W1 := wD h cA n tx T C K P L u ua ub pm jm lm du lt hh) hx hb hr hlocks hV dX2_append_13 ⟨by unfold aApp; rw [e1]; rfl, by unfold nApp tApp; rw [e1]; rfl⟩
abbrev rm_X2_clearText : Room := { frames := 0, cells := 0, slots := 0, locals := 0 }
set_option maxHeartbeats 4000000 in
set_option maxRecDepth 100000 in
theorem c_X2_clearText (l : Launch) (D : va_G) (h : Nat → Nat) (cA : ClassId) (n : Nat) (tx : Nat → Nat) (T : Nat) (C : Nat) (K : Nat) (P : Nat → Nat) (L : Nat → Nat) (u : Nat) (ua : Nat → Nat) (ub : Nat → Nat) (pm : Nat) (jm : Nat) (lm : Nat) (du : Nat) (lt : Nat) (hh : Int64)    : CTi l D cA yX2_clearText wsX2_clearText rm_X2_clearText [.ref (h 0)] (wD h cA n tx T C K P L u ua ub pm jm lm du lt hh) (fun r W1 => r = nI n ∧ W1 = wD h cA 0 tx T C K P L u ua ub pm jm lm du lt hh) := by
  refine CTi.mk (cc := cX2_clearText) (maxL := 2) (ret := some .int) (by decide) rfl (Nat.le_of_ble_eq_true rfl) ?_
  intro p e s m below meth c A ls E hV hl
  obtain ⟨hx, hb, hml, hr, hown, hts, hlocks, hK, hA, hN⟩ := E
  have hown : s.vm.findClass RX2 = some m.cls := hown
  have hin2 : ∀ w ∈ wsX20, w ∈ wsX2_clearText := fun _ h => List.mem_cons_of_mem _ (List.mem_append_right _ h)
  have hl : lv_has ls 2 [(0, .ref (h 0))] := hl
  refine lv_aload_n hx hb dX2_clearText_0 rfl (lv_at hl 0 rfl) ?_
  refine q_get (C := RX2) (T := TX2) (N := 20) (ci := 2) (v := .int (nI n)) hx hb hts hin2 hown hK hV 0 rfl rfl 0 (by decide) (List.mem_of_getElem? (i := 1) rfl) rfl dX2_clearText_1 ?_
  refine lv_istore_n (lv' := [(1, .int (nI n)), (0, .ref (h 0))]) hx hb dX2_clearText_4 rfl hl (by decide) rfl (fun ls hl => ?_)
  refine lv_aload_n hx hb dX2_clearText_5 rfl (lv_at hl 1 rfl) ?_
  refine lv_iconst (v := nI 0) hx hb dX2_clearText_6 (by decide) ?_
  refine q_put (C := RX2) (T := TX2) (N := 20) (ci := 2) (v := .int (nI 0)) (wD h cA 0 tx T C K P L u ua ub pm jm lm du lt hh) hx hb hts hin2 tyX2 tyX2_ok nmX2 hown hK hV 0 rfl rfl 0 (by decide) (List.mem_of_getElem? (i := 1) rfl) rfl rfl rfl (Nat.le_of_ble_eq_true rfl) rfl dX2_clearText_7 (fun H locs hV => ?_)
  refine lv_iload_n hx hb dX2_clearText_10 rfl (lv_at hl 0 rfl) ?_
  exact q_iret (W1 := wD h cA 0 tx T C K P L u ua ub pm jm lm du lt hh) hx hb hr hlocks hV dX2_clearText_11 ⟨rfl, rfl⟩
abbrev rm_X2_pairCount : Room := { frames := 2, cells := 0, slots := 0, locals := 42 }
set_option maxHeartbeats 4000000 in
set_option maxRecDepth 100000 in
theorem c_X2_pairCount (l : Launch) (D : va_G) (h : Nat → Nat) (cA : ClassId) (n : Nat) (tx : Nat → Nat) (T : Nat) (C : Nat) (K : Nat) (P : Nat → Nat) (L : Nat → Nat) (u : Nat) (ua : Nat → Nat) (ub : Nat → Nat) (pm : Nat) (jm : Nat) (lm : Nat) (du : Nat) (lt : Nat) (hh : Int64) (v1 : Int32) (v2 : Int32)  (hn : n ≤ 60) (htx : ∀ i, tx i < 12) : CTi l D cA yX2_pairCount wsX2_pairCount rm_X2_pairCount [.ref (h 0), .int v1, .int v2] (wD h cA n tx T C K P L u ua ub pm jm lm du lt hh) (fun r W1 => r = aPair n tx v1 v2 ∧ W1 = wD h cA n tx T C K P L u ua ub pm jm lm du lt hh) := by
  refine CTi.mk (cc := cX2_pairCount) (maxL := 7) (ret := some .int) (by decide) rfl (Nat.le_of_ble_eq_true rfl) ?_
  intro p e s m below meth c A ls E hV hl
  obtain ⟨hx, hb, hml, hr, hown, hts, hlocks, hK, hA, hN⟩ := E
  have hown : s.vm.findClass RX2 = some m.cls := hown
  have hin2 : ∀ w ∈ wsX20, w ∈ wsX2_pairCount := fun _ h => List.mem_cons_of_mem _ (List.mem_append_right _ h)
  have hl : lv_has ls 7 [(0, .ref (h 0)), (1, .int v1), (2, .int v2)] := hl
  refine lv_iload_n hx hb dX2_pairCount_0 rfl (lv_at hl 1 rfl) ?_
  refine k_S_i (w0 := wD h cA n tx T C K P L u ua ub pm jm lm du lt hh) (wc := ([] : va_W)) (As := [.int v1]) (rest := []) hx hb hml hown hts hK hA hN hV hl.1 (c_X2_isLetter l D cA v1  ) gX2_pairCount_X2_isLetter rfl rfl rfl hdX2_isLetter ⟨Nat.le_of_ble_eq_true rfl, Nat.le_of_ble_eq_true rfl⟩ rfl rfl (Nat.le_of_ble_eq_true rfl) dX2_pairCount_1 ⟨Nat.zero_le _, Nat.zero_le _⟩ (fun r W1 H locs hp hV => ?_)
  obtain ⟨hp1, hp2⟩ := hp
  replace hp1 := hp1.symm
  subst hp1
  replace hp2 := hp2.symm
  subst hp2
  have hV : qV D A s.heap (wD h cA n tx T C K P L u ua ub pm jm lm du lt hh) H locs := hV
  have f1 := okR_le 0 11 v1
  refine q_if_eq (x := (okR 0 11 v1)) (tgt := 14) hx hb dX2_pairCount_4 (by decide) (by omega) (fun c4 => ?_) (fun c4 => ?_)
  · refine lv_ldc (v := -1000003) hx hb hown (hts _ (List.mem_of_getElem? (i := 1) rfl)) dX2_pairCount_14 ?_
    exact q_iret (W1 := wD h cA n tx T C K P L u ua ub pm jm lm du lt hh) hx hb hr hlocks hV dX2_pairCount_16 ⟨(aPair_no (by omega)).symm, rfl⟩
  · obtain ⟨k1, -, hk1, rfl⟩ := okR_1 (by decide) c4
    refine lv_iload_n hx hb dX2_pairCount_7 rfl (lv_at hl 2 rfl) ?_
    refine k_S_i (w0 := wD h cA n tx T C K P L u ua ub pm jm lm du lt hh) (wc := ([] : va_W)) (As := [.int v2]) (rest := []) hx hb hml hown hts hK hA hN hV hl.1 (c_X2_isLetter l D cA v2  ) gX2_pairCount_X2_isLetter rfl rfl rfl hdX2_isLetter ⟨Nat.le_of_ble_eq_true rfl, Nat.le_of_ble_eq_true rfl⟩ rfl rfl (Nat.le_of_ble_eq_true rfl) dX2_pairCount_8 ⟨Nat.zero_le _, Nat.zero_le _⟩ (fun r W1 H locs hp hV => ?_)
    obtain ⟨hp1, hp2⟩ := hp
    replace hp1 := hp1.symm
    subst hp1
    replace hp2 := hp2.symm
    subst hp2
    have hV : qV D A s.heap (wD h cA n tx T C K P L u ua ub pm jm lm du lt hh) H locs := hV
    have f2 := okR_le 0 11 v2
    refine q_if_ne (x := (okR 0 11 v2)) (tgt := 17) hx hb dX2_pairCount_11 (by decide) (by omega) (fun c11 => ?_) (fun c11 => ?_)
    · obtain ⟨k2, -, hk2, rfl⟩ := okR_1 (by decide) c11
      refine lv_iconst (v := nI 0) hx hb dX2_pairCount_17 (by decide) ?_
      refine lv_istore_n (lv' := [(3, .int (nI 0)), (0, .ref (h 0)), (1, .int (nI k1)), (2, .int (nI k2))]) hx hb dX2_pairCount_18 rfl hl (by decide) rfl (fun ls hl => ?_)
      refine lv_iconst (v := nI 1) hx hb dX2_pairCount_19 (by decide) ?_
      refine lv_istore (lv' := [(4, .int (nI 1)), (3, .int (nI 0)), (0, .ref (h 0)), (1, .int (nI k1)), (2, .int (nI k2))]) hx hb dX2_pairCount_20 hl (by decide) rfl (fun ls hl => ?_)
      have lp22 : ∀ (d22 : Nat) (j : Nat) (H : Heap) (locs : List Loc) (ls : Array Slot), (61 ≤ j + d22) → (j = 0 ∨ j + 1 ≤ n) → qV D A s.heap (wD h cA n tx T C K P L u ua ub pm jm lm du lt hh) H locs → lv_has ls 7 [(0, .ref (h 0)), (1, .int (nI k1)), (2, .int (nI k2)), (3, .int (nI (prc tx k1 k2 j))), (4, .int (nI (j + 1)))] → W p l e rm_X2_pairCount s m ([.ref (h 0), .int (nI k1), .int (nI k2)] : List Value).toArray below meth c H locs 0 0 (MQ below (va_Qi (fun r W1 => r = aPair n tx (nI k1) (nI k2) ∧ W1 = wD h cA n tx T C K P L u ua ub pm jm lm du lt hh) (cPost D A) A) ([.ref (h 0), .int (nI k1), .int (nI k2)] : List Value).toArray s 0 0 A) (F0 m 22 ls []) := by
        intro d22
        induction d22 with
        | zero => intro j H locs ls hm22 hj hV hl; exfalso; omega
        | succ d22 ih22 =>
          intro j H locs ls hm22 hj hV hl
          have f0 := prc_le tx k1 k2 j
          refine lv_iload hx hb dX2_pairCount_22 (lv_at hl 4 rfl) ?_
          refine lv_aload_n hx hb dX2_pairCount_24 rfl (lv_at hl 0 rfl) ?_
          refine q_get (C := RX2) (T := TX2) (N := 20) (ci := 2) (v := .int (nI n)) hx hb hts hin2 hown hK hV 0 rfl rfl 0 (by decide) (List.mem_of_getElem? (i := 2) rfl) rfl dX2_pairCount_25 ?_
          refine q_icmp_ge (x := j + 1) (y := n) (tgt := 117) hx hb dX2_pairCount_28 (by decide) (by omega) (by omega) (fun c28 => ?_) (fun c28 => ?_)
          · refine lv_iload_n hx hb dX2_pairCount_117 rfl (lv_at hl 3 rfl) ?_
            have ej : j = n - 1 := by omega
            exact q_iret (W1 := wD h cA n tx T C K P L u ua ub pm jm lm du lt hh) hx hb hr hlocks hV dX2_pairCount_118 ⟨by rw [aPair_ok hk1 hk2, ej], rfl⟩
          · refine lv_aload_n hx hb dX2_pairCount_31 rfl (lv_at hl 0 rfl) ?_
            refine q_get (C := RX2) (T := TX2) (N := 20) (ci := 2) (v := .ref (h 1)) hx hb hts hin2 hown hK hV 0 rfl rfl 1 (by decide) (List.mem_of_getElem? (i := 3) rfl) rfl dX2_pairCount_32 ?_
            refine lv_iload hx hb dX2_pairCount_35 (lv_at hl 4 rfl) ?_
            refine lv_iconst (v := nI 1) hx hb dX2_pairCount_37 (by decide) ?_
            refine q_isub2 (x := j + 1) (y := 1) (z := j) hx hb (by omega) dX2_pairCount_38 ?_
            refine q_iald (n := 60) (k := j) (f := tx) hx hb hK hV 1 rfl (by omega) (by omega) dX2_pairCount_39 ?_
            have f3 := htx j
            refine lv_iload_n hx hb dX2_pairCount_40 rfl (lv_at hl 1 rfl) ?_
            refine q_icmp_ne (x := (tx j)) (y := k1) (tgt := 59) hx hb dX2_pairCount_41 (by decide) (by omega) (by omega) (fun c41 => ?_) (fun c41 => ?_)
            · refine lv_iconst (v := nI 0) hx hb dX2_pairCount_59 (by decide) ?_
              refine lv_istore (lv' := [(5, .int (nI 0)), (0, .ref (h 0)), (1, .int (nI k1)), (2, .int (nI k2)), (3, .int (nI (prc tx k1 k2 j))), (4, .int (nI (j + 1)))]) hx hb dX2_pairCount_60 hl (by decide) rfl (fun ls hl => ?_)
              refine lv_aload_n hx hb dX2_pairCount_62 rfl (lv_at hl 1 rfl) ?_
              refine q_get (C := RX2) (T := TX2) (N := 20) (ci := 2) (v := .ref (h 1)) hx hb hts hin2 hown hK hV 0 rfl rfl 1 (by decide) (List.mem_of_getElem? (i := 3) rfl) rfl dX2_pairCount_63 ?_
              refine lv_iload hx hb dX2_pairCount_66 (lv_at hl 5 rfl) ?_
              refine lv_iconst (v := nI 1) hx hb dX2_pairCount_68 (by decide) ?_
              refine q_isub2 (x := j + 1) (y := 1) (z := j) hx hb (by omega) dX2_pairCount_69 ?_
              refine q_iald (n := 60) (k := j) (f := tx) hx hb hK hV 1 rfl (by omega) (by omega) dX2_pairCount_70 ?_
              have f4 := htx j
              refine lv_iload_n hx hb dX2_pairCount_71 rfl (lv_at hl 3 rfl) ?_
              refine q_icmp_ne (x := (tx j)) (y := k2) (tgt := 90) hx hb dX2_pairCount_72 (by decide) (by omega) (by omega) (fun c72 => ?_) (fun c72 => ?_)
              · refine lv_iconst (v := nI 0) hx hb dX2_pairCount_90 (by decide) ?_
                refine lv_istore (lv' := [(6, .int (nI 0)), (5, .int (nI 0)), (0, .ref (h 0)), (1, .int (nI k1)), (2, .int (nI k2)), (3, .int (nI (prc tx k1 k2 j))), (4, .int (nI (j + 1)))]) hx hb dX2_pairCount_91 hl (by decide) rfl (fun ls hl => ?_)
                refine lv_iload_n hx hb dX2_pairCount_93 rfl (lv_at hl 5 rfl) ?_
                refine lv_iload hx hb dX2_pairCount_94 (lv_at hl 1 rfl) ?_
                refine q_if_ne (x := 0) (tgt := 104) hx hb dX2_pairCount_96 (by decide) (by omega) (fun c96 => ?_) (fun c96 => ?_)
                · exact absurd c96 (by decide)
                · refine lv_iload hx hb dX2_pairCount_99 (lv_at hl 0 rfl) ?_
                  refine q_if_eq (x := 0) (tgt := 108) hx hb dX2_pairCount_101 (by decide) (by omega) (fun c101 => ?_) (fun c101 => ?_)
                  · refine lv_iconst (v := nI 0) hx hb dX2_pairCount_108 (by decide) ?_
                    refine q_iadd2 (x := (prc tx k1 k2 j)) (y := 0) (z := (prc tx k1 k2 j)) hx hb (by omega) dX2_pairCount_109 ?_
                    refine lv_istore_n (lv' := [(3, .int (nI (prc tx k1 k2 j))), (6, .int (nI 0)), (5, .int (nI 0)), (0, .ref (h 0)), (1, .int (nI k1)), (2, .int (nI k2)), (4, .int (nI (j + 1)))]) hx hb dX2_pairCount_110 rfl hl (by decide) rfl (fun ls hl => ?_)
                    refine q_iinc (x := j + 1) (z := j + 2) (lv' := [(4, .int (nI (j + 2))), (3, .int (nI (prc tx k1 k2 j))), (6, .int (nI 0)), (5, .int (nI 0)), (0, .ref (h 0)), (1, .int (nI k1)), (2, .int (nI k2))]) hx hb dX2_pairCount_111 hl (k := 6) rfl (dd := 1) rfl (by omega) (by decide) rfl (fun ls hl => ?_)
                    refine lv_goto (tgt := 22) hx hb dX2_pairCount_114 (by decide) ?_
                    have e1 : prc tx k1 k2 (j + 1) = (prc tx k1 k2 j) := by show prc tx k1 k2 j + _ = _; rw [if_neg (by omega), Nat.add_zero]
                    exact ih22  (j + 1) _ _ _ (by omega) (by first | omega | assumption) hV (by rw [e1]; exact lv_sub hl [4, 5, 6, 1, 0] rfl)
                  · exact absurd c101 (by decide)
              · refine lv_aload_n hx hb dX2_pairCount_75 rfl (lv_at hl 1 rfl) ?_
                refine q_get (C := RX2) (T := TX2) (N := 20) (ci := 2) (v := .ref (h 1)) hx hb hts hin2 hown hK hV 0 rfl rfl 1 (by decide) (List.mem_of_getElem? (i := 3) rfl) rfl dX2_pairCount_76 ?_
                refine lv_iload hx hb dX2_pairCount_79 (lv_at hl 5 rfl) ?_
                refine q_iald (n := 60) (k := j + 1) (f := tx) hx hb hK hV 1 rfl (by omega) (by omega) dX2_pairCount_81 ?_
                have f5 := htx (j + 1)
                refine lv_iload_n hx hb dX2_pairCount_82 rfl (lv_at hl 2 rfl) ?_
                refine q_icmp_ne (x := (tx (j + 1))) (y := k1) (tgt := 90) hx hb dX2_pairCount_83 (by decide) (by omega) (by omega) (fun c83 => ?_) (fun c83 => ?_)
                · refine lv_iconst (v := nI 0) hx hb dX2_pairCount_90 (by decide) ?_
                  refine lv_istore (lv' := [(6, .int (nI 0)), (5, .int (nI 0)), (0, .ref (h 0)), (1, .int (nI k1)), (2, .int (nI k2)), (3, .int (nI (prc tx k1 k2 j))), (4, .int (nI (j + 1)))]) hx hb dX2_pairCount_91 hl (by decide) rfl (fun ls hl => ?_)
                  refine lv_iload_n hx hb dX2_pairCount_93 rfl (lv_at hl 5 rfl) ?_
                  refine lv_iload hx hb dX2_pairCount_94 (lv_at hl 1 rfl) ?_
                  refine q_if_ne (x := 0) (tgt := 104) hx hb dX2_pairCount_96 (by decide) (by omega) (fun c96 => ?_) (fun c96 => ?_)
                  · exact absurd c96 (by decide)
                  · refine lv_iload hx hb dX2_pairCount_99 (lv_at hl 0 rfl) ?_
                    refine q_if_eq (x := 0) (tgt := 108) hx hb dX2_pairCount_101 (by decide) (by omega) (fun c101 => ?_) (fun c101 => ?_)
                    · refine lv_iconst (v := nI 0) hx hb dX2_pairCount_108 (by decide) ?_
                      refine q_iadd2 (x := (prc tx k1 k2 j)) (y := 0) (z := (prc tx k1 k2 j)) hx hb (by omega) dX2_pairCount_109 ?_
                      refine lv_istore_n (lv' := [(3, .int (nI (prc tx k1 k2 j))), (6, .int (nI 0)), (5, .int (nI 0)), (0, .ref (h 0)), (1, .int (nI k1)), (2, .int (nI k2)), (4, .int (nI (j + 1)))]) hx hb dX2_pairCount_110 rfl hl (by decide) rfl (fun ls hl => ?_)
                      refine q_iinc (x := j + 1) (z := j + 2) (lv' := [(4, .int (nI (j + 2))), (3, .int (nI (prc tx k1 k2 j))), (6, .int (nI 0)), (5, .int (nI 0)), (0, .ref (h 0)), (1, .int (nI k1)), (2, .int (nI k2))]) hx hb dX2_pairCount_111 hl (k := 6) rfl (dd := 1) rfl (by omega) (by decide) rfl (fun ls hl => ?_)
                      refine lv_goto (tgt := 22) hx hb dX2_pairCount_114 (by decide) ?_
                      have e1 : prc tx k1 k2 (j + 1) = (prc tx k1 k2 j) := by show prc tx k1 k2 j + _ = _; rw [if_neg (by omega), Nat.add_zero]
                      exact ih22  (j + 1) _ _ _ (by omega) (by first | omega | assumption) hV (by rw [e1]; exact lv_sub hl [4, 5, 6, 1, 0] rfl)
                    · exact absurd c101 (by decide)
                · refine lv_iconst (v := nI 1) hx hb dX2_pairCount_86 (by decide) ?_
                  refine lv_goto (tgt := 91) hx hb dX2_pairCount_87 (by decide) ?_
                  refine lv_istore (lv' := [(6, .int (nI 1)), (5, .int (nI 0)), (0, .ref (h 0)), (1, .int (nI k1)), (2, .int (nI k2)), (3, .int (nI (prc tx k1 k2 j))), (4, .int (nI (j + 1)))]) hx hb dX2_pairCount_91 hl (by decide) rfl (fun ls hl => ?_)
                  refine lv_iload_n hx hb dX2_pairCount_93 rfl (lv_at hl 5 rfl) ?_
                  refine lv_iload hx hb dX2_pairCount_94 (lv_at hl 1 rfl) ?_
                  refine q_if_ne (x := 0) (tgt := 104) hx hb dX2_pairCount_96 (by decide) (by omega) (fun c96 => ?_) (fun c96 => ?_)
                  · exact absurd c96 (by decide)
                  · refine lv_iload hx hb dX2_pairCount_99 (lv_at hl 0 rfl) ?_
                    refine q_if_eq (x := 1) (tgt := 108) hx hb dX2_pairCount_101 (by decide) (by omega) (fun c101 => ?_) (fun c101 => ?_)
                    · exact absurd c101 (by decide)
                    · refine lv_iconst (v := nI 1) hx hb dX2_pairCount_104 (by decide) ?_
                      refine lv_goto (tgt := 109) hx hb dX2_pairCount_105 (by decide) ?_
                      refine q_iadd2 (x := (prc tx k1 k2 j)) (y := 1) (z := (prc tx k1 k2 j) + 1) hx hb (by omega) dX2_pairCount_109 ?_
                      refine lv_istore_n (lv' := [(3, .int (nI ((prc tx k1 k2 j) + 1))), (6, .int (nI 1)), (5, .int (nI 0)), (0, .ref (h 0)), (1, .int (nI k1)), (2, .int (nI k2)), (4, .int (nI (j + 1)))]) hx hb dX2_pairCount_110 rfl hl (by decide) rfl (fun ls hl => ?_)
                      refine q_iinc (x := j + 1) (z := j + 2) (lv' := [(4, .int (nI (j + 2))), (3, .int (nI ((prc tx k1 k2 j) + 1))), (6, .int (nI 1)), (5, .int (nI 0)), (0, .ref (h 0)), (1, .int (nI k1)), (2, .int (nI k2))]) hx hb dX2_pairCount_111 hl (k := 6) rfl (dd := 1) rfl (by omega) (by decide) rfl (fun ls hl => ?_)
                      refine lv_goto (tgt := 22) hx hb dX2_pairCount_114 (by decide) ?_
                      have e1 : prc tx k1 k2 (j + 1) = (prc tx k1 k2 j) + 1 := by show prc tx k1 k2 j + _ = _; rw [if_pos (by omega)]
                      exact ih22  (j + 1) _ _ _ (by omega) (by first | omega | assumption) hV (by rw [e1]; exact lv_sub hl [4, 5, 6, 1, 0] rfl)
            · refine lv_aload_n hx hb dX2_pairCount_44 rfl (lv_at hl 0 rfl) ?_
              refine q_get (C := RX2) (T := TX2) (N := 20) (ci := 2) (v := .ref (h 1)) hx hb hts hin2 hown hK hV 0 rfl rfl 1 (by decide) (List.mem_of_getElem? (i := 3) rfl) rfl dX2_pairCount_45 ?_
              refine lv_iload hx hb dX2_pairCount_48 (lv_at hl 4 rfl) ?_
              refine q_iald (n := 60) (k := j + 1) (f := tx) hx hb hK hV 1 rfl (by omega) (by omega) dX2_pairCount_50 ?_
              have f6 := htx (j + 1)
              refine lv_iload_n hx hb dX2_pairCount_51 rfl (lv_at hl 2 rfl) ?_
              refine q_icmp_ne (x := (tx (j + 1))) (y := k2) (tgt := 59) hx hb dX2_pairCount_52 (by decide) (by omega) (by omega) (fun c52 => ?_) (fun c52 => ?_)
              · refine lv_iconst (v := nI 0) hx hb dX2_pairCount_59 (by decide) ?_
                refine lv_istore (lv' := [(5, .int (nI 0)), (0, .ref (h 0)), (1, .int (nI k1)), (2, .int (nI k2)), (3, .int (nI (prc tx k1 k2 j))), (4, .int (nI (j + 1)))]) hx hb dX2_pairCount_60 hl (by decide) rfl (fun ls hl => ?_)
                refine lv_aload_n hx hb dX2_pairCount_62 rfl (lv_at hl 1 rfl) ?_
                refine q_get (C := RX2) (T := TX2) (N := 20) (ci := 2) (v := .ref (h 1)) hx hb hts hin2 hown hK hV 0 rfl rfl 1 (by decide) (List.mem_of_getElem? (i := 3) rfl) rfl dX2_pairCount_63 ?_
                refine lv_iload hx hb dX2_pairCount_66 (lv_at hl 5 rfl) ?_
                refine lv_iconst (v := nI 1) hx hb dX2_pairCount_68 (by decide) ?_
                refine q_isub2 (x := j + 1) (y := 1) (z := j) hx hb (by omega) dX2_pairCount_69 ?_
                refine q_iald (n := 60) (k := j) (f := tx) hx hb hK hV 1 rfl (by omega) (by omega) dX2_pairCount_70 ?_
                have f7 := htx j
                refine lv_iload_n hx hb dX2_pairCount_71 rfl (lv_at hl 3 rfl) ?_
                refine q_icmp_ne (x := (tx j)) (y := k2) (tgt := 90) hx hb dX2_pairCount_72 (by decide) (by omega) (by omega) (fun c72 => ?_) (fun c72 => ?_)
                · refine lv_iconst (v := nI 0) hx hb dX2_pairCount_90 (by decide) ?_
                  refine lv_istore (lv' := [(6, .int (nI 0)), (5, .int (nI 0)), (0, .ref (h 0)), (1, .int (nI k1)), (2, .int (nI k2)), (3, .int (nI (prc tx k1 k2 j))), (4, .int (nI (j + 1)))]) hx hb dX2_pairCount_91 hl (by decide) rfl (fun ls hl => ?_)
                  refine lv_iload_n hx hb dX2_pairCount_93 rfl (lv_at hl 5 rfl) ?_
                  refine lv_iload hx hb dX2_pairCount_94 (lv_at hl 1 rfl) ?_
                  refine q_if_ne (x := 0) (tgt := 104) hx hb dX2_pairCount_96 (by decide) (by omega) (fun c96 => ?_) (fun c96 => ?_)
                  · exact absurd c96 (by decide)
                  · refine lv_iload hx hb dX2_pairCount_99 (lv_at hl 0 rfl) ?_
                    refine q_if_eq (x := 0) (tgt := 108) hx hb dX2_pairCount_101 (by decide) (by omega) (fun c101 => ?_) (fun c101 => ?_)
                    · refine lv_iconst (v := nI 0) hx hb dX2_pairCount_108 (by decide) ?_
                      refine q_iadd2 (x := (prc tx k1 k2 j)) (y := 0) (z := (prc tx k1 k2 j)) hx hb (by omega) dX2_pairCount_109 ?_
                      refine lv_istore_n (lv' := [(3, .int (nI (prc tx k1 k2 j))), (6, .int (nI 0)), (5, .int (nI 0)), (0, .ref (h 0)), (1, .int (nI k1)), (2, .int (nI k2)), (4, .int (nI (j + 1)))]) hx hb dX2_pairCount_110 rfl hl (by decide) rfl (fun ls hl => ?_)
                      refine q_iinc (x := j + 1) (z := j + 2) (lv' := [(4, .int (nI (j + 2))), (3, .int (nI (prc tx k1 k2 j))), (6, .int (nI 0)), (5, .int (nI 0)), (0, .ref (h 0)), (1, .int (nI k1)), (2, .int (nI k2))]) hx hb dX2_pairCount_111 hl (k := 6) rfl (dd := 1) rfl (by omega) (by decide) rfl (fun ls hl => ?_)
                      refine lv_goto (tgt := 22) hx hb dX2_pairCount_114 (by decide) ?_
                      have e1 : prc tx k1 k2 (j + 1) = (prc tx k1 k2 j) := by show prc tx k1 k2 j + _ = _; rw [if_neg (by omega), Nat.add_zero]
                      exact ih22  (j + 1) _ _ _ (by omega) (by first | omega | assumption) hV (by rw [e1]; exact lv_sub hl [4, 5, 6, 1, 0] rfl)
                    · exact absurd c101 (by decide)
                · refine lv_aload_n hx hb dX2_pairCount_75 rfl (lv_at hl 1 rfl) ?_
                  refine q_get (C := RX2) (T := TX2) (N := 20) (ci := 2) (v := .ref (h 1)) hx hb hts hin2 hown hK hV 0 rfl rfl 1 (by decide) (List.mem_of_getElem? (i := 3) rfl) rfl dX2_pairCount_76 ?_
                  refine lv_iload hx hb dX2_pairCount_79 (lv_at hl 5 rfl) ?_
                  refine q_iald (n := 60) (k := j + 1) (f := tx) hx hb hK hV 1 rfl (by omega) (by omega) dX2_pairCount_81 ?_
                  have f8 := htx (j + 1)
                  refine lv_iload_n hx hb dX2_pairCount_82 rfl (lv_at hl 2 rfl) ?_
                  refine q_icmp_ne (x := (tx (j + 1))) (y := k1) (tgt := 90) hx hb dX2_pairCount_83 (by decide) (by omega) (by omega) (fun c83 => ?_) (fun c83 => ?_)
                  · refine lv_iconst (v := nI 0) hx hb dX2_pairCount_90 (by decide) ?_
                    refine lv_istore (lv' := [(6, .int (nI 0)), (5, .int (nI 0)), (0, .ref (h 0)), (1, .int (nI k1)), (2, .int (nI k2)), (3, .int (nI (prc tx k1 k2 j))), (4, .int (nI (j + 1)))]) hx hb dX2_pairCount_91 hl (by decide) rfl (fun ls hl => ?_)
                    refine lv_iload_n hx hb dX2_pairCount_93 rfl (lv_at hl 5 rfl) ?_
                    refine lv_iload hx hb dX2_pairCount_94 (lv_at hl 1 rfl) ?_
                    refine q_if_ne (x := 0) (tgt := 104) hx hb dX2_pairCount_96 (by decide) (by omega) (fun c96 => ?_) (fun c96 => ?_)
                    · exact absurd c96 (by decide)
                    · refine lv_iload hx hb dX2_pairCount_99 (lv_at hl 0 rfl) ?_
                      refine q_if_eq (x := 0) (tgt := 108) hx hb dX2_pairCount_101 (by decide) (by omega) (fun c101 => ?_) (fun c101 => ?_)
                      · refine lv_iconst (v := nI 0) hx hb dX2_pairCount_108 (by decide) ?_
                        refine q_iadd2 (x := (prc tx k1 k2 j)) (y := 0) (z := (prc tx k1 k2 j)) hx hb (by omega) dX2_pairCount_109 ?_
                        refine lv_istore_n (lv' := [(3, .int (nI (prc tx k1 k2 j))), (6, .int (nI 0)), (5, .int (nI 0)), (0, .ref (h 0)), (1, .int (nI k1)), (2, .int (nI k2)), (4, .int (nI (j + 1)))]) hx hb dX2_pairCount_110 rfl hl (by decide) rfl (fun ls hl => ?_)
                        refine q_iinc (x := j + 1) (z := j + 2) (lv' := [(4, .int (nI (j + 2))), (3, .int (nI (prc tx k1 k2 j))), (6, .int (nI 0)), (5, .int (nI 0)), (0, .ref (h 0)), (1, .int (nI k1)), (2, .int (nI k2))]) hx hb dX2_pairCount_111 hl (k := 6) rfl (dd := 1) rfl (by omega) (by decide) rfl (fun ls hl => ?_)
                        refine lv_goto (tgt := 22) hx hb dX2_pairCount_114 (by decide) ?_
                        have e1 : prc tx k1 k2 (j + 1) = (prc tx k1 k2 j) := by show prc tx k1 k2 j + _ = _; rw [if_neg (by omega), Nat.add_zero]
                        exact ih22  (j + 1) _ _ _ (by omega) (by first | omega | assumption) hV (by rw [e1]; exact lv_sub hl [4, 5, 6, 1, 0] rfl)
                      · exact absurd c101 (by decide)
                  · refine lv_iconst (v := nI 1) hx hb dX2_pairCount_86 (by decide) ?_
                    refine lv_goto (tgt := 91) hx hb dX2_pairCount_87 (by decide) ?_
                    refine lv_istore (lv' := [(6, .int (nI 1)), (5, .int (nI 0)), (0, .ref (h 0)), (1, .int (nI k1)), (2, .int (nI k2)), (3, .int (nI (prc tx k1 k2 j))), (4, .int (nI (j + 1)))]) hx hb dX2_pairCount_91 hl (by decide) rfl (fun ls hl => ?_)
                    refine lv_iload_n hx hb dX2_pairCount_93 rfl (lv_at hl 5 rfl) ?_
                    refine lv_iload hx hb dX2_pairCount_94 (lv_at hl 1 rfl) ?_
                    refine q_if_ne (x := 0) (tgt := 104) hx hb dX2_pairCount_96 (by decide) (by omega) (fun c96 => ?_) (fun c96 => ?_)
                    · exact absurd c96 (by decide)
                    · refine lv_iload hx hb dX2_pairCount_99 (lv_at hl 0 rfl) ?_
                      refine q_if_eq (x := 1) (tgt := 108) hx hb dX2_pairCount_101 (by decide) (by omega) (fun c101 => ?_) (fun c101 => ?_)
                      · exact absurd c101 (by decide)
                      · refine lv_iconst (v := nI 1) hx hb dX2_pairCount_104 (by decide) ?_
                        refine lv_goto (tgt := 109) hx hb dX2_pairCount_105 (by decide) ?_
                        refine q_iadd2 (x := (prc tx k1 k2 j)) (y := 1) (z := (prc tx k1 k2 j) + 1) hx hb (by omega) dX2_pairCount_109 ?_
                        refine lv_istore_n (lv' := [(3, .int (nI ((prc tx k1 k2 j) + 1))), (6, .int (nI 1)), (5, .int (nI 0)), (0, .ref (h 0)), (1, .int (nI k1)), (2, .int (nI k2)), (4, .int (nI (j + 1)))]) hx hb dX2_pairCount_110 rfl hl (by decide) rfl (fun ls hl => ?_)
                        refine q_iinc (x := j + 1) (z := j + 2) (lv' := [(4, .int (nI (j + 2))), (3, .int (nI ((prc tx k1 k2 j) + 1))), (6, .int (nI 1)), (5, .int (nI 0)), (0, .ref (h 0)), (1, .int (nI k1)), (2, .int (nI k2))]) hx hb dX2_pairCount_111 hl (k := 6) rfl (dd := 1) rfl (by omega) (by decide) rfl (fun ls hl => ?_)
                        refine lv_goto (tgt := 22) hx hb dX2_pairCount_114 (by decide) ?_
                        have e1 : prc tx k1 k2 (j + 1) = (prc tx k1 k2 j) + 1 := by show prc tx k1 k2 j + _ = _; rw [if_pos (by omega)]
                        exact ih22  (j + 1) _ _ _ (by omega) (by first | omega | assumption) hV (by rw [e1]; exact lv_sub hl [4, 5, 6, 1, 0] rfl)
              · refine lv_iconst (v := nI 1) hx hb dX2_pairCount_55 (by decide) ?_
                refine lv_goto (tgt := 60) hx hb dX2_pairCount_56 (by decide) ?_
                refine lv_istore (lv' := [(5, .int (nI 1)), (0, .ref (h 0)), (1, .int (nI k1)), (2, .int (nI k2)), (3, .int (nI (prc tx k1 k2 j))), (4, .int (nI (j + 1)))]) hx hb dX2_pairCount_60 hl (by decide) rfl (fun ls hl => ?_)
                refine lv_aload_n hx hb dX2_pairCount_62 rfl (lv_at hl 1 rfl) ?_
                refine q_get (C := RX2) (T := TX2) (N := 20) (ci := 2) (v := .ref (h 1)) hx hb hts hin2 hown hK hV 0 rfl rfl 1 (by decide) (List.mem_of_getElem? (i := 3) rfl) rfl dX2_pairCount_63 ?_
                refine lv_iload hx hb dX2_pairCount_66 (lv_at hl 5 rfl) ?_
                refine lv_iconst (v := nI 1) hx hb dX2_pairCount_68 (by decide) ?_
                refine q_isub2 (x := j + 1) (y := 1) (z := j) hx hb (by omega) dX2_pairCount_69 ?_
                refine q_iald (n := 60) (k := j) (f := tx) hx hb hK hV 1 rfl (by omega) (by omega) dX2_pairCount_70 ?_
                have f9 := htx j
                refine lv_iload_n hx hb dX2_pairCount_71 rfl (lv_at hl 3 rfl) ?_
                refine q_icmp_ne (x := (tx j)) (y := k2) (tgt := 90) hx hb dX2_pairCount_72 (by decide) (by omega) (by omega) (fun c72 => ?_) (fun c72 => ?_)
                · refine lv_iconst (v := nI 0) hx hb dX2_pairCount_90 (by decide) ?_
                  refine lv_istore (lv' := [(6, .int (nI 0)), (5, .int (nI 1)), (0, .ref (h 0)), (1, .int (nI k1)), (2, .int (nI k2)), (3, .int (nI (prc tx k1 k2 j))), (4, .int (nI (j + 1)))]) hx hb dX2_pairCount_91 hl (by decide) rfl (fun ls hl => ?_)
                  refine lv_iload_n hx hb dX2_pairCount_93 rfl (lv_at hl 5 rfl) ?_
                  refine lv_iload hx hb dX2_pairCount_94 (lv_at hl 1 rfl) ?_
                  refine q_if_ne (x := 1) (tgt := 104) hx hb dX2_pairCount_96 (by decide) (by omega) (fun c96 => ?_) (fun c96 => ?_)
                  · refine lv_iconst (v := nI 1) hx hb dX2_pairCount_104 (by decide) ?_
                    refine lv_goto (tgt := 109) hx hb dX2_pairCount_105 (by decide) ?_
                    refine q_iadd2 (x := (prc tx k1 k2 j)) (y := 1) (z := (prc tx k1 k2 j) + 1) hx hb (by omega) dX2_pairCount_109 ?_
                    refine lv_istore_n (lv' := [(3, .int (nI ((prc tx k1 k2 j) + 1))), (6, .int (nI 0)), (5, .int (nI 1)), (0, .ref (h 0)), (1, .int (nI k1)), (2, .int (nI k2)), (4, .int (nI (j + 1)))]) hx hb dX2_pairCount_110 rfl hl (by decide) rfl (fun ls hl => ?_)
                    refine q_iinc (x := j + 1) (z := j + 2) (lv' := [(4, .int (nI (j + 2))), (3, .int (nI ((prc tx k1 k2 j) + 1))), (6, .int (nI 0)), (5, .int (nI 1)), (0, .ref (h 0)), (1, .int (nI k1)), (2, .int (nI k2))]) hx hb dX2_pairCount_111 hl (k := 6) rfl (dd := 1) rfl (by omega) (by decide) rfl (fun ls hl => ?_)
                    refine lv_goto (tgt := 22) hx hb dX2_pairCount_114 (by decide) ?_
                    have e1 : prc tx k1 k2 (j + 1) = (prc tx k1 k2 j) + 1 := by show prc tx k1 k2 j + _ = _; rw [if_pos (by omega)]
                    exact ih22  (j + 1) _ _ _ (by omega) (by first | omega | assumption) hV (by rw [e1]; exact lv_sub hl [4, 5, 6, 1, 0] rfl)
                  · exact absurd c96 (by decide)
                · refine lv_aload_n hx hb dX2_pairCount_75 rfl (lv_at hl 1 rfl) ?_
                  refine q_get (C := RX2) (T := TX2) (N := 20) (ci := 2) (v := .ref (h 1)) hx hb hts hin2 hown hK hV 0 rfl rfl 1 (by decide) (List.mem_of_getElem? (i := 3) rfl) rfl dX2_pairCount_76 ?_
                  refine lv_iload hx hb dX2_pairCount_79 (lv_at hl 5 rfl) ?_
                  refine q_iald (n := 60) (k := j + 1) (f := tx) hx hb hK hV 1 rfl (by omega) (by omega) dX2_pairCount_81 ?_
                  have f10 := htx (j + 1)
                  refine lv_iload_n hx hb dX2_pairCount_82 rfl (lv_at hl 2 rfl) ?_
                  refine q_icmp_ne (x := (tx (j + 1))) (y := k1) (tgt := 90) hx hb dX2_pairCount_83 (by decide) (by omega) (by omega) (fun c83 => ?_) (fun c83 => ?_)
                  · refine lv_iconst (v := nI 0) hx hb dX2_pairCount_90 (by decide) ?_
                    refine lv_istore (lv' := [(6, .int (nI 0)), (5, .int (nI 1)), (0, .ref (h 0)), (1, .int (nI k1)), (2, .int (nI k2)), (3, .int (nI (prc tx k1 k2 j))), (4, .int (nI (j + 1)))]) hx hb dX2_pairCount_91 hl (by decide) rfl (fun ls hl => ?_)
                    refine lv_iload_n hx hb dX2_pairCount_93 rfl (lv_at hl 5 rfl) ?_
                    refine lv_iload hx hb dX2_pairCount_94 (lv_at hl 1 rfl) ?_
                    refine q_if_ne (x := 1) (tgt := 104) hx hb dX2_pairCount_96 (by decide) (by omega) (fun c96 => ?_) (fun c96 => ?_)
                    · refine lv_iconst (v := nI 1) hx hb dX2_pairCount_104 (by decide) ?_
                      refine lv_goto (tgt := 109) hx hb dX2_pairCount_105 (by decide) ?_
                      refine q_iadd2 (x := (prc tx k1 k2 j)) (y := 1) (z := (prc tx k1 k2 j) + 1) hx hb (by omega) dX2_pairCount_109 ?_
                      refine lv_istore_n (lv' := [(3, .int (nI ((prc tx k1 k2 j) + 1))), (6, .int (nI 0)), (5, .int (nI 1)), (0, .ref (h 0)), (1, .int (nI k1)), (2, .int (nI k2)), (4, .int (nI (j + 1)))]) hx hb dX2_pairCount_110 rfl hl (by decide) rfl (fun ls hl => ?_)
                      refine q_iinc (x := j + 1) (z := j + 2) (lv' := [(4, .int (nI (j + 2))), (3, .int (nI ((prc tx k1 k2 j) + 1))), (6, .int (nI 0)), (5, .int (nI 1)), (0, .ref (h 0)), (1, .int (nI k1)), (2, .int (nI k2))]) hx hb dX2_pairCount_111 hl (k := 6) rfl (dd := 1) rfl (by omega) (by decide) rfl (fun ls hl => ?_)
                      refine lv_goto (tgt := 22) hx hb dX2_pairCount_114 (by decide) ?_
                      have e1 : prc tx k1 k2 (j + 1) = (prc tx k1 k2 j) + 1 := by show prc tx k1 k2 j + _ = _; rw [if_pos (by omega)]
                      exact ih22  (j + 1) _ _ _ (by omega) (by first | omega | assumption) hV (by rw [e1]; exact lv_sub hl [4, 5, 6, 1, 0] rfl)
                    · exact absurd c96 (by decide)
                  · refine lv_iconst (v := nI 1) hx hb dX2_pairCount_86 (by decide) ?_
                    refine lv_goto (tgt := 91) hx hb dX2_pairCount_87 (by decide) ?_
                    refine lv_istore (lv' := [(6, .int (nI 1)), (5, .int (nI 1)), (0, .ref (h 0)), (1, .int (nI k1)), (2, .int (nI k2)), (3, .int (nI (prc tx k1 k2 j))), (4, .int (nI (j + 1)))]) hx hb dX2_pairCount_91 hl (by decide) rfl (fun ls hl => ?_)
                    refine lv_iload_n hx hb dX2_pairCount_93 rfl (lv_at hl 5 rfl) ?_
                    refine lv_iload hx hb dX2_pairCount_94 (lv_at hl 1 rfl) ?_
                    refine q_if_ne (x := 1) (tgt := 104) hx hb dX2_pairCount_96 (by decide) (by omega) (fun c96 => ?_) (fun c96 => ?_)
                    · refine lv_iconst (v := nI 1) hx hb dX2_pairCount_104 (by decide) ?_
                      refine lv_goto (tgt := 109) hx hb dX2_pairCount_105 (by decide) ?_
                      refine q_iadd2 (x := (prc tx k1 k2 j)) (y := 1) (z := (prc tx k1 k2 j) + 1) hx hb (by omega) dX2_pairCount_109 ?_
                      refine lv_istore_n (lv' := [(3, .int (nI ((prc tx k1 k2 j) + 1))), (6, .int (nI 1)), (5, .int (nI 1)), (0, .ref (h 0)), (1, .int (nI k1)), (2, .int (nI k2)), (4, .int (nI (j + 1)))]) hx hb dX2_pairCount_110 rfl hl (by decide) rfl (fun ls hl => ?_)
                      refine q_iinc (x := j + 1) (z := j + 2) (lv' := [(4, .int (nI (j + 2))), (3, .int (nI ((prc tx k1 k2 j) + 1))), (6, .int (nI 1)), (5, .int (nI 1)), (0, .ref (h 0)), (1, .int (nI k1)), (2, .int (nI k2))]) hx hb dX2_pairCount_111 hl (k := 6) rfl (dd := 1) rfl (by omega) (by decide) rfl (fun ls hl => ?_)
                      refine lv_goto (tgt := 22) hx hb dX2_pairCount_114 (by decide) ?_
                      have e1 : prc tx k1 k2 (j + 1) = (prc tx k1 k2 j) + 1 := by show prc tx k1 k2 j + _ = _; rw [if_pos (by omega)]
                      exact ih22  (j + 1) _ _ _ (by omega) (by first | omega | assumption) hV (by rw [e1]; exact lv_sub hl [4, 5, 6, 1, 0] rfl)
                    · exact absurd c96 (by decide)
      exact lp22 61 0 _ _ _ (by omega) (by first | omega | assumption) hV (lv_sub hl [2, 3, 4, 1, 0] rfl)
    · refine lv_ldc (v := -1000003) hx hb hown (hts _ (List.mem_of_getElem? (i := 1) rfl)) dX2_pairCount_14 ?_
      exact q_iret (W1 := wD h cA n tx T C K P L u ua ub pm jm lm du lt hh) hx hb hr hlocks hV dX2_pairCount_16 ⟨(aPair_no (by omega)).symm, rfl⟩
abbrev rm_X2_setTravelTime : Room := { frames := 1, cells := 0, slots := 0, locals := 22 }
set_option maxHeartbeats 4000000 in
set_option maxRecDepth 100000 in
theorem c_X2_setTravelTime (l : Launch) (D : va_G) (h : Nat → Nat) (cA : ClassId) (n : Nat) (tx : Nat → Nat) (T : Nat) (C : Nat) (K : Nat) (P : Nat → Nat) (L : Nat → Nat) (u : Nat) (ua : Nat → Nat) (ub : Nat → Nat) (pm : Nat) (jm : Nat) (lm : Nat) (du : Nat) (lt : Nat) (hh : Int64) (v1 : Int32)   : CTi l D cA yX2_setTravelTime wsX2_setTravelTime rm_X2_setTravelTime [.ref (h 0), .int v1] (wD h cA n tx T C K P L u ua ub pm jm lm du lt hh) (fun r W1 => r = aSet 1 20 T v1 ∧ W1 = wD h cA n tx (nSet 1 20 T v1) C K P L u ua ub pm jm lm du lt hh) := by
  refine CTi.mk (cc := cX2_setTravelTime) (maxL := 3) (ret := some .int) (by decide) rfl (Nat.le_of_ble_eq_true rfl) ?_
  intro p e s m below meth c A ls E hV hl
  obtain ⟨hx, hb, hml, hr, hown, hts, hlocks, hK, hA, hN⟩ := E
  have hown : s.vm.findClass RX2 = some m.cls := hown
  have hin2 : ∀ w ∈ wsX20, w ∈ wsX2_setTravelTime := fun _ h => List.mem_cons_of_mem _ (List.mem_append_right _ h)
  have hl : lv_has ls 3 [(0, .ref (h 0)), (1, .int v1)] := hl
  refine lv_iload_n hx hb dX2_setTravelTime_0 rfl (lv_at hl 1 rfl) ?_
  refine lv_iconst (v := nI 1) hx hb dX2_setTravelTime_1 (by decide) ?_
  refine lv_bipush (v := nI 20) hx hb dX2_setTravelTime_2 (by decide) ?_
  refine k_S_i (w0 := wD h cA n tx T C K P L u ua ub pm jm lm du lt hh) (wc := ([] : va_W)) (As := [.int v1, .int (nI 1), .int (nI 20)]) (rest := []) hx hb hml hown hts hK hA hN hV hl.1 (c_X2_within l D cA v1 (nI 1) (nI 20)  ) gX2_setTravelTime_X2_within rfl rfl rfl hdX2_within ⟨Nat.le_of_ble_eq_true rfl, Nat.le_of_ble_eq_true rfl⟩ rfl rfl (Nat.le_of_ble_eq_true rfl) dX2_setTravelTime_4 ⟨Nat.zero_le _, Nat.zero_le _⟩ (fun r W1 H locs hp hV => ?_)
  obtain ⟨hp1, hp2⟩ := hp
  replace hp1 := hp1.symm
  subst hp1
  replace hp2 := hp2.symm
  subst hp2
  have hV : qV D A s.heap (wD h cA n tx T C K P L u ua ub pm jm lm du lt hh) H locs := hV
  have f1 := wi_le v1 (nI 1) (nI 20)
  refine q_top (congrArg nI (wi_ok (lo := 1) (hi := 20) (by decide) (by decide))) ?_
  have := okR_le 1 20 v1
  refine q_if_ne (x := (okR 1 20 v1)) (tgt := 13) hx hb dX2_setTravelTime_7 (by decide) (by omega) (fun c7 => ?_) (fun c7 => ?_)
  · obtain ⟨k1, hk0, hk1, rfl⟩ := okR_1 (lo := 1) (hi := 20) (by decide) c7
    refine lv_aload_n hx hb dX2_setTravelTime_13 rfl (lv_at hl 0 rfl) ?_
    refine q_get (C := RX2) (T := TX2) (N := 20) (ci := 2) (v := .int (nI T)) hx hb hts hin2 hown hK hV 0 rfl rfl 2 (by decide) (List.mem_of_getElem? (i := 2) rfl) rfl dX2_setTravelTime_14 ?_
    refine lv_istore_n (lv' := [(2, .int (nI T)), (0, .ref (h 0)), (1, .int (nI k1))]) hx hb dX2_setTravelTime_17 rfl hl (by decide) rfl (fun ls hl => ?_)
    refine lv_aload_n hx hb dX2_setTravelTime_18 rfl (lv_at hl 1 rfl) ?_
    refine lv_iload_n hx hb dX2_setTravelTime_19 rfl (lv_at hl 2 rfl) ?_
    refine q_put (C := RX2) (T := TX2) (N := 20) (ci := 2) (v := .int (nI k1)) (wD h cA n tx k1 C K P L u ua ub pm jm lm du lt hh) hx hb hts hin2 tyX2 tyX2_ok nmX2 hown hK hV 0 rfl rfl 2 (by decide) (List.mem_of_getElem? (i := 2) rfl) rfl rfl rfl (Nat.le_of_ble_eq_true rfl) rfl dX2_setTravelTime_20 (fun H locs hV => ?_)
    refine lv_iload_n hx hb dX2_setTravelTime_23 rfl (lv_at hl 0 rfl) ?_
    exact q_iret (W1 := wD h cA n tx k1 C K P L u ua ub pm jm lm du lt hh) hx hb hr hlocks hV dX2_setTravelTime_24 ⟨(aSet_ok hk0 hk1 (by decide)).symm, by rw [nSet_ok hk0 hk1 (by decide)]⟩
  · refine lv_ldc (v := -1000003) hx hb hown (hts _ (List.mem_of_getElem? (i := 1) rfl)) dX2_setTravelTime_10 ?_
    exact q_iret (W1 := wD h cA n tx T C K P L u ua ub pm jm lm du lt hh) hx hb hr hlocks hV dX2_setTravelTime_12 ⟨(aSet_no c7).symm, by rw [nSet_no c7]⟩
abbrev rm_X2_setClashDistance : Room := { frames := 1, cells := 0, slots := 0, locals := 22 }
set_option maxHeartbeats 4000000 in
set_option maxRecDepth 100000 in
theorem c_X2_setClashDistance (l : Launch) (D : va_G) (h : Nat → Nat) (cA : ClassId) (n : Nat) (tx : Nat → Nat) (T : Nat) (C : Nat) (K : Nat) (P : Nat → Nat) (L : Nat → Nat) (u : Nat) (ua : Nat → Nat) (ub : Nat → Nat) (pm : Nat) (jm : Nat) (lm : Nat) (du : Nat) (lt : Nat) (hh : Int64) (v1 : Int32)   : CTi l D cA yX2_setClashDistance wsX2_setClashDistance rm_X2_setClashDistance [.ref (h 0), .int v1] (wD h cA n tx T C K P L u ua ub pm jm lm du lt hh) (fun r W1 => r = aSet 1 5 C v1 ∧ W1 = wD h cA n tx T (nSet 1 5 C v1) K P L u ua ub pm jm lm du lt hh) := by
  refine CTi.mk (cc := cX2_setClashDistance) (maxL := 3) (ret := some .int) (by decide) rfl (Nat.le_of_ble_eq_true rfl) ?_
  intro p e s m below meth c A ls E hV hl
  obtain ⟨hx, hb, hml, hr, hown, hts, hlocks, hK, hA, hN⟩ := E
  have hown : s.vm.findClass RX2 = some m.cls := hown
  have hin2 : ∀ w ∈ wsX20, w ∈ wsX2_setClashDistance := fun _ h => List.mem_cons_of_mem _ (List.mem_append_right _ h)
  have hl : lv_has ls 3 [(0, .ref (h 0)), (1, .int v1)] := hl
  refine lv_iload_n hx hb dX2_setClashDistance_0 rfl (lv_at hl 1 rfl) ?_
  refine lv_iconst (v := nI 1) hx hb dX2_setClashDistance_1 (by decide) ?_
  refine lv_iconst (v := nI 5) hx hb dX2_setClashDistance_2 (by decide) ?_
  refine k_S_i (w0 := wD h cA n tx T C K P L u ua ub pm jm lm du lt hh) (wc := ([] : va_W)) (As := [.int v1, .int (nI 1), .int (nI 5)]) (rest := []) hx hb hml hown hts hK hA hN hV hl.1 (c_X2_within l D cA v1 (nI 1) (nI 5)  ) gX2_setClashDistance_X2_within rfl rfl rfl hdX2_within ⟨Nat.le_of_ble_eq_true rfl, Nat.le_of_ble_eq_true rfl⟩ rfl rfl (Nat.le_of_ble_eq_true rfl) dX2_setClashDistance_3 ⟨Nat.zero_le _, Nat.zero_le _⟩ (fun r W1 H locs hp hV => ?_)
  obtain ⟨hp1, hp2⟩ := hp
  replace hp1 := hp1.symm
  subst hp1
  replace hp2 := hp2.symm
  subst hp2
  have hV : qV D A s.heap (wD h cA n tx T C K P L u ua ub pm jm lm du lt hh) H locs := hV
  have f1 := wi_le v1 (nI 1) (nI 5)
  refine q_top (congrArg nI (wi_ok (lo := 1) (hi := 5) (by decide) (by decide))) ?_
  have := okR_le 1 5 v1
  refine q_if_ne (x := (okR 1 5 v1)) (tgt := 12) hx hb dX2_setClashDistance_6 (by decide) (by omega) (fun c6 => ?_) (fun c6 => ?_)
  · obtain ⟨k1, hk0, hk1, rfl⟩ := okR_1 (lo := 1) (hi := 5) (by decide) c6
    refine lv_aload_n hx hb dX2_setClashDistance_12 rfl (lv_at hl 0 rfl) ?_
    refine q_get (C := RX2) (T := TX2) (N := 20) (ci := 2) (v := .int (nI C)) hx hb hts hin2 hown hK hV 0 rfl rfl 3 (by decide) (List.mem_of_getElem? (i := 2) rfl) rfl dX2_setClashDistance_13 ?_
    refine lv_istore_n (lv' := [(2, .int (nI C)), (0, .ref (h 0)), (1, .int (nI k1))]) hx hb dX2_setClashDistance_16 rfl hl (by decide) rfl (fun ls hl => ?_)
    refine lv_aload_n hx hb dX2_setClashDistance_17 rfl (lv_at hl 1 rfl) ?_
    refine lv_iload_n hx hb dX2_setClashDistance_18 rfl (lv_at hl 2 rfl) ?_
    refine q_put (C := RX2) (T := TX2) (N := 20) (ci := 2) (v := .int (nI k1)) (wD h cA n tx T k1 K P L u ua ub pm jm lm du lt hh) hx hb hts hin2 tyX2 tyX2_ok nmX2 hown hK hV 0 rfl rfl 3 (by decide) (List.mem_of_getElem? (i := 2) rfl) rfl rfl rfl (Nat.le_of_ble_eq_true rfl) rfl dX2_setClashDistance_19 (fun H locs hV => ?_)
    refine lv_iload_n hx hb dX2_setClashDistance_22 rfl (lv_at hl 0 rfl) ?_
    exact q_iret (W1 := wD h cA n tx T k1 K P L u ua ub pm jm lm du lt hh) hx hb hr hlocks hV dX2_setClashDistance_23 ⟨(aSet_ok hk0 hk1 (by decide)).symm, by rw [nSet_ok hk0 hk1 (by decide)]⟩
  · refine lv_ldc (v := -1000003) hx hb hown (hts _ (List.mem_of_getElem? (i := 1) rfl)) dX2_setClashDistance_9 ?_
    exact q_iret (W1 := wD h cA n tx T C K P L u ua ub pm jm lm du lt hh) hx hb hr hlocks hV dX2_setClashDistance_11 ⟨(aSet_no c6).symm, by rw [nSet_no c6]⟩
abbrev rm_X2_setClearingTime : Room := { frames := 1, cells := 0, slots := 0, locals := 22 }
set_option maxHeartbeats 4000000 in
set_option maxRecDepth 100000 in
theorem c_X2_setClearingTime (l : Launch) (D : va_G) (h : Nat → Nat) (cA : ClassId) (n : Nat) (tx : Nat → Nat) (T : Nat) (C : Nat) (K : Nat) (P : Nat → Nat) (L : Nat → Nat) (u : Nat) (ua : Nat → Nat) (ub : Nat → Nat) (pm : Nat) (jm : Nat) (lm : Nat) (du : Nat) (lt : Nat) (hh : Int64) (v1 : Int32)   : CTi l D cA yX2_setClearingTime wsX2_setClearingTime rm_X2_setClearingTime [.ref (h 0), .int v1] (wD h cA n tx T C K P L u ua ub pm jm lm du lt hh) (fun r W1 => r = aSet 0 50 K v1 ∧ W1 = wD h cA n tx T C (nSet 0 50 K v1) P L u ua ub pm jm lm du lt hh) := by
  refine CTi.mk (cc := cX2_setClearingTime) (maxL := 3) (ret := some .int) (by decide) rfl (Nat.le_of_ble_eq_true rfl) ?_
  intro p e s m below meth c A ls E hV hl
  obtain ⟨hx, hb, hml, hr, hown, hts, hlocks, hK, hA, hN⟩ := E
  have hown : s.vm.findClass RX2 = some m.cls := hown
  have hin2 : ∀ w ∈ wsX20, w ∈ wsX2_setClearingTime := fun _ h => List.mem_cons_of_mem _ (List.mem_append_right _ h)
  have hl : lv_has ls 3 [(0, .ref (h 0)), (1, .int v1)] := hl
  refine lv_iload_n hx hb dX2_setClearingTime_0 rfl (lv_at hl 1 rfl) ?_
  refine lv_iconst (v := nI 0) hx hb dX2_setClearingTime_1 (by decide) ?_
  refine lv_bipush (v := nI 50) hx hb dX2_setClearingTime_2 (by decide) ?_
  refine k_S_i (w0 := wD h cA n tx T C K P L u ua ub pm jm lm du lt hh) (wc := ([] : va_W)) (As := [.int v1, .int (nI 0), .int (nI 50)]) (rest := []) hx hb hml hown hts hK hA hN hV hl.1 (c_X2_within l D cA v1 (nI 0) (nI 50)  ) gX2_setClearingTime_X2_within rfl rfl rfl hdX2_within ⟨Nat.le_of_ble_eq_true rfl, Nat.le_of_ble_eq_true rfl⟩ rfl rfl (Nat.le_of_ble_eq_true rfl) dX2_setClearingTime_4 ⟨Nat.zero_le _, Nat.zero_le _⟩ (fun r W1 H locs hp hV => ?_)
  obtain ⟨hp1, hp2⟩ := hp
  replace hp1 := hp1.symm
  subst hp1
  replace hp2 := hp2.symm
  subst hp2
  have hV : qV D A s.heap (wD h cA n tx T C K P L u ua ub pm jm lm du lt hh) H locs := hV
  have f1 := wi_le v1 (nI 0) (nI 50)
  refine q_top (congrArg nI (wi_ok (lo := 0) (hi := 50) (by decide) (by decide))) ?_
  have := okR_le 0 50 v1
  refine q_if_ne (x := (okR 0 50 v1)) (tgt := 13) hx hb dX2_setClearingTime_7 (by decide) (by omega) (fun c7 => ?_) (fun c7 => ?_)
  · obtain ⟨k1, hk0, hk1, rfl⟩ := okR_1 (lo := 0) (hi := 50) (by decide) c7
    refine lv_aload_n hx hb dX2_setClearingTime_13 rfl (lv_at hl 0 rfl) ?_
    refine q_get (C := RX2) (T := TX2) (N := 20) (ci := 2) (v := .int (nI K)) hx hb hts hin2 hown hK hV 0 rfl rfl 4 (by decide) (List.mem_of_getElem? (i := 2) rfl) rfl dX2_setClearingTime_14 ?_
    refine lv_istore_n (lv' := [(2, .int (nI K)), (0, .ref (h 0)), (1, .int (nI k1))]) hx hb dX2_setClearingTime_17 rfl hl (by decide) rfl (fun ls hl => ?_)
    refine lv_aload_n hx hb dX2_setClearingTime_18 rfl (lv_at hl 1 rfl) ?_
    refine lv_iload_n hx hb dX2_setClearingTime_19 rfl (lv_at hl 2 rfl) ?_
    refine q_put (C := RX2) (T := TX2) (N := 20) (ci := 2) (v := .int (nI k1)) (wD h cA n tx T C k1 P L u ua ub pm jm lm du lt hh) hx hb hts hin2 tyX2 tyX2_ok nmX2 hown hK hV 0 rfl rfl 4 (by decide) (List.mem_of_getElem? (i := 2) rfl) rfl rfl rfl (Nat.le_of_ble_eq_true rfl) rfl dX2_setClearingTime_20 (fun H locs hV => ?_)
    refine lv_iload_n hx hb dX2_setClearingTime_23 rfl (lv_at hl 0 rfl) ?_
    exact q_iret (W1 := wD h cA n tx T C k1 P L u ua ub pm jm lm du lt hh) hx hb hr hlocks hV dX2_setClearingTime_24 ⟨(aSet_ok hk0 hk1 (by decide)).symm, by rw [nSet_ok hk0 hk1 (by decide)]⟩
  · refine lv_ldc (v := -1000003) hx hb hown (hts _ (List.mem_of_getElem? (i := 1) rfl)) dX2_setClearingTime_10 ?_
    exact q_iret (W1 := wD h cA n tx T C K P L u ua ub pm jm lm du lt hh) hx hb hr hlocks hV dX2_setClearingTime_12 ⟨(aSet_no c7).symm, by rw [nSet_no c7]⟩
abbrev rm_X2_isLayout : Room := { frames := 0, cells := 0, slots := 0, locals := 0 }
set_option maxHeartbeats 4000000 in
set_option maxRecDepth 100000 in
theorem c_X2_isLayout (l : Launch) (D : va_G) (h : Nat → Nat) (cA : ClassId) (n : Nat) (tx : Nat → Nat) (T : Nat) (C : Nat) (K : Nat) (P : Nat → Nat) (L : Nat → Nat) (u : Nat) (ua : Nat → Nat) (ub : Nat → Nat) (pm : Nat) (jm : Nat) (lm : Nat) (du : Nat) (lt : Nat) (hh : Int64)   (hn : n ≤ 60) (htx : ∀ i, tx i < 12) : CTi l D cA yX2_isLayout wsX2_isLayout rm_X2_isLayout [.ref (h 0)] (wD h cA n tx T C K P L u ua ub pm jm lm du lt hh) (fun r W1 => r = nI (isLy n tx) ∧ W1 = wD h cA n tx T C K P L u ua ub pm jm lm du lt hh) := by
  refine CTi.mk (cc := cX2_isLayout) (maxL := 3) (ret := some .boolean) (by decide) rfl (Nat.le_of_ble_eq_true rfl) ?_
  intro p e s m below meth c A ls E hV hl
  obtain ⟨hx, hb, hml, hr, hown, hts, hlocks, hK, hA, hN⟩ := E
  have hown : s.vm.findClass RX2 = some m.cls := hown
  have hin2 : ∀ w ∈ wsX20, w ∈ wsX2_isLayout := fun _ h => List.mem_cons_of_mem _ (List.mem_append_right _ h)
  have hl : lv_has ls 3 [(0, .ref (h 0))] := hl
  refine lv_iconst (v := nI 0) hx hb dX2_isLayout_0 (by decide) ?_
  refine lv_istore_n (lv' := [(1, .int (nI 0)), (0, .ref (h 0))]) hx hb dX2_isLayout_1 rfl hl (by decide) rfl (fun ls hl => ?_)
  refine lv_iconst (v := nI 0) hx hb dX2_isLayout_2 (by decide) ?_
  refine lv_istore_n (lv' := [(2, .int (nI 0)), (1, .int (nI 0)), (0, .ref (h 0))]) hx hb dX2_isLayout_3 rfl hl (by decide) rfl (fun ls hl => ?_)
  have lp4 : ∀ (d4 : Nat) (j : Nat) (H : Heap) (locs : List Loc) (ls : Array Slot), (61 ≤ j + d4) → (j ≤ n) → qV D A s.heap (wD h cA n tx T C K P L u ua ub pm jm lm du lt hh) H locs → lv_has ls 3 [(0, .ref (h 0)), (1, .int (msk tx j)), (2, .int (nI j))] → W p l e rm_X2_isLayout s m ([.ref (h 0)] : List Value).toArray below meth c H locs 0 0 (MQ below (va_Qi (fun r W1 => r = nI (isLy n tx) ∧ W1 = wD h cA n tx T C K P L u ua ub pm jm lm du lt hh) (cPost D A) A) ([.ref (h 0)] : List Value).toArray s 0 0 A) (F0 m 4 ls []) := by
    intro d4
    induction d4 with
    | zero => intro j H locs ls hm4 hj hV hl; exfalso; omega
    | succ d4 ih4 =>
      intro j H locs ls hm4 hj hV hl
      refine lv_iload_n hx hb dX2_isLayout_4 rfl (lv_at hl 2 rfl) ?_
      refine lv_aload_n hx hb dX2_isLayout_5 rfl (lv_at hl 0 rfl) ?_
      refine q_get (C := RX2) (T := TX2) (N := 20) (ci := 2) (v := .int (nI n)) hx hb hts hin2 hown hK hV 0 rfl rfl 0 (by decide) (List.mem_of_getElem? (i := 1) rfl) rfl dX2_isLayout_6 ?_
      refine q_icmp_ge (x := j) (y := n) (tgt := 29) hx hb dX2_isLayout_9 (by decide) (by omega) (by omega) (fun c9 => ?_) (fun c9 => ?_)
      · have ej : n = j := by omega
        subst ej
        refine lv_aload_n hx hb dX2_isLayout_29 rfl (lv_at hl 0 rfl) ?_
        refine q_get (C := RX2) (T := TX2) (N := 20) (ci := 2) (v := .int (nI n)) hx hb hts hin2 hown hK hV 0 rfl rfl 0 (by decide) (List.mem_of_getElem? (i := 1) rfl) rfl dX2_isLayout_30 ?_
        refine lv_bipush (v := nI 12) hx hb dX2_isLayout_33 (by decide) ?_
        refine q_icmp_ne (x := n) (y := 12) (tgt := 49) hx hb dX2_isLayout_35 (by decide) (by omega) (by omega) (fun c35 => ?_) (fun c35 => ?_)
        · refine lv_iconst (v := nI 0) hx hb dX2_isLayout_49 (by decide) ?_
          exact q_zret (W1 := wD h cA n tx T C K P L u ua ub pm jm lm du lt hh) hx hb hr hlocks hV dX2_isLayout_50 (by first | rfl | exact nb01 (by omega)) ⟨by unfold isLy; rw [if_neg (fun q => by first | exact c42 (by rw [q.1]; exact q.2) | exact c35 q.1)], rfl⟩
        · refine lv_iload_n hx hb dX2_isLayout_38 rfl (lv_at hl 1 rfl) ?_
          refine lv_sipush (v := nI 4095) hx hb dX2_isLayout_39 (by decide) ?_
          refine z_icmp_ne (tgt := 49) hx hb dX2_isLayout_42 (by decide) (fun c42 => ?_) (fun c42 => ?_)
          · refine lv_iconst (v := nI 0) hx hb dX2_isLayout_49 (by decide) ?_
            exact q_zret (W1 := wD h cA n tx T C K P L u ua ub pm jm lm du lt hh) hx hb hr hlocks hV dX2_isLayout_50 (by first | rfl | exact nb01 (by omega)) ⟨by unfold isLy; rw [if_neg (fun q => by first | exact c42 (by rw [q.1]; exact q.2) | exact c35 q.1)], rfl⟩
          · refine lv_iconst (v := nI 1) hx hb dX2_isLayout_45 (by decide) ?_
            refine lv_goto (tgt := 50) hx hb dX2_isLayout_46 (by decide) ?_
            exact q_zret (W1 := wD h cA n tx T C K P L u ua ub pm jm lm du lt hh) hx hb hr hlocks hV dX2_isLayout_50 (by first | rfl | exact nb01 (by omega)) ⟨by unfold isLy; rw [if_pos ⟨by omega, by rw [← c42, show n = 12 by omega]⟩], rfl⟩
      · refine lv_iload_n hx hb dX2_isLayout_12 rfl (lv_at hl 1 rfl) ?_
        refine lv_iconst (v := nI 1) hx hb dX2_isLayout_13 (by decide) ?_
        refine lv_aload_n hx hb dX2_isLayout_14 rfl (lv_at hl 0 rfl) ?_
        refine q_get (C := RX2) (T := TX2) (N := 20) (ci := 2) (v := .ref (h 1)) hx hb hts hin2 hown hK hV 0 rfl rfl 1 (by decide) (List.mem_of_getElem? (i := 2) rfl) rfl dX2_isLayout_15 ?_
        refine lv_iload_n hx hb dX2_isLayout_18 rfl (lv_at hl 2 rfl) ?_
        refine q_iald (n := 60) (k := j) (f := tx) hx hb hK hV 1 rfl (by omega) (by omega) dX2_isLayout_19 ?_
        have f1 := htx j
        refine lv_ishl hx hb dX2_isLayout_20 ?_
        refine lv_ior hx hb dX2_isLayout_21 ?_
        refine lv_istore_n (lv' := [(1, .int ((msk tx j) ||| ((nI 1) <<< ((nI (tx j)) &&& 31)))), (0, .ref (h 0)), (2, .int (nI j))]) hx hb dX2_isLayout_22 rfl hl (by decide) rfl (fun ls hl => ?_)
        refine q_iinc (x := j) (z := j + 1) (lv' := [(2, .int (nI (j + 1))), (1, .int ((msk tx j) ||| ((nI 1) <<< ((nI (tx j)) &&& 31)))), (0, .ref (h 0))]) hx hb dX2_isLayout_23 hl (k := 2) rfl (dd := 1) rfl (by omega) (by decide) rfl (fun ls hl => ?_)
        refine lv_goto (tgt := 4) hx hb dX2_isLayout_26 (by decide) ?_
        exact ih4  (j + 1) _ _ _ (by omega) (by first | omega | assumption) hV (lv_sub hl [2, 1, 0] rfl)
  exact lp4 61 0 _ _ _ (by omega) (by first | omega | assumption) hV (lv_sub hl [2, 1, 0] rfl)
abbrev rm_X2_exchange : Room := { frames := 0, cells := 0, slots := 0, locals := 0 }
set_option maxHeartbeats 4000000 in
set_option maxRecDepth 100000 in
theorem c_X2_exchange (l : Launch) (D : va_G) (h : Nat → Nat) (cA : ClassId) (n : Nat) (tx : Nat → Nat) (T : Nat) (C : Nat) (K : Nat) (P : Nat → Nat) (L : Nat → Nat) (u : Nat) (ua : Nat → Nat) (ub : Nat → Nat) (pm : Nat) (jm : Nat) (lm : Nat) (du : Nat) (lt : Nat) (hh : Int64) (a : Nat) (b : Nat)  (h_a : a < 12) (h_b : b < 12) (hp : perm L P) : CTv l D cA yX2_exchange wsX2_exchange rm_X2_exchange [.ref (h 0), .int (nI a), .int (nI b)] (wD h cA n tx T C K P L u ua ub pm jm lm du lt hh) (fun W1 => W1 = wD h cA n tx T C K (exP L P a b) (exL L a b) u ua ub pm jm lm du lt hh) := by
  refine CTv.mk (cc := cX2_exchange) (maxL := 4) (ret := none) (by decide) rfl (Nat.le_of_ble_eq_true rfl) ?_
  intro p e s m below meth c A ls E hV hl
  obtain ⟨hx, hb, hml, hr, hown, hts, hlocks, hK, hA, hN⟩ := E
  have hown : s.vm.findClass RX2 = some m.cls := hown
  have hin2 : ∀ w ∈ wsX20, w ∈ wsX2_exchange := fun _ h => List.mem_cons_of_mem _ (List.mem_append_right _ h)
  have hl : lv_has ls 4 [(0, .ref (h 0)), (1, .int (nI a)), (2, .int (nI b))] := hl
  refine lv_aload_n hx hb dX2_exchange_0 rfl (lv_at hl 0 rfl) ?_
  refine q_get (C := RX2) (T := TX2) (N := 20) (ci := 2) (v := .ref (h 3)) hx hb hts hin2 hown hK hV 0 rfl rfl 6 (by decide) (List.mem_of_getElem? (i := 1) rfl) rfl dX2_exchange_1 ?_
  refine lv_iload_n hx hb dX2_exchange_4 rfl (lv_at hl 1 rfl) ?_
  refine q_iald (n := 12) (k := a) (f := L) hx hb hK hV 3 rfl (by omega) (by omega) dX2_exchange_5 ?_
  have f1 := hp.L (i := a) (by omega)
  refine lv_istore_n (lv' := [(3, .int (nI (L a))), (0, .ref (h 0)), (1, .int (nI a)), (2, .int (nI b))]) hx hb dX2_exchange_6 rfl hl (by decide) rfl (fun ls hl => ?_)
  refine lv_aload_n hx hb dX2_exchange_7 rfl (lv_at hl 1 rfl) ?_
  refine q_get (C := RX2) (T := TX2) (N := 20) (ci := 2) (v := .ref (h 3)) hx hb hts hin2 hown hK hV 0 rfl rfl 6 (by decide) (List.mem_of_getElem? (i := 1) rfl) rfl dX2_exchange_8 ?_
  refine lv_iload_n hx hb dX2_exchange_11 rfl (lv_at hl 2 rfl) ?_
  refine lv_aload_n hx hb dX2_exchange_12 rfl (lv_at hl 1 rfl) ?_
  refine q_get (C := RX2) (T := TX2) (N := 20) (ci := 2) (v := .ref (h 3)) hx hb hts hin2 hown hK hV 0 rfl rfl 6 (by decide) (List.mem_of_getElem? (i := 1) rfl) rfl dX2_exchange_13 ?_
  refine lv_iload_n hx hb dX2_exchange_16 rfl (lv_at hl 3 rfl) ?_
  refine q_iald (n := 12) (k := b) (f := L) hx hb hK hV 3 rfl (by omega) (by omega) dX2_exchange_17 ?_
  have f2 := hp.L (i := b) (by omega)
  refine q_iast (n := 12) (k := a) (v := (L b)) (f := L) (wD h cA n tx T C K P (up L a (L b)) u ua ub pm jm lm du lt hh) hx hb hK hV 3 rfl (by omega) (by decide) rfl dX2_exchange_18 (fun H locs hV => ?_)
  refine lv_aload_n hx hb dX2_exchange_19 rfl (lv_at hl 1 rfl) ?_
  refine q_get (C := RX2) (T := TX2) (N := 20) (ci := 2) (v := .ref (h 3)) hx hb hts hin2 hown hK hV 0 rfl rfl 6 (by decide) (List.mem_of_getElem? (i := 1) rfl) rfl dX2_exchange_20 ?_
  refine lv_iload_n hx hb dX2_exchange_23 rfl (lv_at hl 3 rfl) ?_
  refine lv_iload_n hx hb dX2_exchange_24 rfl (lv_at hl 0 rfl) ?_
  refine q_iast (n := 12) (k := b) (v := (L a)) (f := up L a (L b)) (wD h cA n tx T C K P (up (up L a (L b)) b (L a)) u ua ub pm jm lm du lt hh) hx hb hK hV 3 rfl (by omega) (by decide) rfl dX2_exchange_25 (fun H locs hV => ?_)
  refine lv_aload_n hx hb dX2_exchange_26 rfl (lv_at hl 1 rfl) ?_
  refine q_get (C := RX2) (T := TX2) (N := 20) (ci := 2) (v := .ref (h 2)) hx hb hts hin2 hown hK hV 0 rfl rfl 5 (by decide) (List.mem_of_getElem? (i := 2) rfl) rfl dX2_exchange_27 ?_
  refine lv_aload_n hx hb dX2_exchange_30 rfl (lv_at hl 1 rfl) ?_
  refine q_get (C := RX2) (T := TX2) (N := 20) (ci := 2) (v := .ref (h 3)) hx hb hts hin2 hown hK hV 0 rfl rfl 6 (by decide) (List.mem_of_getElem? (i := 1) rfl) rfl dX2_exchange_31 ?_
  refine lv_iload_n hx hb dX2_exchange_34 rfl (lv_at hl 2 rfl) ?_
  have ea : (up (up L a (L b)) b (L a)) a = L b := by simp only [up]; split <;> simp_all
  have eb : (up (up L a (L b)) b (L a)) b = L a := up_same _ _ _
  have := hp.L (i := b) (by omega)
  have := hp.L (i := a) (by omega)
  refine q_iald (n := 12) (k := a) (f := up (up L a (L b)) b (L a)) hx hb hK hV 3 rfl (by omega) (by omega) dX2_exchange_35 ?_
  refine lv_iload_n hx hb dX2_exchange_36 rfl (lv_at hl 2 rfl) ?_
  refine q_iast (n := 12) (k := ((up (up L a (L b)) b (L a)) a)) (v := a) (f := P) (wD h cA n tx T C K (up P ((up (up L a (L b)) b (L a)) a) a) (up (up L a (L b)) b (L a)) u ua ub pm jm lm du lt hh) hx hb hK hV 2 rfl (by omega) (by decide) rfl dX2_exchange_37 (fun H locs hV => ?_)
  refine lv_aload_n hx hb dX2_exchange_38 rfl (lv_at hl 1 rfl) ?_
  refine q_get (C := RX2) (T := TX2) (N := 20) (ci := 2) (v := .ref (h 2)) hx hb hts hin2 hown hK hV 0 rfl rfl 5 (by decide) (List.mem_of_getElem? (i := 2) rfl) rfl dX2_exchange_39 ?_
  refine lv_aload_n hx hb dX2_exchange_42 rfl (lv_at hl 1 rfl) ?_
  refine q_get (C := RX2) (T := TX2) (N := 20) (ci := 2) (v := .ref (h 3)) hx hb hts hin2 hown hK hV 0 rfl rfl 6 (by decide) (List.mem_of_getElem? (i := 1) rfl) rfl dX2_exchange_43 ?_
  refine lv_iload_n hx hb dX2_exchange_46 rfl (lv_at hl 3 rfl) ?_
  refine q_iald (n := 12) (k := b) (f := up (up L a (L b)) b (L a)) hx hb hK hV 3 rfl (by omega) (by omega) dX2_exchange_47 ?_
  refine lv_iload_n hx hb dX2_exchange_48 rfl (lv_at hl 3 rfl) ?_
  refine q_iast (n := 12) (k := ((up (up L a (L b)) b (L a)) b)) (v := b) (f := up P ((up (up L a (L b)) b (L a)) a) a) (wD h cA n tx T C K (up (up P ((up (up L a (L b)) b (L a)) a) a) ((up (up L a (L b)) b (L a)) b) b) (up (up L a (L b)) b (L a)) u ua ub pm jm lm du lt hh) hx hb hK hV 2 rfl (by omega) (by decide) rfl dX2_exchange_49 (fun H locs hV => ?_)
  exact q_vret (W1 := wD h cA n tx T C K (up (up P ((up (up L a (L b)) b (L a)) a) a) ((up (up L a (L b)) b (L a)) b) b) (up (up L a (L b)) b (L a)) u ua ub pm jm lm du lt hh) hx hb hr hlocks hV dX2_exchange_50 (by unfold exL exP; rw [ea, eb])
abbrev rm_X2_loadLayout : Room := { frames := 1, cells := 0, slots := 0, locals := 22 }
set_option maxHeartbeats 4000000 in
set_option maxRecDepth 100000 in
theorem c_X2_loadLayout (l : Launch) (D : va_G) (h : Nat → Nat) (cA : ClassId) (n : Nat) (tx : Nat → Nat) (T : Nat) (C : Nat) (K : Nat) (P : Nat → Nat) (L : Nat → Nat) (u : Nat) (ua : Nat → Nat) (ub : Nat → Nat) (pm : Nat) (jm : Nat) (lm : Nat) (du : Nat) (lt : Nat) (hh : Int64)   (hn : n ≤ 60) (htx : ∀ i, tx i < 12) : CTi l D cA yX2_loadLayout wsX2_loadLayout rm_X2_loadLayout [.ref (h 0)] (wD h cA n tx T C K P L u ua ub pm jm lm du lt hh) (fun r W1 => r = aLd n tx ∧ W1 = wD h cA (nLd n tx) tx T C K ((yLd n tx (L, P, u, ua, ub)).2.1) ((yLd n tx (L, P, u, ua, ub)).1) ((yLd n tx (L, P, u, ua, ub)).2.2.1) ((yLd n tx (L, P, u, ua, ub)).2.2.2.1) ((yLd n tx (L, P, u, ua, ub)).2.2.2.2) pm jm lm du lt hh) := by
  refine CTi.mk (cc := cX2_loadLayout) (maxL := 2) (ret := some .int) (by decide) rfl (Nat.le_of_ble_eq_true rfl) ?_
  intro p e s m below meth c A ls E hV hl
  obtain ⟨hx, hb, hml, hr, hown, hts, hlocks, hK, hA, hN⟩ := E
  have hown : s.vm.findClass RX2 = some m.cls := hown
  have hin2 : ∀ w ∈ wsX20, w ∈ wsX2_loadLayout := fun _ h => List.mem_cons_of_mem _ (List.mem_append_right _ h)
  have hl : lv_has ls 2 [(0, .ref (h 0))] := hl
  refine lv_aload_n hx hb dX2_loadLayout_0 rfl (lv_at hl 0 rfl) ?_
  refine k_V_i (w0 := ([] : va_W)) (wc := wD h cA n tx T C K P L u ua ub pm jm lm du lt hh) (b := h 0) (As := []) (rest := []) hx hb hml hown hts hK hA hN hV hl.1 (c_X2_isLayout l D h cA n tx T C K P L u ua ub pm jm lm du lt hh   (by first | omega | assumption) (by first | omega | assumption)) gX2_loadLayout_X2_isLayout rfl rfl rfl hdX2_isLayout ⟨Nat.le_of_ble_eq_true rfl, Nat.le_of_ble_eq_true rfl⟩ 0 2 rfl rfl rfl rfl rfl (Nat.le_of_ble_eq_true rfl) dX2_loadLayout_1 ⟨Nat.zero_le _, Nat.zero_le _⟩ (fun r W1 H locs hp hV => ?_)
  obtain ⟨hp1, hp2⟩ := hp
  replace hp1 := hp1.symm
  subst hp1
  replace hp2 := hp2.symm
  subst hp2
  have hV : qV D A s.heap (wD h cA n tx T C K P L u ua ub pm jm lm du lt hh) H locs := hV
  have f1 := isLy_le n tx
  refine q_if_ne (x := (isLy n tx)) (tgt := 10) hx hb dX2_loadLayout_4 (by decide) (by omega) (fun c4 => ?_) (fun c4 => ?_)
  · refine lv_iconst (v := nI 0) hx hb dX2_loadLayout_10 (by decide) ?_
    refine lv_istore_n (lv' := [(1, .int (nI 0)), (0, .ref (h 0))]) hx hb dX2_loadLayout_11 rfl hl (by decide) rfl (fun ls hl => ?_)
    have lp12 : ∀ (d12 : Nat) (j : Nat) (H : Heap) (locs : List Loc) (ls : Array Slot), (13 ≤ j + d12) → (j ≤ 12) → qV D A s.heap (wD h cA n tx T C K (ldP P tx j) (ldL L tx j) u ua ub pm jm lm du lt hh) H locs → lv_has ls 2 [(0, .ref (h 0)), (1, .int (nI j))] → W p l e rm_X2_loadLayout s m ([.ref (h 0)] : List Value).toArray below meth c H locs 0 0 (MQ below (va_Qi (fun r W1 => r = aLd n tx ∧ W1 = wD h cA (nLd n tx) tx T C K ((yLd n tx (L, P, u, ua, ub)).2.1) ((yLd n tx (L, P, u, ua, ub)).1) ((yLd n tx (L, P, u, ua, ub)).2.2.1) ((yLd n tx (L, P, u, ua, ub)).2.2.2.1) ((yLd n tx (L, P, u, ua, ub)).2.2.2.2) pm jm lm du lt hh) (cPost D A) A) ([.ref (h 0)] : List Value).toArray s 0 0 A) (F0 m 12 ls []) := by
      intro d12
      induction d12 with
      | zero => intro j H locs ls hm12 hj hV hl; exfalso; omega
      | succ d12 ih12 =>
        intro j H locs ls hm12 hj hV hl
        refine lv_iload_n hx hb dX2_loadLayout_12 rfl (lv_at hl 1 rfl) ?_
        refine lv_bipush (v := nI 12) hx hb dX2_loadLayout_13 (by decide) ?_
        refine q_icmp_ge (x := j) (y := 12) (tgt := 48) hx hb dX2_loadLayout_15 (by decide) (by omega) (by omega) (fun c15 => ?_) (fun c15 => ?_)
        · have ej : j = 12 := by omega
          subst ej
          refine lv_aload_n hx hb dX2_loadLayout_48 rfl (lv_at hl 0 rfl) ?_
          refine lv_iconst (v := nI 0) hx hb dX2_loadLayout_49 (by decide) ?_
          refine q_put (C := RX2) (T := TX2) (N := 20) (ci := 2) (v := .int (nI 0)) (wD h cA 0 tx T C K (ldP P tx 12) (ldL L tx 12) u ua ub pm jm lm du lt hh) hx hb hts hin2 tyX2 tyX2_ok nmX2 hown hK hV 0 rfl rfl 0 (by decide) (List.mem_of_getElem? (i := 5) rfl) rfl rfl rfl (Nat.le_of_ble_eq_true rfl) rfl dX2_loadLayout_50 (fun H locs hV => ?_)
          refine lv_aload_n hx hb dX2_loadLayout_53 rfl (lv_at hl 0 rfl) ?_
          refine lv_iconst (v := nI 0) hx hb dX2_loadLayout_54 (by decide) ?_
          refine q_put (C := RX2) (T := TX2) (N := 20) (ci := 2) (v := .int (nI 0)) (wD h cA 0 tx T C K (ldP P tx 12) (ldL L tx 12) 0 ua ub pm jm lm du lt hh) hx hb hts hin2 tyX2 tyX2_ok nmX2 hown hK hV 0 rfl rfl 7 (by decide) (List.mem_of_getElem? (i := 6) rfl) rfl rfl rfl (Nat.le_of_ble_eq_true rfl) rfl dX2_loadLayout_55 (fun H locs hV => ?_)
          refine lv_bipush (v := nI 12) hx hb dX2_loadLayout_58 (by decide) ?_
          have e1 : isLy n tx = 1 := by omega
          exact q_iret (W1 := wD h cA 0 tx T C K (ldP P tx 12) (ldL L tx 12) 0 ua ub pm jm lm du lt hh) hx hb hr hlocks hV dX2_loadLayout_60 ⟨by unfold aLd; rw [if_pos e1], by unfold nLd yLd; rw [if_pos e1, if_pos e1]⟩
        · refine lv_aload_n hx hb dX2_loadLayout_18 rfl (lv_at hl 0 rfl) ?_
          refine q_get (C := RX2) (T := TX2) (N := 20) (ci := 2) (v := .ref (h 3)) hx hb hts hin2 hown hK hV 0 rfl rfl 6 (by decide) (List.mem_of_getElem? (i := 2) rfl) rfl dX2_loadLayout_19 ?_
          refine lv_iload_n hx hb dX2_loadLayout_22 rfl (lv_at hl 1 rfl) ?_
          refine lv_aload_n hx hb dX2_loadLayout_23 rfl (lv_at hl 0 rfl) ?_
          refine q_get (C := RX2) (T := TX2) (N := 20) (ci := 2) (v := .ref (h 1)) hx hb hts hin2 hown hK hV 0 rfl rfl 1 (by decide) (List.mem_of_getElem? (i := 3) rfl) rfl dX2_loadLayout_24 ?_
          refine lv_iload_n hx hb dX2_loadLayout_27 rfl (lv_at hl 1 rfl) ?_
          refine q_iald (n := 60) (k := j) (f := tx) hx hb hK hV 1 rfl (by omega) (by omega) dX2_loadLayout_28 ?_
          have f2 := htx j
          refine q_iast (n := 12) (k := j) (v := (tx j)) (f := ldL L tx j) (wD h cA n tx T C K (ldP P tx j) (up (ldL L tx j) j (tx j)) u ua ub pm jm lm du lt hh) hx hb hK hV 3 rfl (by omega) (by decide) rfl dX2_loadLayout_29 (fun H locs hV => ?_)
          refine lv_aload_n hx hb dX2_loadLayout_30 rfl (lv_at hl 0 rfl) ?_
          refine q_get (C := RX2) (T := TX2) (N := 20) (ci := 2) (v := .ref (h 2)) hx hb hts hin2 hown hK hV 0 rfl rfl 5 (by decide) (List.mem_of_getElem? (i := 4) rfl) rfl dX2_loadLayout_31 ?_
          refine lv_aload_n hx hb dX2_loadLayout_34 rfl (lv_at hl 0 rfl) ?_
          refine q_get (C := RX2) (T := TX2) (N := 20) (ci := 2) (v := .ref (h 1)) hx hb hts hin2 hown hK hV 0 rfl rfl 1 (by decide) (List.mem_of_getElem? (i := 3) rfl) rfl dX2_loadLayout_35 ?_
          refine lv_iload_n hx hb dX2_loadLayout_38 rfl (lv_at hl 1 rfl) ?_
          refine q_iald (n := 60) (k := j) (f := tx) hx hb hK hV 1 rfl (by omega) (by omega) dX2_loadLayout_39 ?_
          have f3 := htx j
          refine lv_iload_n hx hb dX2_loadLayout_40 rfl (lv_at hl 1 rfl) ?_
          refine q_iast (n := 12) (k := (tx j)) (v := j) (f := ldP P tx j) (wD h cA n tx T C K (up (ldP P tx j) (tx j) j) (up (ldL L tx j) j (tx j)) u ua ub pm jm lm du lt hh) hx hb hK hV 2 rfl (by omega) (by decide) rfl dX2_loadLayout_41 (fun H locs hV => ?_)
          refine q_iinc (x := j) (z := j + 1) (lv' := [(1, .int (nI (j + 1))), (0, .ref (h 0))]) hx hb dX2_loadLayout_42 hl (k := 1) rfl (dd := 1) rfl (by omega) (by decide) rfl (fun ls hl => ?_)
          refine lv_goto (tgt := 12) hx hb dX2_loadLayout_45 (by decide) ?_
          exact ih12  (j + 1) _ _ _ (by omega) (by first | omega | assumption) hV (lv_sub hl [1, 0] rfl)
    exact lp12 13 0 _ _ _ (by omega) (by first | omega | assumption) hV (lv_sub hl [1, 0] rfl)
  · refine lv_ldc (v := -1000004) hx hb hown (hts _ (List.mem_of_getElem? (i := 1) rfl)) dX2_loadLayout_7 ?_
    have e1 : ¬ isLy n tx = 1 := by omega
    exact q_iret (W1 := wD h cA n tx T C K P L u ua ub pm jm lm du lt hh) hx hb hr hlocks hV dX2_loadLayout_9 ⟨by unfold aLd; rw [if_neg e1], by unfold nLd yLd; rw [if_neg e1, if_neg e1]⟩
abbrev rm_X2_letterAt : Room := { frames := 1, cells := 0, slots := 0, locals := 22 }
set_option maxHeartbeats 4000000 in
set_option maxRecDepth 100000 in
theorem c_X2_letterAt (l : Launch) (D : va_G) (h : Nat → Nat) (cA : ClassId) (n : Nat) (tx : Nat → Nat) (T : Nat) (C : Nat) (K : Nat) (P : Nat → Nat) (L : Nat → Nat) (u : Nat) (ua : Nat → Nat) (ub : Nat → Nat) (pm : Nat) (jm : Nat) (lm : Nat) (du : Nat) (lt : Nat) (hh : Int64) (v1 : Int32)   : CTi l D cA yX2_letterAt wsX2_letterAt rm_X2_letterAt [.ref (h 0), .int v1] (wD h cA n tx T C K P L u ua ub pm jm lm du lt hh) (fun r W1 => r = aAt L v1 ∧ W1 = wD h cA n tx T C K P L u ua ub pm jm lm du lt hh) := by
  refine CTi.mk (cc := cX2_letterAt) (maxL := 2) (ret := some .int) (by decide) rfl (Nat.le_of_ble_eq_true rfl) ?_
  intro p e s m below meth c A ls E hV hl
  obtain ⟨hx, hb, hml, hr, hown, hts, hlocks, hK, hA, hN⟩ := E
  have hown : s.vm.findClass RX2 = some m.cls := hown
  have hin2 : ∀ w ∈ wsX20, w ∈ wsX2_letterAt := fun _ h => List.mem_cons_of_mem _ (List.mem_append_right _ h)
  have hl : lv_has ls 2 [(0, .ref (h 0)), (1, .int v1)] := hl
  refine lv_iload_n hx hb dX2_letterAt_0 rfl (lv_at hl 1 rfl) ?_
  refine lv_iconst (v := nI 0) hx hb dX2_letterAt_1 (by decide) ?_
  refine lv_bipush (v := nI 11) hx hb dX2_letterAt_2 (by decide) ?_
  refine k_S_i (w0 := wD h cA n tx T C K P L u ua ub pm jm lm du lt hh) (wc := ([] : va_W)) (As := [.int v1, .int (nI 0), .int (nI 11)]) (rest := []) hx hb hml hown hts hK hA hN hV hl.1 (c_X2_within l D cA v1 (nI 0) (nI 11)  ) gX2_letterAt_X2_within rfl rfl rfl hdX2_within ⟨Nat.le_of_ble_eq_true rfl, Nat.le_of_ble_eq_true rfl⟩ rfl rfl (Nat.le_of_ble_eq_true rfl) dX2_letterAt_4 ⟨Nat.zero_le _, Nat.zero_le _⟩ (fun r W1 H locs hp hV => ?_)
  obtain ⟨hp1, hp2⟩ := hp
  replace hp1 := hp1.symm
  subst hp1
  replace hp2 := hp2.symm
  subst hp2
  have hV : qV D A s.heap (wD h cA n tx T C K P L u ua ub pm jm lm du lt hh) H locs := hV
  have f1 := wi_le v1 (nI 0) (nI 11)
  refine q_top (congrArg nI (wi_ok (lo := 0) (hi := 11) (by decide) (by decide))) ?_
  have := okR_le 0 11 v1
  refine q_if_eq (x := (okR 0 11 v1)) (tgt := 19) hx hb dX2_letterAt_7 (by decide) (by omega) (fun c7 => ?_) (fun c7 => ?_)
  · refine lv_ldc (v := -1000003) hx hb hown (hts _ (List.mem_of_getElem? (i := 2) rfl)) dX2_letterAt_19 ?_
    exact q_iret (W1 := wD h cA n tx T C K P L u ua ub pm jm lm du lt hh) hx hb hr hlocks hV dX2_letterAt_21 ⟨by first | exact (aAt_ok hk1).symm | exact (aAt_no c7).symm, rfl⟩
  · obtain ⟨k1, -, hk1, rfl⟩ := okR_1 (lo := 0) (hi := 11) (by decide) c7
    refine lv_aload_n hx hb dX2_letterAt_10 rfl (lv_at hl 0 rfl) ?_
    refine q_get (C := RX2) (T := TX2) (N := 20) (ci := 2) (v := .ref (h 3)) hx hb hts hin2 hown hK hV 0 rfl rfl 6 (by decide) (List.mem_of_getElem? (i := 1) rfl) rfl dX2_letterAt_11 ?_
    refine lv_iload_n hx hb dX2_letterAt_14 rfl (lv_at hl 1 rfl) ?_
    refine q_iald (n := 12) (k := k1) (f := L) hx hb hK hV 3 rfl (by omega) (by omega) dX2_letterAt_15 ?_
    refine lv_goto (tgt := 21) hx hb dX2_letterAt_16 (by decide) ?_
    exact q_iret (W1 := wD h cA n tx T C K P L u ua ub pm jm lm du lt hh) hx hb hr hlocks hV dX2_letterAt_21 ⟨by first | exact (aAt_ok hk1).symm | exact (aAt_no c7).symm, rfl⟩
abbrev rm_X2_positionOf : Room := { frames := 2, cells := 0, slots := 0, locals := 42 }
set_option maxHeartbeats 4000000 in
set_option maxRecDepth 100000 in
theorem c_X2_positionOf (l : Launch) (D : va_G) (h : Nat → Nat) (cA : ClassId) (n : Nat) (tx : Nat → Nat) (T : Nat) (C : Nat) (K : Nat) (P : Nat → Nat) (L : Nat → Nat) (u : Nat) (ua : Nat → Nat) (ub : Nat → Nat) (pm : Nat) (jm : Nat) (lm : Nat) (du : Nat) (lt : Nat) (hh : Int64) (v1 : Int32)   : CTi l D cA yX2_positionOf wsX2_positionOf rm_X2_positionOf [.ref (h 0), .int v1] (wD h cA n tx T C K P L u ua ub pm jm lm du lt hh) (fun r W1 => r = aAt P v1 ∧ W1 = wD h cA n tx T C K P L u ua ub pm jm lm du lt hh) := by
  refine CTi.mk (cc := cX2_positionOf) (maxL := 2) (ret := some .int) (by decide) rfl (Nat.le_of_ble_eq_true rfl) ?_
  intro p e s m below meth c A ls E hV hl
  obtain ⟨hx, hb, hml, hr, hown, hts, hlocks, hK, hA, hN⟩ := E
  have hown : s.vm.findClass RX2 = some m.cls := hown
  have hin2 : ∀ w ∈ wsX20, w ∈ wsX2_positionOf := fun _ h => List.mem_cons_of_mem _ (List.mem_append_right _ h)
  have hl : lv_has ls 2 [(0, .ref (h 0)), (1, .int v1)] := hl
  refine lv_iload_n hx hb dX2_positionOf_0 rfl (lv_at hl 1 rfl) ?_
  refine k_S_i (w0 := wD h cA n tx T C K P L u ua ub pm jm lm du lt hh) (wc := ([] : va_W)) (As := [.int v1]) (rest := []) hx hb hml hown hts hK hA hN hV hl.1 (c_X2_isLetter l D cA v1  ) gX2_positionOf_X2_isLetter rfl rfl rfl hdX2_isLetter ⟨Nat.le_of_ble_eq_true rfl, Nat.le_of_ble_eq_true rfl⟩ rfl rfl (Nat.le_of_ble_eq_true rfl) dX2_positionOf_1 ⟨Nat.zero_le _, Nat.zero_le _⟩ (fun r W1 H locs hp hV => ?_)
  obtain ⟨hp1, hp2⟩ := hp
  replace hp1 := hp1.symm
  subst hp1
  replace hp2 := hp2.symm
  subst hp2
  have hV : qV D A s.heap (wD h cA n tx T C K P L u ua ub pm jm lm du lt hh) H locs := hV
  have f1 := okR_le 0 11 v1
  refine q_if_eq (x := (okR 0 11 v1)) (tgt := 16) hx hb dX2_positionOf_4 (by decide) (by omega) (fun c4 => ?_) (fun c4 => ?_)
  · refine lv_ldc (v := -1000003) hx hb hown (hts _ (List.mem_of_getElem? (i := 2) rfl)) dX2_positionOf_16 ?_
    exact q_iret (W1 := wD h cA n tx T C K P L u ua ub pm jm lm du lt hh) hx hb hr hlocks hV dX2_positionOf_18 ⟨by first | exact (aAt_ok hk1).symm | exact (aAt_no c4).symm, rfl⟩
  · obtain ⟨k1, -, hk1, rfl⟩ := okR_1 (lo := 0) (hi := 11) (by decide) c4
    refine lv_aload_n hx hb dX2_positionOf_7 rfl (lv_at hl 0 rfl) ?_
    refine q_get (C := RX2) (T := TX2) (N := 20) (ci := 2) (v := .ref (h 2)) hx hb hts hin2 hown hK hV 0 rfl rfl 5 (by decide) (List.mem_of_getElem? (i := 1) rfl) rfl dX2_positionOf_8 ?_
    refine lv_iload_n hx hb dX2_positionOf_11 rfl (lv_at hl 1 rfl) ?_
    refine q_iald (n := 12) (k := k1) (f := P) hx hb hK hV 2 rfl (by omega) (by omega) dX2_positionOf_12 ?_
    refine lv_goto (tgt := 18) hx hb dX2_positionOf_13 (by decide) ?_
    exact q_iret (W1 := wD h cA n tx T C K P L u ua ub pm jm lm du lt hh) hx hb hr hlocks hV dX2_positionOf_18 ⟨by first | exact (aAt_ok hk1).symm | exact (aAt_no c4).symm, rfl⟩
abbrev rm_X2_swapNow : Room := { frames := 1, cells := 0, slots := 0, locals := 23 }
set_option maxHeartbeats 4000000 in
set_option maxRecDepth 100000 in
theorem c_X2_swapNow (l : Launch) (D : va_G) (h : Nat → Nat) (cA : ClassId) (n : Nat) (tx : Nat → Nat) (T : Nat) (C : Nat) (K : Nat) (P : Nat → Nat) (L : Nat → Nat) (u : Nat) (ua : Nat → Nat) (ub : Nat → Nat) (pm : Nat) (jm : Nat) (lm : Nat) (du : Nat) (lt : Nat) (hh : Int64) (a : Nat) (b : Nat)  (h_a : a < 12) (h_b : b < 12) (hp : perm L P) (hu : u ≤ 30) : CTv l D cA yX2_swapNow wsX2_swapNow rm_X2_swapNow [.ref (h 0), .int (nI a), .int (nI b)] (wD h cA n tx T C K P L u ua ub pm jm lm du lt hh) (fun W1 => W1 = wD h cA n tx T C K (exP L P a b) (exL L a b) (pshU u) (pshA ua u a) (pshA ub u b) pm jm lm du lt hh) := by
  refine CTv.mk (cc := cX2_swapNow) (maxL := 4) (ret := none) (by decide) rfl (Nat.le_of_ble_eq_true rfl) ?_
  intro p e s m below meth c A ls E hV hl
  obtain ⟨hx, hb, hml, hr, hown, hts, hlocks, hK, hA, hN⟩ := E
  have hown : s.vm.findClass RX2 = some m.cls := hown
  have hin2 : ∀ w ∈ wsX20, w ∈ wsX2_swapNow := fun _ h => List.mem_cons_of_mem _ (List.mem_append_right _ h)
  have hl : lv_has ls 4 [(0, .ref (h 0)), (1, .int (nI a)), (2, .int (nI b))] := hl
  refine lv_aload_n hx hb dX2_swapNow_0 rfl (lv_at hl 0 rfl) ?_
  refine lv_iload_n hx hb dX2_swapNow_1 rfl (lv_at hl 1 rfl) ?_
  refine lv_iload_n hx hb dX2_swapNow_2 rfl (lv_at hl 2 rfl) ?_
  refine k_V_v (w0 := ([] : va_W)) (wc := wD h cA n tx T C K P L u ua ub pm jm lm du lt hh) (b := h 0) (As := [.int (nI a), .int (nI b)]) (rest := []) hx hb hml hown hts hK hA hN hV hl.1 (c_X2_exchange l D h cA n tx T C K P L u ua ub pm jm lm du lt hh a b  (by first | omega | assumption) (by first | omega | assumption) (by first | omega | assumption)) gX2_swapNow_X2_exchange rfl rfl rfl hdX2_exchange ⟨Nat.le_of_ble_eq_true rfl, Nat.le_of_ble_eq_true rfl⟩ 0 2 rfl rfl rfl rfl rfl (Nat.le_of_ble_eq_true rfl) dX2_swapNow_3 ⟨Nat.zero_le _, Nat.zero_le _⟩ (fun W1 H locs hp hV => ?_)
  subst hp
  have hV : qV D A s.heap (wD h cA n tx T C K (exP L P a b) (exL L a b) u ua ub pm jm lm du lt hh) H locs := hV
  refine lv_aload_n hx hb dX2_swapNow_6 rfl (lv_at hl 0 rfl) ?_
  refine q_get (C := RX2) (T := TX2) (N := 20) (ci := 2) (v := .ref (h 4)) hx hb hts hin2 hown hK hV 0 rfl rfl 8 (by decide) (List.mem_of_getElem? (i := 1) rfl) rfl dX2_swapNow_7 ?_
  refine lv_aload_n hx hb dX2_swapNow_10 rfl (lv_at hl 0 rfl) ?_
  refine q_get (C := RX2) (T := TX2) (N := 20) (ci := 2) (v := .int (nI u)) hx hb hts hin2 hown hK hV 0 rfl rfl 7 (by decide) (List.mem_of_getElem? (i := 2) rfl) rfl dX2_swapNow_11 ?_
  refine lv_iload_n hx hb dX2_swapNow_14 rfl (lv_at hl 1 rfl) ?_
  refine q_iast (n := 31) (k := u) (v := a) (f := ua) (wD h cA n tx T C K (exP L P a b) (exL L a b) u (up ua u a) ub pm jm lm du lt hh) hx hb hK hV 4 rfl (by omega) (by decide) rfl dX2_swapNow_15 (fun H locs hV => ?_)
  refine lv_aload_n hx hb dX2_swapNow_16 rfl (lv_at hl 0 rfl) ?_
  refine q_get (C := RX2) (T := TX2) (N := 20) (ci := 2) (v := .ref (h 5)) hx hb hts hin2 hown hK hV 0 rfl rfl 9 (by decide) (List.mem_of_getElem? (i := 3) rfl) rfl dX2_swapNow_17 ?_
  refine lv_aload_n hx hb dX2_swapNow_20 rfl (lv_at hl 0 rfl) ?_
  refine q_get (C := RX2) (T := TX2) (N := 20) (ci := 2) (v := .int (nI u)) hx hb hts hin2 hown hK hV 0 rfl rfl 7 (by decide) (List.mem_of_getElem? (i := 2) rfl) rfl dX2_swapNow_21 ?_
  refine lv_iload_n hx hb dX2_swapNow_24 rfl (lv_at hl 2 rfl) ?_
  refine q_iast (n := 31) (k := u) (v := b) (f := ub) (wD h cA n tx T C K (exP L P a b) (exL L a b) u (up ua u a) (up ub u b) pm jm lm du lt hh) hx hb hK hV 5 rfl (by omega) (by decide) rfl dX2_swapNow_25 (fun H locs hV => ?_)
  refine lv_aload_n hx hb dX2_swapNow_26 rfl (lv_at hl 0 rfl) ?_
  refine lv_dup hx hb dX2_swapNow_27 rfl ?_
  refine q_get (C := RX2) (T := TX2) (N := 20) (ci := 2) (v := .int (nI u)) hx hb hts hin2 hown hK hV 0 rfl rfl 7 (by decide) (List.mem_of_getElem? (i := 2) rfl) rfl dX2_swapNow_28 ?_
  refine lv_iconst (v := nI 1) hx hb dX2_swapNow_31 (by decide) ?_
  refine q_iadd2 (x := u) (y := 1) (z := u + 1) hx hb (by omega) dX2_swapNow_32 ?_
  refine q_put (C := RX2) (T := TX2) (N := 20) (ci := 2) (v := .int (nI (u + 1))) (wD h cA n tx T C K (exP L P a b) (exL L a b) (u + 1) (up ua u a) (up ub u b) pm jm lm du lt hh) hx hb hts hin2 tyX2 tyX2_ok nmX2 hown hK hV 0 rfl rfl 7 (by decide) (List.mem_of_getElem? (i := 2) rfl) rfl rfl rfl (Nat.le_of_ble_eq_true rfl) rfl dX2_swapNow_33 (fun H locs hV => ?_)
  refine lv_aload_n hx hb dX2_swapNow_36 rfl (lv_at hl 0 rfl) ?_
  refine q_get (C := RX2) (T := TX2) (N := 20) (ci := 2) (v := .int (nI (u + 1))) hx hb hts hin2 hown hK hV 0 rfl rfl 7 (by decide) (List.mem_of_getElem? (i := 2) rfl) rfl dX2_swapNow_37 ?_
  refine lv_bipush (v := nI 30) hx hb dX2_swapNow_40 (by decide) ?_
  refine q_icmp_le (x := u + 1) (y := 30) (tgt := 99) hx hb dX2_swapNow_42 (by decide) (by omega) (by omega) (fun c42 => ?_) (fun c42 => ?_)
  · exact q_vret (W1 := wD h cA n tx T C K (exP L P a b) (exL L a b) (u + 1) (up ua u a) (up ub u b) pm jm lm du lt hh) hx hb hr hlocks hV dX2_swapNow_99 (by unfold pshU pshA; rw [if_pos (by omega), if_pos (by omega), if_pos (by omega)])
  · refine lv_aload_n hx hb dX2_swapNow_45 rfl (lv_at hl 0 rfl) ?_
    refine lv_dup hx hb dX2_swapNow_46 rfl ?_
    refine q_get (C := RX2) (T := TX2) (N := 20) (ci := 2) (v := .int (nI (u + 1))) hx hb hts hin2 hown hK hV 0 rfl rfl 7 (by decide) (List.mem_of_getElem? (i := 2) rfl) rfl dX2_swapNow_47 ?_
    refine lv_iconst (v := nI 1) hx hb dX2_swapNow_50 (by decide) ?_
    refine q_isub2 (x := u + 1) (y := 1) (z := u) hx hb (by omega) dX2_swapNow_51 ?_
    refine q_put (C := RX2) (T := TX2) (N := 20) (ci := 2) (v := .int (nI u)) (wD h cA n tx T C K (exP L P a b) (exL L a b) u (up ua u a) (up ub u b) pm jm lm du lt hh) hx hb hts hin2 tyX2 tyX2_ok nmX2 hown hK hV 0 rfl rfl 7 (by decide) (List.mem_of_getElem? (i := 2) rfl) rfl rfl rfl (Nat.le_of_ble_eq_true rfl) rfl dX2_swapNow_52 (fun H locs hV => ?_)
    refine lv_iconst (v := nI 0) hx hb dX2_swapNow_55 (by decide) ?_
    refine lv_istore_n (lv' := [(3, .int (nI 0)), (0, .ref (h 0)), (1, .int (nI a)), (2, .int (nI b))]) hx hb dX2_swapNow_56 rfl hl (by decide) rfl (fun ls hl => ?_)
    have lp57 : ∀ (d57 : Nat) (j : Nat) (H : Heap) (locs : List Loc) (ls : Array Slot), (31 ≤ j + d57) → (j ≤ 30) → qV D A s.heap (wD h cA n tx T C K (exP L P a b) (exL L a b) u (shf (up ua u a) j) (shf (up ub u b) j) pm jm lm du lt hh) H locs → lv_has ls 4 [(0, .ref (h 0)), (1, .int (nI a)), (2, .int (nI b)), (3, .int (nI j))] → W p l e rm_X2_swapNow s m ([.ref (h 0), .int (nI a), .int (nI b)] : List Value).toArray below meth c H locs 0 0 (MQ below (va_Qv (fun W1 => W1 = wD h cA n tx T C K (exP L P a b) (exL L a b) (pshU u) (pshA ua u a) (pshA ub u b) pm jm lm du lt hh) (cPost D A) A) ([.ref (h 0), .int (nI a), .int (nI b)] : List Value).toArray s 0 0 A) (F0 m 57 ls []) := by
      intro d57
      induction d57 with
      | zero => intro j H locs ls hm57 hj hV hl; exfalso; omega
      | succ d57 ih57 =>
        intro j H locs ls hm57 hj hV hl
        refine lv_iload_n hx hb dX2_swapNow_57 rfl (lv_at hl 3 rfl) ?_
        refine lv_aload_n hx hb dX2_swapNow_58 rfl (lv_at hl 0 rfl) ?_
        refine q_get (C := RX2) (T := TX2) (N := 20) (ci := 2) (v := .int (nI u)) hx hb hts hin2 hown hK hV 0 rfl rfl 7 (by decide) (List.mem_of_getElem? (i := 2) rfl) rfl dX2_swapNow_59 ?_
        refine q_icmp_ge (x := j) (y := u) (tgt := 99) hx hb dX2_swapNow_62 (by decide) (by omega) (by omega) (fun c62 => ?_) (fun c62 => ?_)
        · have ej : j = 30 := by omega
          exact q_vret (W1 := wD h cA n tx T C K (exP L P a b) (exL L a b) u (shf (up ua u a) j) (shf (up ub u b) j) pm jm lm du lt hh) hx hb hr hlocks hV dX2_swapNow_99 (by unfold pshU; rw [if_neg (by omega), pshA_ref (by omega) (by omega), pshA_ref (by omega) (by omega), ej, show u = 30 by omega])
        · refine lv_aload_n hx hb dX2_swapNow_65 rfl (lv_at hl 0 rfl) ?_
          refine q_get (C := RX2) (T := TX2) (N := 20) (ci := 2) (v := .ref (h 4)) hx hb hts hin2 hown hK hV 0 rfl rfl 8 (by decide) (List.mem_of_getElem? (i := 1) rfl) rfl dX2_swapNow_66 ?_
          refine lv_iload_n hx hb dX2_swapNow_69 rfl (lv_at hl 3 rfl) ?_
          refine lv_aload_n hx hb dX2_swapNow_70 rfl (lv_at hl 0 rfl) ?_
          refine q_get (C := RX2) (T := TX2) (N := 20) (ci := 2) (v := .ref (h 4)) hx hb hts hin2 hown hK hV 0 rfl rfl 8 (by decide) (List.mem_of_getElem? (i := 1) rfl) rfl dX2_swapNow_71 ?_
          refine lv_iload_n hx hb dX2_swapNow_74 rfl (lv_at hl 3 rfl) ?_
          refine lv_iconst (v := nI 1) hx hb dX2_swapNow_75 (by decide) ?_
          refine q_iadd2 (x := j) (y := 1) (z := j + 1) hx hb (by omega) dX2_swapNow_76 ?_
          refine q_iald (n := 31) (k := j + 1) (f := shf (up ua u a) j) hx hb hK hV 4 rfl (by omega) (by omega) dX2_swapNow_77 ?_
          refine q_iast (n := 31) (k := j) (v := ((shf (up ua u a) j) (j + 1))) (f := shf (up ua u a) j) (wD h cA n tx T C K (exP L P a b) (exL L a b) u (up (shf (up ua u a) j) j ((shf (up ua u a) j) (j + 1))) (shf (up ub u b) j) pm jm lm du lt hh) hx hb hK hV 4 rfl (by omega) (by decide) rfl dX2_swapNow_78 (fun H locs hV => ?_)
          refine lv_aload_n hx hb dX2_swapNow_79 rfl (lv_at hl 0 rfl) ?_
          refine q_get (C := RX2) (T := TX2) (N := 20) (ci := 2) (v := .ref (h 5)) hx hb hts hin2 hown hK hV 0 rfl rfl 9 (by decide) (List.mem_of_getElem? (i := 3) rfl) rfl dX2_swapNow_80 ?_
          refine lv_iload_n hx hb dX2_swapNow_83 rfl (lv_at hl 3 rfl) ?_
          refine lv_aload_n hx hb dX2_swapNow_84 rfl (lv_at hl 0 rfl) ?_
          refine q_get (C := RX2) (T := TX2) (N := 20) (ci := 2) (v := .ref (h 5)) hx hb hts hin2 hown hK hV 0 rfl rfl 9 (by decide) (List.mem_of_getElem? (i := 3) rfl) rfl dX2_swapNow_85 ?_
          refine lv_iload_n hx hb dX2_swapNow_88 rfl (lv_at hl 3 rfl) ?_
          refine lv_iconst (v := nI 1) hx hb dX2_swapNow_89 (by decide) ?_
          refine q_iadd2 (x := j) (y := 1) (z := j + 1) hx hb (by omega) dX2_swapNow_90 ?_
          refine q_iald (n := 31) (k := j + 1) (f := shf (up ub u b) j) hx hb hK hV 5 rfl (by omega) (by omega) dX2_swapNow_91 ?_
          refine q_iast (n := 31) (k := j) (v := ((shf (up ub u b) j) (j + 1))) (f := shf (up ub u b) j) (wD h cA n tx T C K (exP L P a b) (exL L a b) u (up (shf (up ua u a) j) j ((shf (up ua u a) j) (j + 1))) (up (shf (up ub u b) j) j ((shf (up ub u b) j) (j + 1))) pm jm lm du lt hh) hx hb hK hV 5 rfl (by omega) (by decide) rfl dX2_swapNow_92 (fun H locs hV => ?_)
          refine q_iinc (x := j) (z := j + 1) (lv' := [(3, .int (nI (j + 1))), (0, .ref (h 0)), (1, .int (nI a)), (2, .int (nI b))]) hx hb dX2_swapNow_93 hl (k := 3) rfl (dd := 1) rfl (by omega) (by decide) rfl (fun ls hl => ?_)
          refine lv_goto (tgt := 57) hx hb dX2_swapNow_96 (by decide) ?_
          have e1 : shf (up ua u a) (j + 1) = up (shf (up ua u a) j) j (shf (up ua u a) j (j + 1)) := by rw [shf_at, shf_s]
          have e2 : shf (up ub u b) (j + 1) = up (shf (up ub u b) j) j (shf (up ub u b) j (j + 1)) := by rw [shf_at, shf_s]
          exact ih57  (j + 1) _ _ _ (by omega) (by first | omega | assumption) (by rw [e1, e2]; exact hV) (lv_sub hl [1, 2, 3, 0] rfl)
    exact lp57 31 0 _ _ _ (by omega) (by first | omega | assumption) (by rw [shf_0, shf_0]; exact hV) (lv_sub hl [1, 2, 3, 0] rfl)
abbrev rm_X2_closeness : Room := { frames := 1, cells := 0, slots := 0, locals := 21 }
set_option maxHeartbeats 4000000 in
set_option maxRecDepth 100000 in
theorem c_X2_closeness (l : Launch) (D : va_G) (h : Nat → Nat) (cA : ClassId) (n : Nat) (tx : Nat → Nat) (T : Nat) (C : Nat) (K : Nat) (P : Nat → Nat) (L : Nat → Nat) (u : Nat) (ua : Nat → Nat) (ub : Nat → Nat) (pm : Nat) (jm : Nat) (lm : Nat) (du : Nat) (lt : Nat) (hh : Int64) (a : Nat) (b : Nat)  (h_a : a < 12) (h_b : b < 12) (hC : C ≤ 5) (hp : perm L P) : CTi l D cA yX2_closeness wsX2_closeness rm_X2_closeness [.ref (h 0), .int (nI a), .int (nI b)] (wD h cA n tx T C K P L u ua ub pm jm lm du lt hh) (fun r W1 => r = nI (clos C P a b) ∧ W1 = wD h cA n tx T C K P L u ua ub pm jm lm du lt hh) := by
  refine CTi.mk (cc := cX2_closeness) (maxL := 4) (ret := some .int) (by decide) rfl (Nat.le_of_ble_eq_true rfl) ?_
  intro p e s m below meth c A ls E hV hl
  obtain ⟨hx, hb, hml, hr, hown, hts, hlocks, hK, hA, hN⟩ := E
  have hown : s.vm.findClass RX2 = some m.cls := hown
  have hin2 : ∀ w ∈ wsX20, w ∈ wsX2_closeness := fun _ h => List.mem_cons_of_mem _ (List.mem_append_right _ h)
  have hl : lv_has ls 4 [(0, .ref (h 0)), (1, .int (nI a)), (2, .int (nI b))] := hl
  refine lv_aload_n hx hb dX2_closeness_0 rfl (lv_at hl 0 rfl) ?_
  refine q_get (C := RX2) (T := TX2) (N := 20) (ci := 2) (v := .int (nI C)) hx hb hts hin2 hown hK hV 0 rfl rfl 3 (by decide) (List.mem_of_getElem? (i := 1) rfl) rfl dX2_closeness_1 ?_
  refine lv_iconst (v := nI 1) hx hb dX2_closeness_4 (by decide) ?_
  refine q_iadd2 (x := C) (y := 1) (z := C + 1) hx hb (by omega) dX2_closeness_5 ?_
  refine lv_aload_n hx hb dX2_closeness_6 rfl (lv_at hl 0 rfl) ?_
  refine q_get (C := RX2) (T := TX2) (N := 20) (ci := 2) (v := .ref (h 2)) hx hb hts hin2 hown hK hV 0 rfl rfl 5 (by decide) (List.mem_of_getElem? (i := 2) rfl) rfl dX2_closeness_7 ?_
  refine lv_iload_n hx hb dX2_closeness_10 rfl (lv_at hl 1 rfl) ?_
  refine q_iald (n := 12) (k := a) (f := P) hx hb hK hV 2 rfl (by omega) (by omega) dX2_closeness_11 ?_
  have f1 := hp.P (i := a) (by omega)
  refine lv_aload_n hx hb dX2_closeness_12 rfl (lv_at hl 0 rfl) ?_
  refine q_get (C := RX2) (T := TX2) (N := 20) (ci := 2) (v := .ref (h 2)) hx hb hts hin2 hown hK hV 0 rfl rfl 5 (by decide) (List.mem_of_getElem? (i := 2) rfl) rfl dX2_closeness_13 ?_
  refine lv_iload_n hx hb dX2_closeness_16 rfl (lv_at hl 2 rfl) ?_
  refine q_iald (n := 12) (k := b) (f := P) hx hb hK hV 2 rfl (by omega) (by omega) dX2_closeness_17 ?_
  have f2 := hp.P (i := b) (by omega)
  refine k_S_i (w0 := wD h cA n tx T C K P L u ua ub pm jm lm du lt hh) (wc := ([] : va_W)) (As := [.int (nI (P a)), .int (nI (P b))]) (rest := [.int (nI (C + 1))]) hx hb hml hown hts hK hA hN hV hl.1 (c_X2_apart l D cA (P a) (P b)  (by first | omega | assumption) (by first | omega | assumption)) gX2_closeness_X2_apart rfl rfl rfl hdX2_apart ⟨Nat.le_of_ble_eq_true rfl, Nat.le_of_ble_eq_true rfl⟩ rfl rfl (Nat.le_of_ble_eq_true rfl) dX2_closeness_18 ⟨Nat.zero_le _, Nat.zero_le _⟩ (fun r W1 H locs hp hV => ?_)
  obtain ⟨hp1, hp2⟩ := hp
  replace hp1 := hp1.symm
  subst hp1
  replace hp2 := hp2.symm
  subst hp2
  have hV : qV D A s.heap (wD h cA n tx T C K P L u ua ub pm jm lm du lt hh) H locs := hV
  refine lv_isub hx hb dX2_closeness_21 ?_
  refine lv_istore_n (lv' := [(3, .int (nI (C + 1) - nI (((P a) - (P b)) + ((P b) - (P a))))), (0, .ref (h 0)), (1, .int (nI a)), (2, .int (nI b))]) hx hb dX2_closeness_22 rfl hl (by decide) rfl (fun ls hl => ?_)
  refine lv_iload_n hx hb dX2_closeness_23 rfl (lv_at hl 2 rfl) ?_
  refine lv_iload_n hx hb dX2_closeness_24 rfl (lv_at hl 3 rfl) ?_
  refine q_icmp_eq (x := a) (y := b) (tgt := 32) hx hb dX2_closeness_25 (by decide) (by omega) (by omega) (fun c25 => ?_) (fun c25 => ?_)
  · refine lv_iconst (v := nI 0) hx hb dX2_closeness_32 (by decide) ?_
    refine lv_goto (tgt := 37) hx hb dX2_closeness_33 (by decide) ?_
    exact q_iret (W1 := wD h cA n tx T C K P L u ua ub pm jm lm du lt hh) hx hb hr hlocks hV dX2_closeness_37 ⟨by unfold clos; first | rw [if_pos c25] | (rw [pk_sub_toInt (by omega) (by omega)] at c29; rw [if_neg c25]; congr 1; omega), rfl⟩
  · refine lv_iload_n hx hb dX2_closeness_28 rfl (lv_at hl 0 rfl) ?_
    refine z_if_ge (tgt := 36) hx hb dX2_closeness_29 (by decide) (fun c29 => ?_) (fun c29 => ?_)
    · refine lv_iload_n hx hb dX2_closeness_36 rfl (lv_at hl 0 rfl) ?_
      rw [pk_sub_toInt (by omega) (by omega)] at c29
      exact q_iret (W1 := wD h cA n tx T C K P L u ua ub pm jm lm du lt hh) hx hb hr hlocks hV dX2_closeness_37 ⟨by unfold clos; rw [if_neg c25, pk_sub (by omega)], rfl⟩
    · refine lv_iconst (v := nI 0) hx hb dX2_closeness_32 (by decide) ?_
      refine lv_goto (tgt := 37) hx hb dX2_closeness_33 (by decide) ?_
      exact q_iret (W1 := wD h cA n tx T C K P L u ua ub pm jm lm du lt hh) hx hb hr hlocks hV dX2_closeness_37 ⟨by unfold clos; first | rw [if_pos c25] | (rw [pk_sub_toInt (by omega) (by omega)] at c29; rw [if_neg c25]; congr 1; omega), rfl⟩
abbrev rm_X2_costNow : Room := { frames := 2, cells := 0, slots := 0, locals := 44 }
set_option maxHeartbeats 4000000 in
set_option maxRecDepth 100000 in
theorem c_X2_costNow (l : Launch) (D : va_G) (h : Nat → Nat) (cA : ClassId) (n : Nat) (tx : Nat → Nat) (T : Nat) (C : Nat) (K : Nat) (P : Nat → Nat) (L : Nat → Nat) (u : Nat) (ua : Nat → Nat) (ub : Nat → Nat) (pm : Nat) (jm : Nat) (lm : Nat) (du : Nat) (lt : Nat) (hh : Int64)   (hn : n ≤ 60) (htx : ∀ i, tx i < 12) (hC : C ≤ 5) (hp : perm L P) : CTi l D cA yX2_costNow wsX2_costNow rm_X2_costNow [.ref (h 0)] (wD h cA n tx T C K P L u ua ub pm jm lm du lt hh) (fun r W1 => r = nI (cst C P tx (n - 1)) ∧ W1 = wD h cA n tx T C K P L u ua ub pm jm lm du lt hh) := by
  refine CTi.mk (cc := cX2_costNow) (maxL := 3) (ret := some .int) (by decide) rfl (Nat.le_of_ble_eq_true rfl) ?_
  intro p e s m below meth c A ls E hV hl
  obtain ⟨hx, hb, hml, hr, hown, hts, hlocks, hK, hA, hN⟩ := E
  have hown : s.vm.findClass RX2 = some m.cls := hown
  have hin2 : ∀ w ∈ wsX20, w ∈ wsX2_costNow := fun _ h => List.mem_cons_of_mem _ (List.mem_append_right _ h)
  have hl : lv_has ls 3 [(0, .ref (h 0))] := hl
  refine lv_iconst (v := nI 0) hx hb dX2_costNow_0 (by decide) ?_
  refine lv_istore_n (lv' := [(1, .int (nI 0)), (0, .ref (h 0))]) hx hb dX2_costNow_1 rfl hl (by decide) rfl (fun ls hl => ?_)
  refine lv_iconst (v := nI 1) hx hb dX2_costNow_2 (by decide) ?_
  refine lv_istore_n (lv' := [(2, .int (nI 1)), (1, .int (nI 0)), (0, .ref (h 0))]) hx hb dX2_costNow_3 rfl hl (by decide) rfl (fun ls hl => ?_)
  have lp4 : ∀ (d4 : Nat) (j : Nat) (H : Heap) (locs : List Loc) (ls : Array Slot), (61 ≤ j + d4) → (j = 0 ∨ j + 1 ≤ n) → qV D A s.heap (wD h cA n tx T C K P L u ua ub pm jm lm du lt hh) H locs → lv_has ls 3 [(0, .ref (h 0)), (1, .int (nI (cst C P tx j))), (2, .int (nI (j + 1)))] → W p l e rm_X2_costNow s m ([.ref (h 0)] : List Value).toArray below meth c H locs 0 0 (MQ below (va_Qi (fun r W1 => r = nI (cst C P tx (n - 1)) ∧ W1 = wD h cA n tx T C K P L u ua ub pm jm lm du lt hh) (cPost D A) A) ([.ref (h 0)] : List Value).toArray s 0 0 A) (F0 m 4 ls []) := by
    intro d4
    induction d4 with
    | zero => intro j H locs ls hm4 hj hV hl; exfalso; omega
    | succ d4 ih4 =>
      intro j H locs ls hm4 hj hV hl
      refine lv_iload_n hx hb dX2_costNow_4 rfl (lv_at hl 2 rfl) ?_
      refine lv_aload_n hx hb dX2_costNow_5 rfl (lv_at hl 0 rfl) ?_
      refine q_get (C := RX2) (T := TX2) (N := 20) (ci := 2) (v := .int (nI n)) hx hb hts hin2 hown hK hV 0 rfl rfl 0 (by decide) (List.mem_of_getElem? (i := 1) rfl) rfl dX2_costNow_6 ?_
      refine q_icmp_ge (x := j + 1) (y := n) (tgt := 39) hx hb dX2_costNow_9 (by decide) (by omega) (by omega) (fun c9 => ?_) (fun c9 => ?_)
      · refine lv_iload_n hx hb dX2_costNow_39 rfl (lv_at hl 1 rfl) ?_
        have ej : j = n - 1 := by omega
        exact q_iret (W1 := wD h cA n tx T C K P L u ua ub pm jm lm du lt hh) hx hb hr hlocks hV dX2_costNow_40 ⟨by rw [ej], rfl⟩
      · refine lv_iload_n hx hb dX2_costNow_12 rfl (lv_at hl 1 rfl) ?_
        refine lv_aload_n hx hb dX2_costNow_13 rfl (lv_at hl 0 rfl) ?_
        refine lv_aload_n hx hb dX2_costNow_14 rfl (lv_at hl 0 rfl) ?_
        refine q_get (C := RX2) (T := TX2) (N := 20) (ci := 2) (v := .ref (h 1)) hx hb hts hin2 hown hK hV 0 rfl rfl 1 (by decide) (List.mem_of_getElem? (i := 2) rfl) rfl dX2_costNow_15 ?_
        refine lv_iload_n hx hb dX2_costNow_18 rfl (lv_at hl 2 rfl) ?_
        refine lv_iconst (v := nI 1) hx hb dX2_costNow_19 (by decide) ?_
        refine q_isub2 (x := j + 1) (y := 1) (z := j) hx hb (by omega) dX2_costNow_20 ?_
        refine q_iald (n := 60) (k := j) (f := tx) hx hb hK hV 1 rfl (by omega) (by omega) dX2_costNow_21 ?_
        have f1 := htx j
        refine lv_aload_n hx hb dX2_costNow_22 rfl (lv_at hl 0 rfl) ?_
        refine q_get (C := RX2) (T := TX2) (N := 20) (ci := 2) (v := .ref (h 1)) hx hb hts hin2 hown hK hV 0 rfl rfl 1 (by decide) (List.mem_of_getElem? (i := 2) rfl) rfl dX2_costNow_23 ?_
        refine lv_iload_n hx hb dX2_costNow_26 rfl (lv_at hl 2 rfl) ?_
        refine q_iald (n := 60) (k := j + 1) (f := tx) hx hb hK hV 1 rfl (by omega) (by omega) dX2_costNow_27 ?_
        have f2 := htx (j + 1)
        refine k_V_i (w0 := ([] : va_W)) (wc := wD h cA n tx T C K P L u ua ub pm jm lm du lt hh) (b := h 0) (As := [.int (nI (tx j)), .int (nI (tx (j + 1)))]) (rest := [.int (nI (cst C P tx j))]) hx hb hml hown hts hK hA hN hV hl.1 (c_X2_closeness l D h cA n tx T C K P L u ua ub pm jm lm du lt hh (tx j) (tx (j + 1))  (by first | omega | assumption) (by first | omega | assumption) (by first | omega | assumption) (by first | omega | assumption)) gX2_costNow_X2_closeness rfl rfl rfl hdX2_closeness ⟨Nat.le_of_ble_eq_true rfl, Nat.le_of_ble_eq_true rfl⟩ 0 2 rfl rfl rfl rfl rfl (Nat.le_of_ble_eq_true rfl) dX2_costNow_28 ⟨Nat.zero_le _, Nat.zero_le _⟩ (fun r W1 H locs hp hV => ?_)
        obtain ⟨hp1, hp2⟩ := hp
        replace hp1 := hp1.symm
        subst hp1
        replace hp2 := hp2.symm
        subst hp2
        have hV : qV D A s.heap (wD h cA n tx T C K P L u ua ub pm jm lm du lt hh) H locs := hV
        have f3 := clos_le C P (tx j) (tx (j + 1))
        refine q_iadd2 (x := (cst C P tx j)) (y := (clos C P (tx j) (tx (j + 1)))) (z := (cst C P tx j) + (clos C P (tx j) (tx (j + 1)))) hx hb (by omega) dX2_costNow_31 ?_
        refine lv_istore_n (lv' := [(1, .int (nI ((cst C P tx j) + (clos C P (tx j) (tx (j + 1)))))), (0, .ref (h 0)), (2, .int (nI (j + 1)))]) hx hb dX2_costNow_32 rfl hl (by decide) rfl (fun ls hl => ?_)
        refine q_iinc (x := j + 1) (z := j + 2) (lv' := [(2, .int (nI (j + 2))), (1, .int (nI ((cst C P tx j) + (clos C P (tx j) (tx (j + 1)))))), (0, .ref (h 0))]) hx hb dX2_costNow_33 hl (k := 2) rfl (dd := 1) rfl (by omega) (by decide) rfl (fun ls hl => ?_)
        refine lv_goto (tgt := 4) hx hb dX2_costNow_36 (by decide) ?_
        exact ih4  (j + 1) _ _ _ (by omega) (by first | omega | assumption) hV (lv_sub hl [2, 1, 0] rfl)
  exact lp4 61 0 _ _ _ (by omega) (by first | omega | assumption) hV (lv_sub hl [2, 1, 0] rfl)
abbrev rm_X2_cost : Room := { frames := 3, cells := 0, slots := 0, locals := 66 }
set_option maxHeartbeats 4000000 in
set_option maxRecDepth 100000 in
theorem c_X2_cost (l : Launch) (D : va_G) (h : Nat → Nat) (cA : ClassId) (n : Nat) (tx : Nat → Nat) (T : Nat) (C : Nat) (K : Nat) (P : Nat → Nat) (L : Nat → Nat) (u : Nat) (ua : Nat → Nat) (ub : Nat → Nat) (pm : Nat) (jm : Nat) (lm : Nat) (du : Nat) (lt : Nat) (hh : Int64)   (hn : n ≤ 60) (htx : ∀ i, tx i < 12) (hC : C ≤ 5) (hp : perm L P) : CTi l D cA yX2_cost wsX2_cost rm_X2_cost [.ref (h 0)] (wD h cA n tx T C K P L u ua ub pm jm lm du lt hh) (fun r W1 => r = nI (cst C P tx (n - 1)) ∧ W1 = wD h cA n tx T C K P L u ua ub pm jm lm du lt hh) := by
  refine CTi.mk (cc := cX2_cost) (maxL := 1) (ret := some .int) (by decide) rfl (Nat.le_of_ble_eq_true rfl) ?_
  intro p e s m below meth c A ls E hV hl
  obtain ⟨hx, hb, hml, hr, hown, hts, hlocks, hK, hA, hN⟩ := E
  have hown : s.vm.findClass RX2 = some m.cls := hown
  have hin2 : ∀ w ∈ wsX20, w ∈ wsX2_cost := fun _ h => List.mem_cons_of_mem _ (List.mem_append_right _ h)
  have hl : lv_has ls 1 [(0, .ref (h 0))] := hl
  refine lv_aload_n hx hb dX2_cost_0 rfl (lv_at hl 0 rfl) ?_
  refine k_V_i (w0 := ([] : va_W)) (wc := wD h cA n tx T C K P L u ua ub pm jm lm du lt hh) (b := h 0) (As := []) (rest := []) hx hb hml hown hts hK hA hN hV hl.1 (c_X2_costNow l D h cA n tx T C K P L u ua ub pm jm lm du lt hh   (by first | omega | assumption) (by first | omega | assumption) (by first | omega | assumption) (by first | omega | assumption)) gX2_cost_X2_costNow rfl rfl rfl hdX2_costNow ⟨Nat.le_of_ble_eq_true rfl, Nat.le_of_ble_eq_true rfl⟩ 0 2 rfl rfl rfl rfl rfl (Nat.le_of_ble_eq_true rfl) dX2_cost_1 ⟨Nat.zero_le _, Nat.zero_le _⟩ (fun r W1 H locs hp hV => ?_)
  obtain ⟨hp1, hp2⟩ := hp
  replace hp1 := hp1.symm
  subst hp1
  replace hp2 := hp2.symm
  subst hp2
  have hV : qV D A s.heap (wD h cA n tx T C K P L u ua ub pm jm lm du lt hh) H locs := hV
  have f1 := cst_lt P tx (j := n - 1) hC (by omega)
  exact q_iret (W1 := wD h cA n tx T C K P L u ua ub pm jm lm du lt hh) hx hb hr hlocks hV dX2_cost_4 ⟨rfl, rfl⟩
