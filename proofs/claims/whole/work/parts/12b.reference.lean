abbrev rm_X2_swap : Room := { frames := 3, cells := 0, slots := 0, locals := 66 }
set_option maxHeartbeats 4000000 in
set_option maxRecDepth 100000 in
theorem c_X2_swap (l : Launch) (D : va_G) (h : Nat → Nat) (cA : ClassId) (n : Nat) (tx : Nat → Nat) (T : Nat) (C : Nat) (K : Nat) (P : Nat → Nat) (L : Nat → Nat) (u : Nat) (ua : Nat → Nat) (ub : Nat → Nat) (pm : Nat) (jm : Nat) (lm : Nat) (du : Nat) (lt : Nat) (hh : Int64) (v1 : Int32) (v2 : Int32)  (hn : n ≤ 60) (htx : ∀ i, tx i < 12) (hC : C ≤ 5) (hp : perm L P) (hu : u ≤ 30) : CTi l D cA yX2_swap wsX2_swap rm_X2_swap [.ref (h 0), .int v1, .int v2] (wD h cA n tx T C K P L u ua ub pm jm lm du lt hh) (fun r W1 => r = aSw C tx n v1 v2 (L, P, u, ua, ub) ∧ W1 = wD h cA n tx T C K ((ySw v1 v2 (L, P, u, ua, ub)).2.1) ((ySw v1 v2 (L, P, u, ua, ub)).1) ((ySw v1 v2 (L, P, u, ua, ub)).2.2.1) ((ySw v1 v2 (L, P, u, ua, ub)).2.2.2.1) ((ySw v1 v2 (L, P, u, ua, ub)).2.2.2.2) pm jm lm du lt hh) := by
  refine CTi.mk (cc := cX2_swap) (maxL := 4) (ret := some .int) (by decide) rfl (Nat.le_of_ble_eq_true rfl) ?_
  intro p e s m below meth c A ls E hV hl
  obtain ⟨hx, hb, hml, hr, hown, hts, hlocks, hK, hA, hN⟩ := E
  have hown : s.vm.findClass RX2 = some m.cls := hown
  have hin2 : ∀ w ∈ wsX20, w ∈ wsX2_swap := fun _ h => List.mem_cons_of_mem _ (List.mem_append_right _ h)
  have hl : lv_has ls 4 [(0, .ref (h 0)), (1, .int v1), (2, .int v2)] := hl
  refine lv_iload_n hx hb dX2_swap_0 rfl (lv_at hl 1 rfl) ?_
  refine lv_iload_n hx hb dX2_swap_1 rfl (lv_at hl 2 rfl) ?_
  refine k_S_i (w0 := wD h cA n tx T C K P L u ua ub pm jm lm du lt hh) (wc := ([] : va_W)) (As := [.int v1, .int v2]) (rest := []) hx hb hml hown hts hK hA hN hV hl.1 (c_X2_refusal l D cA v1 v2  ) gX2_swap_X2_refusal rfl rfl rfl hdX2_refusal ⟨Nat.le_of_ble_eq_true rfl, Nat.le_of_ble_eq_true rfl⟩ rfl rfl (Nat.le_of_ble_eq_true rfl) dX2_swap_2 ⟨Nat.zero_le _, Nat.zero_le _⟩ (fun r W1 H locs hp hV => ?_)
  obtain ⟨hp1, hp2⟩ := hp
  replace hp1 := hp1.symm
  subst hp1
  replace hp2 := hp2.symm
  subst hp2
  have hV : qV D A s.heap (wD h cA n tx T C K P L u ua ub pm jm lm du lt hh) H locs := hV
  refine lv_istore_n (lv' := [(3, .int (swErr v1 v2)), (0, .ref (h 0)), (1, .int v1), (2, .int v2)]) hx hb dX2_swap_5 rfl hl (by decide) rfl (fun ls hl => ?_)
  refine lv_iload_n hx hb dX2_swap_6 rfl (lv_at hl 0 rfl) ?_
  refine z_if_eq (tgt := 12) hx hb dX2_swap_7 (by decide) (fun c7 => ?_) (fun c7 => ?_)
  · obtain ⟨k1, k2, hk1, hk2, hne, rfl, rfl⟩ := swErr_0 c7
    refine lv_aload_n hx hb dX2_swap_12 rfl (lv_at hl 1 rfl) ?_
    refine lv_iload_n hx hb dX2_swap_13 rfl (lv_at hl 2 rfl) ?_
    refine lv_iload_n hx hb dX2_swap_14 rfl (lv_at hl 3 rfl) ?_
    refine k_V_v (w0 := ([] : va_W)) (wc := wD h cA n tx T C K P L u ua ub pm jm lm du lt hh) (b := h 0) (As := [.int (nI k1), .int (nI k2)]) (rest := []) hx hb hml hown hts hK hA hN hV hl.1 (c_X2_swapNow l D h cA n tx T C K P L u ua ub pm jm lm du lt hh k1 k2  (by first | omega | assumption) (by first | omega | assumption) (by first | omega | assumption) (by first | omega | assumption)) gX2_swap_X2_swapNow rfl rfl rfl hdX2_swapNow ⟨Nat.le_of_ble_eq_true rfl, Nat.le_of_ble_eq_true rfl⟩ 0 2 rfl rfl rfl rfl rfl (Nat.le_of_ble_eq_true rfl) dX2_swap_15 ⟨Nat.zero_le _, Nat.zero_le _⟩ (fun W1 H locs hp hV => ?_)
    subst hp
    have hV : qV D A s.heap (wD h cA n tx T C K (exP L P k1 k2) (exL L k1 k2) (pshU u) (pshA ua u k1) (pshA ub u k2) pm jm lm du lt hh) H locs := hV
    refine lv_aload_n hx hb dX2_swap_18 rfl (lv_at hl 1 rfl) ?_
    refine k_V_i (w0 := ([] : va_W)) (wc := wD h cA n tx T C K (exP L P k1 k2) (exL L k1 k2) (pshU u) (pshA ua u k1) (pshA ub u k2) pm jm lm du lt hh) (b := h 0) (As := []) (rest := []) hx hb hml hown hts hK hA hN hV hl.1 (c_X2_costNow l D h cA n tx T C K (exP L P k1 k2) (exL L k1 k2) (pshU u) (pshA ua u k1) (pshA ub u k2) pm jm lm du lt hh   (by first | omega | assumption) (by first | omega | assumption) (by first | omega | assumption) (hp.ex hk1 hk2)) gX2_swap_X2_costNow rfl rfl rfl hdX2_costNow ⟨Nat.le_of_ble_eq_true rfl, Nat.le_of_ble_eq_true rfl⟩ 0 2 rfl rfl rfl rfl rfl (Nat.le_of_ble_eq_true rfl) dX2_swap_19 ⟨Nat.zero_le _, Nat.zero_le _⟩ (fun r W1 H locs hp hV => ?_)
    obtain ⟨hp1, hp2⟩ := hp
    replace hp1 := hp1.symm
    subst hp1
    replace hp2 := hp2.symm
    subst hp2
    have hV : qV D A s.heap (wD h cA n tx T C K (exP L P k1 k2) (exL L k1 k2) (pshU u) (pshA ua u k1) (pshA ub u k2) pm jm lm du lt hh) H locs := hV
    have f1 := cst_lt (exP L P k1 k2) tx (j := n - 1) hC (by omega)
    exact q_iret (W1 := wD h cA n tx T C K (exP L P k1 k2) (exL L k1 k2) (pshU u) (pshA ua u k1) (pshA ub u k2) pm jm lm du lt hh) hx hb hr hlocks hV dX2_swap_22 ⟨(aSw_ok hk1 hk2 hne (L, P, u, ua, ub)).symm, by rw [ySw_ok hk1 hk2 hne]; rfl⟩
  · refine lv_iload_n hx hb dX2_swap_10 rfl (lv_at hl 0 rfl) ?_
    exact q_iret (W1 := wD h cA n tx T C K P L u ua ub pm jm lm du lt hh) hx hb hr hlocks hV dX2_swap_11 ⟨(aSw_no c7 _).symm, by rw [ySw_no c7]⟩
abbrev rm_X2_undo : Room := { frames := 3, cells := 0, slots := 0, locals := 66 }
set_option maxHeartbeats 4000000 in
set_option maxRecDepth 100000 in
theorem c_X2_undo (l : Launch) (D : va_G) (h : Nat → Nat) (cA : ClassId) (n : Nat) (tx : Nat → Nat) (T : Nat) (C : Nat) (K : Nat) (P : Nat → Nat) (L : Nat → Nat) (u : Nat) (ua : Nat → Nat) (ub : Nat → Nat) (pm : Nat) (jm : Nat) (lm : Nat) (du : Nat) (lt : Nat) (hh : Int64)   (hn : n ≤ 60) (htx : ∀ i, tx i < 12) (hC : C ≤ 5) (hp : perm L P) (hu : u ≤ 30) (hua : ∀ i, ua i < 12) (hub : ∀ i, ub i < 12) : CTi l D cA yX2_undo wsX2_undo rm_X2_undo [.ref (h 0)] (wD h cA n tx T C K P L u ua ub pm jm lm du lt hh) (fun r W1 => r = aUn C tx n (L, P, u, ua, ub) ∧ W1 = wD h cA n tx T C K ((yUn (L, P, u, ua, ub)).2.1) ((yUn (L, P, u, ua, ub)).1) ((yUn (L, P, u, ua, ub)).2.2.1) ((yUn (L, P, u, ua, ub)).2.2.2.1) ((yUn (L, P, u, ua, ub)).2.2.2.2) pm jm lm du lt hh) := by
  refine CTi.mk (cc := cX2_undo) (maxL := 1) (ret := some .int) (by decide) rfl (Nat.le_of_ble_eq_true rfl) ?_
  intro p e s m below meth c A ls E hV hl
  obtain ⟨hx, hb, hml, hr, hown, hts, hlocks, hK, hA, hN⟩ := E
  have hown : s.vm.findClass RX2 = some m.cls := hown
  have hin2 : ∀ w ∈ wsX20, w ∈ wsX2_undo := fun _ h => List.mem_cons_of_mem _ (List.mem_append_right _ h)
  have hl : lv_has ls 1 [(0, .ref (h 0))] := hl
  refine lv_aload_n hx hb dX2_undo_0 rfl (lv_at hl 0 rfl) ?_
  refine q_get (C := RX2) (T := TX2) (N := 20) (ci := 2) (v := .int (nI u)) hx hb hts hin2 hown hK hV 0 rfl rfl 7 (by decide) (List.mem_of_getElem? (i := 1) rfl) rfl dX2_undo_1 ?_
  refine q_if_ne (x := u) (tgt := 10) hx hb dX2_undo_4 (by decide) (by omega) (fun c4 => ?_) (fun c4 => ?_)
  · refine lv_aload_n hx hb dX2_undo_10 rfl (lv_at hl 0 rfl) ?_
    refine lv_dup hx hb dX2_undo_11 rfl ?_
    refine q_get (C := RX2) (T := TX2) (N := 20) (ci := 2) (v := .int (nI u)) hx hb hts hin2 hown hK hV 0 rfl rfl 7 (by decide) (List.mem_of_getElem? (i := 1) rfl) rfl dX2_undo_12 ?_
    refine lv_iconst (v := nI 1) hx hb dX2_undo_15 (by decide) ?_
    refine q_isub2 (x := u) (y := 1) (z := (u - 1)) hx hb (by omega) dX2_undo_16 ?_
    refine q_put (C := RX2) (T := TX2) (N := 20) (ci := 2) (v := .int (nI (u - 1))) (wD h cA n tx T C K P L (u - 1) ua ub pm jm lm du lt hh) hx hb hts hin2 tyX2 tyX2_ok nmX2 hown hK hV 0 rfl rfl 7 (by decide) (List.mem_of_getElem? (i := 1) rfl) rfl rfl rfl (Nat.le_of_ble_eq_true rfl) rfl dX2_undo_17 (fun H locs hV => ?_)
    refine lv_aload_n hx hb dX2_undo_20 rfl (lv_at hl 0 rfl) ?_
    refine lv_aload_n hx hb dX2_undo_21 rfl (lv_at hl 0 rfl) ?_
    refine q_get (C := RX2) (T := TX2) (N := 20) (ci := 2) (v := .ref (h 4)) hx hb hts hin2 hown hK hV 0 rfl rfl 8 (by decide) (List.mem_of_getElem? (i := 3) rfl) rfl dX2_undo_22 ?_
    refine lv_aload_n hx hb dX2_undo_25 rfl (lv_at hl 0 rfl) ?_
    refine q_get (C := RX2) (T := TX2) (N := 20) (ci := 2) (v := .int (nI (u - 1))) hx hb hts hin2 hown hK hV 0 rfl rfl 7 (by decide) (List.mem_of_getElem? (i := 1) rfl) rfl dX2_undo_26 ?_
    refine q_iald (n := 31) (k := (u - 1)) (f := ua) hx hb hK hV 4 rfl (by omega) (by omega) dX2_undo_29 ?_
    have f1 := hua (u - 1)
    refine lv_aload_n hx hb dX2_undo_30 rfl (lv_at hl 0 rfl) ?_
    refine q_get (C := RX2) (T := TX2) (N := 20) (ci := 2) (v := .ref (h 5)) hx hb hts hin2 hown hK hV 0 rfl rfl 9 (by decide) (List.mem_of_getElem? (i := 4) rfl) rfl dX2_undo_31 ?_
    refine lv_aload_n hx hb dX2_undo_34 rfl (lv_at hl 0 rfl) ?_
    refine q_get (C := RX2) (T := TX2) (N := 20) (ci := 2) (v := .int (nI (u - 1))) hx hb hts hin2 hown hK hV 0 rfl rfl 7 (by decide) (List.mem_of_getElem? (i := 1) rfl) rfl dX2_undo_35 ?_
    refine q_iald (n := 31) (k := (u - 1)) (f := ub) hx hb hK hV 5 rfl (by omega) (by omega) dX2_undo_38 ?_
    have f2 := hub (u - 1)
    refine k_V_v (w0 := ([] : va_W)) (wc := wD h cA n tx T C K P L (u - 1) ua ub pm jm lm du lt hh) (b := h 0) (As := [.int (nI (ua (u - 1))), .int (nI (ub (u - 1)))]) (rest := []) hx hb hml hown hts hK hA hN hV hl.1 (c_X2_exchange l D h cA n tx T C K P L (u - 1) ua ub pm jm lm du lt hh (ua (u - 1)) (ub (u - 1))  (by first | omega | assumption) (by first | omega | assumption) (by first | omega | assumption)) gX2_undo_X2_exchange rfl rfl rfl hdX2_exchange ⟨Nat.le_of_ble_eq_true rfl, Nat.le_of_ble_eq_true rfl⟩ 0 2 rfl rfl rfl rfl rfl (Nat.le_of_ble_eq_true rfl) dX2_undo_39 ⟨Nat.zero_le _, Nat.zero_le _⟩ (fun W1 H locs hp hV => ?_)
    subst hp
    have hV : qV D A s.heap (wD h cA n tx T C K (exP L P (ua (u - 1)) (ub (u - 1))) (exL L (ua (u - 1)) (ub (u - 1))) (u - 1) ua ub pm jm lm du lt hh) H locs := hV
    refine lv_aload_n hx hb dX2_undo_42 rfl (lv_at hl 0 rfl) ?_
    refine k_V_i (w0 := ([] : va_W)) (wc := wD h cA n tx T C K (exP L P (ua (u - 1)) (ub (u - 1))) (exL L (ua (u - 1)) (ub (u - 1))) (u - 1) ua ub pm jm lm du lt hh) (b := h 0) (As := []) (rest := []) hx hb hml hown hts hK hA hN hV hl.1 (c_X2_costNow l D h cA n tx T C K (exP L P (ua (u - 1)) (ub (u - 1))) (exL L (ua (u - 1)) (ub (u - 1))) (u - 1) ua ub pm jm lm du lt hh   (by first | omega | assumption) (by first | omega | assumption) (by first | omega | assumption) (hp.ex (by omega) (by omega))) gX2_undo_X2_costNow rfl rfl rfl hdX2_costNow ⟨Nat.le_of_ble_eq_true rfl, Nat.le_of_ble_eq_true rfl⟩ 0 2 rfl rfl rfl rfl rfl (Nat.le_of_ble_eq_true rfl) dX2_undo_43 ⟨Nat.zero_le _, Nat.zero_le _⟩ (fun r W1 H locs hp hV => ?_)
    obtain ⟨hp1, hp2⟩ := hp
    replace hp1 := hp1.symm
    subst hp1
    replace hp2 := hp2.symm
    subst hp2
    have hV : qV D A s.heap (wD h cA n tx T C K (exP L P (ua (u - 1)) (ub (u - 1))) (exL L (ua (u - 1)) (ub (u - 1))) (u - 1) ua ub pm jm lm du lt hh) H locs := hV
    have f3 := cst_lt (exP L P (ua (u - 1)) (ub (u - 1))) tx (j := n - 1) hC (by omega)
    have e1 : ¬ (L, P, u, ua, ub).2.2.1 = 0 := by show ¬ u = 0; omega
    have e2 : yUn (L, P, u, ua, ub) = (exL L (ua (u - 1)) (ub (u - 1)), exP L P (ua (u - 1)) (ub (u - 1)), u - 1, ua, ub) := if_neg e1
    exact q_iret (W1 := wD h cA n tx T C K (exP L P (ua (u - 1)) (ub (u - 1))) (exL L (ua (u - 1)) (ub (u - 1))) (u - 1) ua ub pm jm lm du lt hh) hx hb hr hlocks hV dX2_undo_46 ⟨by unfold aUn; rw [if_neg e1, e2], by rw [e2]⟩
  · refine lv_ldc (v := -1000006) hx hb hown (hts _ (List.mem_of_getElem? (i := 2) rfl)) dX2_undo_7 ?_
    have e1 : (L, P, u, ua, ub).2.2.1 = 0 := c4
    exact q_iret (W1 := wD h cA n tx T C K P L u ua ub pm jm lm du lt hh) hx hb hr hlocks hV dX2_undo_9 ⟨by unfold aUn; rw [if_pos e1], by unfold yUn; rw [if_pos e1]⟩
abbrev rm_X2_undoCount : Room := { frames := 0, cells := 0, slots := 0, locals := 0 }
set_option maxHeartbeats 4000000 in
set_option maxRecDepth 100000 in
theorem c_X2_undoCount (l : Launch) (D : va_G) (h : Nat → Nat) (cA : ClassId) (n : Nat) (tx : Nat → Nat) (T : Nat) (C : Nat) (K : Nat) (P : Nat → Nat) (L : Nat → Nat) (u : Nat) (ua : Nat → Nat) (ub : Nat → Nat) (pm : Nat) (jm : Nat) (lm : Nat) (du : Nat) (lt : Nat) (hh : Int64)    : CTi l D cA yX2_undoCount wsX2_undoCount rm_X2_undoCount [.ref (h 0)] (wD h cA n tx T C K P L u ua ub pm jm lm du lt hh) (fun r W1 => r = nI u ∧ W1 = wD h cA n tx T C K P L u ua ub pm jm lm du lt hh) := by
  refine CTi.mk (cc := cX2_undoCount) (maxL := 1) (ret := some .int) (by decide) rfl (Nat.le_of_ble_eq_true rfl) ?_
  intro p e s m below meth c A ls E hV hl
  obtain ⟨hx, hb, hml, hr, hown, hts, hlocks, hK, hA, hN⟩ := E
  have hown : s.vm.findClass RX2 = some m.cls := hown
  have hin2 : ∀ w ∈ wsX20, w ∈ wsX2_undoCount := fun _ h => List.mem_cons_of_mem _ (List.mem_append_right _ h)
  have hl : lv_has ls 1 [(0, .ref (h 0))] := hl
  refine lv_aload_n hx hb dX2_undoCount_0 rfl (lv_at hl 0 rfl) ?_
  refine q_get (C := RX2) (T := TX2) (N := 20) (ci := 2) (v := .int (nI u)) hx hb hts hin2 hown hK hV 0 rfl rfl 7 (by decide) (List.mem_of_getElem? (i := 1) rfl) rfl dX2_undoCount_1 ?_
  exact q_iret (W1 := wD h cA n tx T C K P L u ua ub pm jm lm du lt hh) hx hb hr hlocks hV dX2_undoCount_4 ⟨rfl, rfl⟩
abbrev rm_X2_mirror : Room := { frames := 3, cells := 0, slots := 0, locals := 66 }
set_option maxHeartbeats 4000000 in
set_option maxRecDepth 100000 in
theorem c_X2_mirror (l : Launch) (D : va_G) (h : Nat → Nat) (cA : ClassId) (n : Nat) (tx : Nat → Nat) (T : Nat) (C : Nat) (K : Nat) (P : Nat → Nat) (L : Nat → Nat) (u : Nat) (ua : Nat → Nat) (ub : Nat → Nat) (pm : Nat) (jm : Nat) (lm : Nat) (du : Nat) (lt : Nat) (hh : Int64)   (hn : n ≤ 60) (htx : ∀ i, tx i < 12) (hC : C ≤ 5) (hp : perm L P) : CTi l D cA yX2_mirror wsX2_mirror rm_X2_mirror [.ref (h 0)] (wD h cA n tx T C K P L u ua ub pm jm lm du lt hh) (fun r W1 => r = nI (cst C (mir L P 6).2 tx (n - 1)) ∧ W1 = wD h cA n tx T C K ((mir L P 6).2) ((mir L P 6).1) 0 ua ub pm jm lm du lt hh) := by
  refine CTi.mk (cc := cX2_mirror) (maxL := 2) (ret := some .int) (by decide) rfl (Nat.le_of_ble_eq_true rfl) ?_
  intro p e s m below meth c A ls E hV hl
  obtain ⟨hx, hb, hml, hr, hown, hts, hlocks, hK, hA, hN⟩ := E
  have hown : s.vm.findClass RX2 = some m.cls := hown
  have hin2 : ∀ w ∈ wsX20, w ∈ wsX2_mirror := fun _ h => List.mem_cons_of_mem _ (List.mem_append_right _ h)
  have hl : lv_has ls 2 [(0, .ref (h 0))] := hl
  refine lv_iconst (v := nI 0) hx hb dX2_mirror_0 (by decide) ?_
  refine lv_istore_n (lv' := [(1, .int (nI 0)), (0, .ref (h 0))]) hx hb dX2_mirror_1 rfl hl (by decide) rfl (fun ls hl => ?_)
  have lp2 : ∀ (d2 : Nat) (j : Nat) (H : Heap) (locs : List Loc) (ls : Array Slot), (7 ≤ j + d2) → (j ≤ 6) → qV D A s.heap (wD h cA n tx T C K ((mir L P j).2) ((mir L P j).1) u ua ub pm jm lm du lt hh) H locs → lv_has ls 2 [(0, .ref (h 0)), (1, .int (nI j))] → W p l e rm_X2_mirror s m ([.ref (h 0)] : List Value).toArray below meth c H locs 0 0 (MQ below (va_Qi (fun r W1 => r = nI (cst C (mir L P 6).2 tx (n - 1)) ∧ W1 = wD h cA n tx T C K ((mir L P 6).2) ((mir L P 6).1) 0 ua ub pm jm lm du lt hh) (cPost D A) A) ([.ref (h 0)] : List Value).toArray s 0 0 A) (F0 m 2 ls []) := by
    intro d2
    induction d2 with
    | zero => intro j H locs ls hm2 hj hV hl; exfalso; omega
    | succ d2 ih2 =>
      intro j H locs ls hm2 hj hV hl
      have hq := hp.mir j hj
      refine lv_iload_n hx hb dX2_mirror_2 rfl (lv_at hl 1 rfl) ?_
      refine lv_bipush (v := nI 6) hx hb dX2_mirror_3 (by decide) ?_
      refine q_icmp_ge (x := j) (y := 6) (tgt := 23) hx hb dX2_mirror_5 (by decide) (by omega) (by omega) (fun c5 => ?_) (fun c5 => ?_)
      · have ej : j = 6 := by omega
        subst ej
        refine lv_aload_n hx hb dX2_mirror_23 rfl (lv_at hl 0 rfl) ?_
        refine lv_iconst (v := nI 0) hx hb dX2_mirror_24 (by decide) ?_
        refine q_put (C := RX2) (T := TX2) (N := 20) (ci := 2) (v := .int (nI 0)) (wD h cA n tx T C K ((mir L P 6).2) ((mir L P 6).1) 0 ua ub pm jm lm du lt hh) hx hb hts hin2 tyX2 tyX2_ok nmX2 hown hK hV 0 rfl rfl 7 (by decide) (List.mem_of_getElem? (i := 1) rfl) rfl rfl rfl (Nat.le_of_ble_eq_true rfl) rfl dX2_mirror_25 (fun H locs hV => ?_)
        refine lv_aload_n hx hb dX2_mirror_28 rfl (lv_at hl 0 rfl) ?_
        refine k_V_i (w0 := ([] : va_W)) (wc := wD h cA n tx T C K ((mir L P 6).2) ((mir L P 6).1) 0 ua ub pm jm lm du lt hh) (b := h 0) (As := []) (rest := []) hx hb hml hown hts hK hA hN hV hl.1 (c_X2_costNow l D h cA n tx T C K ((mir L P 6).2) ((mir L P 6).1) 0 ua ub pm jm lm du lt hh   (by first | omega | assumption) (by first | omega | assumption) (by first | omega | assumption) hq) gX2_mirror_X2_costNow rfl rfl rfl hdX2_costNow ⟨Nat.le_of_ble_eq_true rfl, Nat.le_of_ble_eq_true rfl⟩ 0 2 rfl rfl rfl rfl rfl (Nat.le_of_ble_eq_true rfl) dX2_mirror_29 ⟨Nat.zero_le _, Nat.zero_le _⟩ (fun r W1 H locs hp hV => ?_)
        obtain ⟨hp1, hp2⟩ := hp
        replace hp1 := hp1.symm
        subst hp1
        replace hp2 := hp2.symm
        subst hp2
        have hV : qV D A s.heap (wD h cA n tx T C K ((mir L P 6).2) ((mir L P 6).1) 0 ua ub pm jm lm du lt hh) H locs := hV
        have f1 := cst_lt ((mir L P 6).2) tx (j := n - 1) hC (by omega)
        exact q_iret (W1 := wD h cA n tx T C K ((mir L P 6).2) ((mir L P 6).1) 0 ua ub pm jm lm du lt hh) hx hb hr hlocks hV dX2_mirror_32 ⟨rfl, rfl⟩
      · refine lv_aload_n hx hb dX2_mirror_8 rfl (lv_at hl 0 rfl) ?_
        refine lv_iload_n hx hb dX2_mirror_9 rfl (lv_at hl 1 rfl) ?_
        refine lv_bipush (v := nI 11) hx hb dX2_mirror_10 (by decide) ?_
        refine lv_iload_n hx hb dX2_mirror_12 rfl (lv_at hl 1 rfl) ?_
        refine q_isub2 (x := 11) (y := j) (z := (11 - j)) hx hb (by omega) dX2_mirror_13 ?_
        refine k_V_v (w0 := ([] : va_W)) (wc := wD h cA n tx T C K ((mir L P j).2) ((mir L P j).1) u ua ub pm jm lm du lt hh) (b := h 0) (As := [.int (nI j), .int (nI (11 - j))]) (rest := []) hx hb hml hown hts hK hA hN hV hl.1 (c_X2_exchange l D h cA n tx T C K ((mir L P j).2) ((mir L P j).1) u ua ub pm jm lm du lt hh j (11 - j)  (by first | omega | assumption) (by first | omega | assumption) hq) gX2_mirror_X2_exchange rfl rfl rfl hdX2_exchange ⟨Nat.le_of_ble_eq_true rfl, Nat.le_of_ble_eq_true rfl⟩ 0 2 rfl rfl rfl rfl rfl (Nat.le_of_ble_eq_true rfl) dX2_mirror_14 ⟨Nat.zero_le _, Nat.zero_le _⟩ (fun W1 H locs hp hV => ?_)
        subst hp
        have hV : qV D A s.heap (wD h cA n tx T C K (exP ((mir L P j).1) ((mir L P j).2) j (11 - j)) (exL ((mir L P j).1) j (11 - j)) u ua ub pm jm lm du lt hh) H locs := hV
        refine q_iinc (x := j) (z := j + 1) (lv' := [(1, .int (nI (j + 1))), (0, .ref (h 0))]) hx hb dX2_mirror_17 hl (k := 1) rfl (dd := 1) rfl (by omega) (by decide) rfl (fun ls hl => ?_)
        refine lv_goto (tgt := 2) hx hb dX2_mirror_20 (by decide) ?_
        exact ih2  (j + 1) _ _ _ (by omega) (by first | omega | assumption) hV (lv_sub hl [1, 0] rfl)
  exact lp2 7 0 _ _ _ (by omega) (by first | omega | assumption) hV (lv_sub hl [1, 0] rfl)
abbrev rm_X2_gainNow : Room := { frames := 3, cells := 0, slots := 0, locals := 66 }
set_option maxHeartbeats 4000000 in
set_option maxRecDepth 100000 in
theorem c_X2_gainNow (l : Launch) (D : va_G) (h : Nat → Nat) (cA : ClassId) (n : Nat) (tx : Nat → Nat) (T : Nat) (C : Nat) (K : Nat) (P : Nat → Nat) (L : Nat → Nat) (u : Nat) (ua : Nat → Nat) (ub : Nat → Nat) (pm : Nat) (jm : Nat) (lm : Nat) (du : Nat) (lt : Nat) (hh : Int64) (a : Nat) (b : Nat)  (h_a : a < 12) (h_b : b < 12) (hn : n ≤ 60) (htx : ∀ i, tx i < 12) (hC : C ≤ 5) (hp : perm L P) : CTi l D cA yX2_gainNow wsX2_gainNow rm_X2_gainNow [.ref (h 0), .int (nI a), .int (nI b)] (wD h cA n tx T C K P L u ua ub pm jm lm du lt hh) (fun r W1 => r = nI (cst C P tx (n - 1)) - nI (caf C L P tx n a b) ∧ W1 = wD h cA n tx T C K P L u ua ub pm jm lm du lt hh) := by
  refine CTi.mk (cc := cX2_gainNow) (maxL := 5) (ret := some .int) (by decide) rfl (Nat.le_of_ble_eq_true rfl) ?_
  intro p e s m below meth c A ls E hV hl
  obtain ⟨hx, hb, hml, hr, hown, hts, hlocks, hK, hA, hN⟩ := E
  have hown : s.vm.findClass RX2 = some m.cls := hown
  have hin2 : ∀ w ∈ wsX20, w ∈ wsX2_gainNow := fun _ h => List.mem_cons_of_mem _ (List.mem_append_right _ h)
  have hl : lv_has ls 5 [(0, .ref (h 0)), (1, .int (nI a)), (2, .int (nI b))] := hl
  refine lv_aload_n hx hb dX2_gainNow_0 rfl (lv_at hl 0 rfl) ?_
  refine k_V_i (w0 := ([] : va_W)) (wc := wD h cA n tx T C K P L u ua ub pm jm lm du lt hh) (b := h 0) (As := []) (rest := []) hx hb hml hown hts hK hA hN hV hl.1 (c_X2_costNow l D h cA n tx T C K P L u ua ub pm jm lm du lt hh   (by first | omega | assumption) (by first | omega | assumption) (by first | omega | assumption) (by first | omega | assumption)) gX2_gainNow_X2_costNow rfl rfl rfl hdX2_costNow ⟨Nat.le_of_ble_eq_true rfl, Nat.le_of_ble_eq_true rfl⟩ 0 2 rfl rfl rfl rfl rfl (Nat.le_of_ble_eq_true rfl) dX2_gainNow_1 ⟨Nat.zero_le _, Nat.zero_le _⟩ (fun r W1 H locs hp hV => ?_)
  obtain ⟨hp1, hp2⟩ := hp
  replace hp1 := hp1.symm
  subst hp1
  replace hp2 := hp2.symm
  subst hp2
  have hV : qV D A s.heap (wD h cA n tx T C K P L u ua ub pm jm lm du lt hh) H locs := hV
  have f1 := cst_lt P tx (j := n - 1) hC (by omega)
  refine lv_istore_n (lv' := [(3, .int (nI (cst C P tx (n - 1)))), (0, .ref (h 0)), (1, .int (nI a)), (2, .int (nI b))]) hx hb dX2_gainNow_4 rfl hl (by decide) rfl (fun ls hl => ?_)
  refine lv_aload_n hx hb dX2_gainNow_5 rfl (lv_at hl 1 rfl) ?_
  refine lv_iload_n hx hb dX2_gainNow_6 rfl (lv_at hl 2 rfl) ?_
  refine lv_iload_n hx hb dX2_gainNow_7 rfl (lv_at hl 3 rfl) ?_
  refine k_V_v (w0 := ([] : va_W)) (wc := wD h cA n tx T C K P L u ua ub pm jm lm du lt hh) (b := h 0) (As := [.int (nI a), .int (nI b)]) (rest := []) hx hb hml hown hts hK hA hN hV hl.1 (c_X2_exchange l D h cA n tx T C K P L u ua ub pm jm lm du lt hh a b  (by first | omega | assumption) (by first | omega | assumption) (by first | omega | assumption)) gX2_gainNow_X2_exchange rfl rfl rfl hdX2_exchange ⟨Nat.le_of_ble_eq_true rfl, Nat.le_of_ble_eq_true rfl⟩ 0 2 rfl rfl rfl rfl rfl (Nat.le_of_ble_eq_true rfl) dX2_gainNow_8 ⟨Nat.zero_le _, Nat.zero_le _⟩ (fun W1 H locs hp hV => ?_)
  subst hp
  have hV : qV D A s.heap (wD h cA n tx T C K (exP L P a b) (exL L a b) u ua ub pm jm lm du lt hh) H locs := hV
  refine lv_aload_n hx hb dX2_gainNow_11 rfl (lv_at hl 1 rfl) ?_
  refine k_V_i (w0 := ([] : va_W)) (wc := wD h cA n tx T C K (exP L P a b) (exL L a b) u ua ub pm jm lm du lt hh) (b := h 0) (As := []) (rest := []) hx hb hml hown hts hK hA hN hV hl.1 (c_X2_costNow l D h cA n tx T C K (exP L P a b) (exL L a b) u ua ub pm jm lm du lt hh   (by first | omega | assumption) (by first | omega | assumption) (by first | omega | assumption) (hp.ex h_a h_b)) gX2_gainNow_X2_costNow rfl rfl rfl hdX2_costNow ⟨Nat.le_of_ble_eq_true rfl, Nat.le_of_ble_eq_true rfl⟩ 0 2 rfl rfl rfl rfl rfl (Nat.le_of_ble_eq_true rfl) dX2_gainNow_12 ⟨Nat.zero_le _, Nat.zero_le _⟩ (fun r W1 H locs hp hV => ?_)
  obtain ⟨hp1, hp2⟩ := hp
  replace hp1 := hp1.symm
  subst hp1
  replace hp2 := hp2.symm
  subst hp2
  have hV : qV D A s.heap (wD h cA n tx T C K (exP L P a b) (exL L a b) u ua ub pm jm lm du lt hh) H locs := hV
  have f2 := cst_lt (exP L P a b) tx (j := n - 1) hC (by omega)
  refine lv_istore (lv' := [(4, .int (nI (cst C (exP L P a b) tx (n - 1)))), (3, .int (nI (cst C P tx (n - 1)))), (0, .ref (h 0)), (1, .int (nI a)), (2, .int (nI b))]) hx hb dX2_gainNow_15 hl (by decide) rfl (fun ls hl => ?_)
  refine lv_aload_n hx hb dX2_gainNow_17 rfl (lv_at hl 2 rfl) ?_
  refine lv_iload_n hx hb dX2_gainNow_18 rfl (lv_at hl 3 rfl) ?_
  refine lv_iload_n hx hb dX2_gainNow_19 rfl (lv_at hl 4 rfl) ?_
  refine k_V_v (w0 := ([] : va_W)) (wc := wD h cA n tx T C K (exP L P a b) (exL L a b) u ua ub pm jm lm du lt hh) (b := h 0) (As := [.int (nI a), .int (nI b)]) (rest := []) hx hb hml hown hts hK hA hN hV hl.1 (c_X2_exchange l D h cA n tx T C K (exP L P a b) (exL L a b) u ua ub pm jm lm du lt hh a b  (by first | omega | assumption) (by first | omega | assumption) (hp.ex h_a h_b)) gX2_gainNow_X2_exchange rfl rfl rfl hdX2_exchange ⟨Nat.le_of_ble_eq_true rfl, Nat.le_of_ble_eq_true rfl⟩ 0 2 rfl rfl rfl rfl rfl (Nat.le_of_ble_eq_true rfl) dX2_gainNow_20 ⟨Nat.zero_le _, Nat.zero_le _⟩ (fun W1 H locs hp hV => ?_)
  subst hp
  have hV : qV D A s.heap (wD h cA n tx T C K (exP (exL L a b) (exP L P a b) a b) (exL (exL L a b) a b) u ua ub pm jm lm du lt hh) H locs := hV
  rw [exL_ex, exP_ex hp h_a h_b] at hV
  refine lv_iload_n hx hb dX2_gainNow_23 rfl (lv_at hl 1 rfl) ?_
  refine lv_iload hx hb dX2_gainNow_24 (lv_at hl 0 rfl) ?_
  refine lv_isub hx hb dX2_gainNow_26 ?_
  exact q_iret (W1 := wD h cA n tx T C K P L u ua ub pm jm lm du lt hh) hx hb hr hlocks hV dX2_gainNow_27 ⟨rfl, rfl⟩
abbrev rm_X2_gain : Room := { frames := 4, cells := 0, slots := 0, locals := 90 }
set_option maxHeartbeats 4000000 in
set_option maxRecDepth 100000 in
theorem c_X2_gain (l : Launch) (D : va_G) (h : Nat → Nat) (cA : ClassId) (n : Nat) (tx : Nat → Nat) (T : Nat) (C : Nat) (K : Nat) (P : Nat → Nat) (L : Nat → Nat) (u : Nat) (ua : Nat → Nat) (ub : Nat → Nat) (pm : Nat) (jm : Nat) (lm : Nat) (du : Nat) (lt : Nat) (hh : Int64) (v1 : Int32) (v2 : Int32)  (hn : n ≤ 60) (htx : ∀ i, tx i < 12) (hC : C ≤ 5) (hp : perm L P) : CTi l D cA yX2_gain wsX2_gain rm_X2_gain [.ref (h 0), .int v1, .int v2] (wD h cA n tx T C K P L u ua ub pm jm lm du lt hh) (fun r W1 => r = aGn C L P tx n v1 v2 ∧ W1 = wD h cA n tx T C K P L u ua ub pm jm lm du lt hh) := by
  refine CTi.mk (cc := cX2_gain) (maxL := 4) (ret := some .int) (by decide) rfl (Nat.le_of_ble_eq_true rfl) ?_
  intro p e s m below meth c A ls E hV hl
  obtain ⟨hx, hb, hml, hr, hown, hts, hlocks, hK, hA, hN⟩ := E
  have hown : s.vm.findClass RX2 = some m.cls := hown
  have hin2 : ∀ w ∈ wsX20, w ∈ wsX2_gain := fun _ h => List.mem_cons_of_mem _ (List.mem_append_right _ h)
  have hl : lv_has ls 4 [(0, .ref (h 0)), (1, .int v1), (2, .int v2)] := hl
  refine lv_iload_n hx hb dX2_gain_0 rfl (lv_at hl 1 rfl) ?_
  refine lv_iload_n hx hb dX2_gain_1 rfl (lv_at hl 2 rfl) ?_
  refine k_S_i (w0 := wD h cA n tx T C K P L u ua ub pm jm lm du lt hh) (wc := ([] : va_W)) (As := [.int v1, .int v2]) (rest := []) hx hb hml hown hts hK hA hN hV hl.1 (c_X2_refusal l D cA v1 v2  ) gX2_gain_X2_refusal rfl rfl rfl hdX2_refusal ⟨Nat.le_of_ble_eq_true rfl, Nat.le_of_ble_eq_true rfl⟩ rfl rfl (Nat.le_of_ble_eq_true rfl) dX2_gain_2 ⟨Nat.zero_le _, Nat.zero_le _⟩ (fun r W1 H locs hp hV => ?_)
  obtain ⟨hp1, hp2⟩ := hp
  replace hp1 := hp1.symm
  subst hp1
  replace hp2 := hp2.symm
  subst hp2
  have hV : qV D A s.heap (wD h cA n tx T C K P L u ua ub pm jm lm du lt hh) H locs := hV
  refine lv_istore_n (lv' := [(3, .int (swErr v1 v2)), (0, .ref (h 0)), (1, .int v1), (2, .int v2)]) hx hb dX2_gain_5 rfl hl (by decide) rfl (fun ls hl => ?_)
  refine lv_iload_n hx hb dX2_gain_6 rfl (lv_at hl 0 rfl) ?_
  refine z_if_eq (tgt := 14) hx hb dX2_gain_7 (by decide) (fun c7 => ?_) (fun c7 => ?_)
  · obtain ⟨k1, k2, hk1, hk2, hne, rfl, rfl⟩ := swErr_0 c7
    refine lv_aload_n hx hb dX2_gain_14 rfl (lv_at hl 1 rfl) ?_
    refine lv_iload_n hx hb dX2_gain_15 rfl (lv_at hl 2 rfl) ?_
    refine lv_iload_n hx hb dX2_gain_16 rfl (lv_at hl 3 rfl) ?_
    refine k_V_i (w0 := ([] : va_W)) (wc := wD h cA n tx T C K P L u ua ub pm jm lm du lt hh) (b := h 0) (As := [.int (nI k1), .int (nI k2)]) (rest := []) hx hb hml hown hts hK hA hN hV hl.1 (c_X2_gainNow l D h cA n tx T C K P L u ua ub pm jm lm du lt hh k1 k2  (by first | omega | assumption) (by first | omega | assumption) (by first | omega | assumption) (by first | omega | assumption) (by first | omega | assumption) (by first | omega | assumption)) gX2_gain_X2_gainNow rfl rfl rfl hdX2_gainNow ⟨Nat.le_of_ble_eq_true rfl, Nat.le_of_ble_eq_true rfl⟩ 0 2 rfl rfl rfl rfl rfl (Nat.le_of_ble_eq_true rfl) dX2_gain_17 ⟨Nat.zero_le _, Nat.zero_le _⟩ (fun r W1 H locs hp hV => ?_)
    obtain ⟨hp1, hp2⟩ := hp
    replace hp1 := hp1.symm
    subst hp1
    replace hp2 := hp2.symm
    subst hp2
    have hV : qV D A s.heap (wD h cA n tx T C K P L u ua ub pm jm lm du lt hh) H locs := hV
    have f1 := caf_le L P tx k1 k2 hC hn
    exact q_iret (W1 := wD h cA n tx T C K P L u ua ub pm jm lm du lt hh) hx hb hr hlocks hV dX2_gain_20 ⟨(aGn_ok hk1 hk2 hne).symm, rfl⟩
  · refine lv_iload_n hx hb dX2_gain_10 rfl (lv_at hl 0 rfl) ?_
    refine lv_goto (tgt := 20) hx hb dX2_gain_11 (by decide) ?_
    exact q_iret (W1 := wD h cA n tx T C K P L u ua ub pm jm lm du lt hh) hx hb hr hlocks hV dX2_gain_20 ⟨(aGn_no c7).symm, rfl⟩
abbrev rm_X2_bestNow : Room := { frames := 4, cells := 0, slots := 0, locals := 90 }
set_option maxHeartbeats 4000000 in
set_option maxRecDepth 100000 in
theorem c_X2_bestNow (l : Launch) (D : va_G) (h : Nat → Nat) (cA : ClassId) (n : Nat) (tx : Nat → Nat) (T : Nat) (C : Nat) (K : Nat) (P : Nat → Nat) (L : Nat → Nat) (u : Nat) (ua : Nat → Nat) (ub : Nat → Nat) (pm : Nat) (jm : Nat) (lm : Nat) (du : Nat) (lt : Nat) (hh : Int64)   (hn : n ≤ 60) (htx : ∀ i, tx i < 12) (hC : C ≤ 5) (hp : perm L P) : CTi l D cA yX2_bestNow wsX2_bestNow rm_X2_bestNow [.ref (h 0)] (wD h cA n tx T C K P L u ua ub pm jm lm du lt hh) (fun r W1 => r = bV (bst C L P tx n) ∧ W1 = wD h cA n tx T C K P L u ua ub pm jm lm du lt hh) := by
  refine CTi.mk (cc := cX2_bestNow) (maxL := 6) (ret := some .int) (by decide) rfl (Nat.le_of_ble_eq_true rfl) ?_
  intro p e s m below meth c A ls E hV hl
  obtain ⟨hx, hb, hml, hr, hown, hts, hlocks, hK, hA, hN⟩ := E
  have hown : s.vm.findClass RX2 = some m.cls := hown
  have hin2 : ∀ w ∈ wsX20, w ∈ wsX2_bestNow := fun _ h => List.mem_cons_of_mem _ (List.mem_append_right _ h)
  have hl : lv_has ls 6 [(0, .ref (h 0))] := hl
  refine lv_ldc (v := -1000006) hx hb hown (hts _ (List.mem_of_getElem? (i := 1) rfl)) dX2_bestNow_0 ?_
  refine lv_istore_n (lv' := [(1, .int (-1000006)), (0, .ref (h 0))]) hx hb dX2_bestNow_2 rfl hl (by decide) rfl (fun ls hl => ?_)
  refine lv_iconst (v := nI 0) hx hb dX2_bestNow_3 (by decide) ?_
  refine lv_istore_n (lv' := [(2, .int (nI 0)), (1, .int (-1000006)), (0, .ref (h 0))]) hx hb dX2_bestNow_4 rfl hl (by decide) rfl (fun ls hl => ?_)
  refine lv_iconst (v := nI 0) hx hb dX2_bestNow_5 (by decide) ?_
  refine lv_istore_n (lv' := [(3, .int (nI 0)), (2, .int (nI 0)), (1, .int (-1000006)), (0, .ref (h 0))]) hx hb dX2_bestNow_6 rfl hl (by decide) rfl (fun ls hl => ?_)
  have lp7 : ∀ (d7 : Nat) (i : Nat) (H : Heap) (locs : List Loc) (ls : Array Slot), (13 ≤ i + d7) → (i ≤ 12) → qV D A s.heap (wD h cA n tx T C K P L u ua ub pm jm lm du lt hh) H locs → lv_has ls 6 [(0, .ref (h 0)), (1, .int (bV (bO (caf C L P tx n) (cst C P tx (n - 1)) i).2)), (2, .int (nI ((cst C P tx (n - 1)) - (bO (caf C L P tx n) (cst C P tx (n - 1)) i).1))), (3, .int (nI i))] → W p l e rm_X2_bestNow s m ([.ref (h 0)] : List Value).toArray below meth c H locs 0 0 (MQ below (va_Qi (fun r W1 => r = bV (bst C L P tx n) ∧ W1 = wD h cA n tx T C K P L u ua ub pm jm lm du lt hh) (cPost D A) A) ([.ref (h 0)] : List Value).toArray s 0 0 A) (F0 m 7 ls []) := by
    intro d7
    induction d7 with
    | zero => intro i H locs ls hm7 hi hV hl; exfalso; omega
    | succ d7 ih7 =>
      intro i H locs ls hm7 hi hV hl
      refine lv_iload_n hx hb dX2_bestNow_7 rfl (lv_at hl 3 rfl) ?_
      refine lv_bipush (v := nI 12) hx hb dX2_bestNow_8 (by decide) ?_
      refine q_icmp_ge (x := i) (y := 12) (tgt := 77) hx hb dX2_bestNow_10 (by decide) (by omega) (by omega) (fun c10 => ?_) (fun c10 => ?_)
      · refine lv_iload_n hx hb dX2_bestNow_77 rfl (lv_at hl 1 rfl) ?_
        have ei : i = 12 := by omega
        subst ei
        exact q_iret (W1 := wD h cA n tx T C K P L u ua ub pm jm lm du lt hh) hx hb hr hlocks hV dX2_bestNow_78 ⟨rfl, rfl⟩
      · refine lv_iload_n hx hb dX2_bestNow_13 rfl (lv_at hl 3 rfl) ?_
        refine lv_iconst (v := nI 1) hx hb dX2_bestNow_14 (by decide) ?_
        refine q_iadd2 (x := i) (y := 1) (z := i + 1) hx hb (by omega) dX2_bestNow_15 ?_
        refine lv_istore (lv' := [(4, .int (nI (i + 1))), (0, .ref (h 0)), (1, .int (bV (bO (caf C L P tx n) (cst C P tx (n - 1)) i).2)), (2, .int (nI ((cst C P tx (n - 1)) - (bO (caf C L P tx n) (cst C P tx (n - 1)) i).1))), (3, .int (nI i))]) hx hb dX2_bestNow_16 hl (by decide) rfl (fun ls hl => ?_)
        have lp18 : ∀ (d18 : Nat) (j : Nat) (H : Heap) (locs : List Loc) (ls : Array Slot), (13 ≤ i + 1 + j + d18) → (i + 1 + j ≤ 12) → qV D A s.heap (wD h cA n tx T C K P L u ua ub pm jm lm du lt hh) H locs → lv_has ls 6 [(0, .ref (h 0)), (1, .int (bV (bIn (caf C L P tx n) i (bO (caf C L P tx n) (cst C P tx (n - 1)) i) j).2)), (2, .int (nI ((cst C P tx (n - 1)) - (bIn (caf C L P tx n) i (bO (caf C L P tx n) (cst C P tx (n - 1)) i) j).1))), (3, .int (nI i)), (4, .int (nI (i + j + 1)))] → W p l e rm_X2_bestNow s m ([.ref (h 0)] : List Value).toArray below meth c H locs 0 0 (MQ below (va_Qi (fun r W1 => r = bV (bst C L P tx n) ∧ W1 = wD h cA n tx T C K P L u ua ub pm jm lm du lt hh) (cPost D A) A) ([.ref (h 0)] : List Value).toArray s 0 0 A) (F0 m 18 ls []) := by
          intro d18
          induction d18 with
          | zero => intro j H locs ls hm18 hj hV hl; exfalso; omega
          | succ d18 ih18 =>
            intro j H locs ls hm18 hj hV hl
            have f1 := bIn_le (caf C L P tx n) i (bO (caf C L P tx n) (cst C P tx (n - 1)) i) j
            have f2 := bO_le (caf C L P tx n) (cst C P tx (n - 1)) i
            have f3 := cst_lt P tx (j := n - 1) hC (by omega)
            refine lv_iload hx hb dX2_bestNow_18 (lv_at hl 4 rfl) ?_
            refine lv_bipush (v := nI 12) hx hb dX2_bestNow_20 (by decide) ?_
            refine q_icmp_ge (x := i + j + 1) (y := 12) (tgt := 71) hx hb dX2_bestNow_22 (by decide) (by omega) (by omega) (fun c22 => ?_) (fun c22 => ?_)
            · have ej : j = 11 - i := by omega
              subst ej
              refine q_iinc (x := i) (z := i + 1) (lv' := [(3, .int (nI (i + 1))), (0, .ref (h 0)), (1, .int (bV (bIn (caf C L P tx n) i (bO (caf C L P tx n) (cst C P tx (n - 1)) i) (11 - i)).2)), (2, .int (nI ((cst C P tx (n - 1)) - (bIn (caf C L P tx n) i (bO (caf C L P tx n) (cst C P tx (n - 1)) i) (11 - i)).1))), (4, .int (nI (i + (11 - i) + 1)))]) hx hb dX2_bestNow_71 hl (k := 3) rfl (dd := 1) rfl (by omega) (by decide) rfl (fun ls hl => ?_)
              refine lv_goto (tgt := 7) hx hb dX2_bestNow_74 (by decide) ?_
              exact ih7  (i + 1) _ _ _ (by omega) (by first | omega | assumption) hV (lv_sub hl [1, 2, 3, 0] rfl)
            · refine lv_aload_n hx hb dX2_bestNow_25 rfl (lv_at hl 0 rfl) ?_
              refine lv_iload_n hx hb dX2_bestNow_26 rfl (lv_at hl 3 rfl) ?_
              refine lv_iload hx hb dX2_bestNow_27 (lv_at hl 4 rfl) ?_
              refine k_V_i (w0 := ([] : va_W)) (wc := wD h cA n tx T C K P L u ua ub pm jm lm du lt hh) (b := h 0) (As := [.int (nI i), .int (nI (i + j + 1))]) (rest := []) hx hb hml hown hts hK hA hN hV hl.1 (c_X2_gainNow l D h cA n tx T C K P L u ua ub pm jm lm du lt hh i (i + j + 1)  (by first | omega | assumption) (by first | omega | assumption) (by first | omega | assumption) (by first | omega | assumption) (by first | omega | assumption) (by first | omega | assumption)) gX2_bestNow_X2_gainNow rfl rfl rfl hdX2_gainNow ⟨Nat.le_of_ble_eq_true rfl, Nat.le_of_ble_eq_true rfl⟩ 0 2 rfl rfl rfl rfl rfl (Nat.le_of_ble_eq_true rfl) dX2_bestNow_29 ⟨Nat.zero_le _, Nat.zero_le _⟩ (fun r W1 H locs hp hV => ?_)
              obtain ⟨hp1, hp2⟩ := hp
              replace hp1 := hp1.symm
              subst hp1
              replace hp2 := hp2.symm
              subst hp2
              have hV : qV D A s.heap (wD h cA n tx T C K P L u ua ub pm jm lm du lt hh) H locs := hV
              have f1 := caf_le L P tx i (i + j + 1) hC hn
              refine lv_istore (lv' := [(5, .int (nI (cst C P tx (n - 1)) - nI (caf C L P tx n i (i + j + 1)))), (0, .ref (h 0)), (1, .int (bV (bIn (caf C L P tx n) i (bO (caf C L P tx n) (cst C P tx (n - 1)) i) j).2)), (2, .int (nI ((cst C P tx (n - 1)) - (bIn (caf C L P tx n) i (bO (caf C L P tx n) (cst C P tx (n - 1)) i) j).1))), (3, .int (nI i)), (4, .int (nI (i + j + 1)))]) hx hb dX2_bestNow_32 hl (by decide) rfl (fun ls hl => ?_)
              refine lv_iload hx hb dX2_bestNow_34 (lv_at hl 0 rfl) ?_
              refine lv_iload_n hx hb dX2_bestNow_36 rfl (lv_at hl 3 rfl) ?_
              refine z_icmp_le (tgt := 50) hx hb dX2_bestNow_37 (by decide) (fun c37 => ?_) (fun c37 => ?_)
              · rw [nI_toInt (n := ((cst C P tx (n - 1)) - (bIn (caf C L P tx n) i (bO (caf C L P tx n) (cst C P tx (n - 1)) i) j).1)) (by omega)] at c37
                rw [pk_sub_toInt (by omega) (by omega)] at c37
                refine lv_iload_n hx hb dX2_bestNow_50 rfl (lv_at hl 2 rfl) ?_
                refine lv_istore_n (lv' := [(1, .int (bV (bIn (caf C L P tx n) i (bO (caf C L P tx n) (cst C P tx (n - 1)) i) j).2)), (5, .int (nI (cst C P tx (n - 1)) - nI (caf C L P tx n i (i + j + 1)))), (0, .ref (h 0)), (2, .int (nI ((cst C P tx (n - 1)) - (bIn (caf C L P tx n) i (bO (caf C L P tx n) (cst C P tx (n - 1)) i) j).1))), (3, .int (nI i)), (4, .int (nI (i + j + 1)))]) hx hb dX2_bestNow_51 rfl hl (by decide) rfl (fun ls hl => ?_)
                refine lv_iload hx hb dX2_bestNow_52 (lv_at hl 1 rfl) ?_
                refine lv_iload_n hx hb dX2_bestNow_54 rfl (lv_at hl 3 rfl) ?_
                refine z_icmp_le (tgt := 63) hx hb dX2_bestNow_55 (by decide) (fun c55 => ?_) (fun c55 => ?_)
                · rw [nI_toInt (n := ((cst C P tx (n - 1)) - (bIn (caf C L P tx n) i (bO (caf C L P tx n) (cst C P tx (n - 1)) i) j).1)) (by omega)] at c55
                  rw [pk_sub_toInt (by omega) (by omega)] at c55
                  refine lv_iload_n hx hb dX2_bestNow_63 rfl (lv_at hl 3 rfl) ?_
                  refine lv_istore_n (lv' := [(2, .int (nI ((cst C P tx (n - 1)) - (bIn (caf C L P tx n) i (bO (caf C L P tx n) (cst C P tx (n - 1)) i) j).1))), (1, .int (bV (bIn (caf C L P tx n) i (bO (caf C L P tx n) (cst C P tx (n - 1)) i) j).2)), (5, .int (nI (cst C P tx (n - 1)) - nI (caf C L P tx n i (i + j + 1)))), (0, .ref (h 0)), (3, .int (nI i)), (4, .int (nI (i + j + 1)))]) hx hb dX2_bestNow_64 rfl hl (by decide) rfl (fun ls hl => ?_)
                  refine q_iinc (x := i + j + 1) (z := i + j + 2) (lv' := [(4, .int (nI (i + j + 2))), (2, .int (nI ((cst C P tx (n - 1)) - (bIn (caf C L P tx n) i (bO (caf C L P tx n) (cst C P tx (n - 1)) i) j).1))), (1, .int (bV (bIn (caf C L P tx n) i (bO (caf C L P tx n) (cst C P tx (n - 1)) i) j).2)), (5, .int (nI (cst C P tx (n - 1)) - nI (caf C L P tx n i (i + j + 1)))), (0, .ref (h 0)), (3, .int (nI i))]) hx hb dX2_bestNow_65 hl (k := 5) rfl (dd := 1) rfl (by omega) (by decide) rfl (fun ls hl => ?_)
                  refine lv_goto (tgt := 18) hx hb dX2_bestNow_68 (by decide) ?_
                  have e0 : (bIn (caf C L P tx n) i (bO (caf C L P tx n) (cst C P tx (n - 1)) i) (j + 1)) = (bIn (caf C L P tx n) i (bO (caf C L P tx n) (cst C P tx (n - 1)) i) j) := if_neg (by omega)
                  exact ih18  (j + 1) _ _ _ (by omega) (by first | omega | assumption) hV (by rw [e0]; exact lv_sub hl [4, 2, 1, 5, 0] rfl)
                · rw [nI_toInt (n := ((cst C P tx (n - 1)) - (bIn (caf C L P tx n) i (bO (caf C L P tx n) (cst C P tx (n - 1)) i) j).1)) (by omega)] at c55
                  rw [pk_sub_toInt (by omega) (by omega)] at c55
                  exfalso; omega
              · rw [nI_toInt (n := ((cst C P tx (n - 1)) - (bIn (caf C L P tx n) i (bO (caf C L P tx n) (cst C P tx (n - 1)) i) j).1)) (by omega)] at c37
                rw [pk_sub_toInt (by omega) (by omega)] at c37
                refine lv_bipush (v := nI 100) hx hb dX2_bestNow_40 (by decide) ?_
                refine lv_iload_n hx hb dX2_bestNow_42 rfl (lv_at hl 4 rfl) ?_
                refine q_imul2 (x := 100) (y := i) (z := 100 * i) hx hb (by omega) dX2_bestNow_43 ?_
                refine lv_iload hx hb dX2_bestNow_44 (lv_at hl 5 rfl) ?_
                refine q_iadd2 (x := 100 * i) (y := i + j + 1) (z := 101 * i + j + 1) hx hb (by omega) dX2_bestNow_46 ?_
                refine lv_goto (tgt := 51) hx hb dX2_bestNow_47 (by decide) ?_
                refine lv_istore_n (lv' := [(1, .int (nI (101 * i + j + 1))), (5, .int (nI (cst C P tx (n - 1)) - nI (caf C L P tx n i (i + j + 1)))), (0, .ref (h 0)), (2, .int (nI ((cst C P tx (n - 1)) - (bIn (caf C L P tx n) i (bO (caf C L P tx n) (cst C P tx (n - 1)) i) j).1))), (3, .int (nI i)), (4, .int (nI (i + j + 1)))]) hx hb dX2_bestNow_51 rfl hl (by decide) rfl (fun ls hl => ?_)
                refine lv_iload hx hb dX2_bestNow_52 (lv_at hl 1 rfl) ?_
                refine lv_iload_n hx hb dX2_bestNow_54 rfl (lv_at hl 3 rfl) ?_
                refine z_icmp_le (tgt := 63) hx hb dX2_bestNow_55 (by decide) (fun c55 => ?_) (fun c55 => ?_)
                · rw [nI_toInt (n := ((cst C P tx (n - 1)) - (bIn (caf C L P tx n) i (bO (caf C L P tx n) (cst C P tx (n - 1)) i) j).1)) (by omega)] at c55
                  rw [pk_sub_toInt (by omega) (by omega)] at c55
                  exfalso; omega
                · rw [nI_toInt (n := ((cst C P tx (n - 1)) - (bIn (caf C L P tx n) i (bO (caf C L P tx n) (cst C P tx (n - 1)) i) j).1)) (by omega)] at c55
                  rw [pk_sub_toInt (by omega) (by omega)] at c55
                  refine lv_iload hx hb dX2_bestNow_58 (lv_at hl 1 rfl) ?_
                  refine lv_goto (tgt := 64) hx hb dX2_bestNow_60 (by decide) ?_
                  refine lv_istore_n (lv' := [(2, .int (nI (cst C P tx (n - 1)) - nI (caf C L P tx n i (i + j + 1)))), (1, .int (nI (101 * i + j + 1))), (5, .int (nI (cst C P tx (n - 1)) - nI (caf C L P tx n i (i + j + 1)))), (0, .ref (h 0)), (3, .int (nI i)), (4, .int (nI (i + j + 1)))]) hx hb dX2_bestNow_64 rfl hl (by decide) rfl (fun ls hl => ?_)
                  refine q_iinc (x := i + j + 1) (z := i + j + 2) (lv' := [(4, .int (nI (i + j + 2))), (2, .int (nI (cst C P tx (n - 1)) - nI (caf C L P tx n i (i + j + 1)))), (1, .int (nI (101 * i + j + 1))), (5, .int (nI (cst C P tx (n - 1)) - nI (caf C L P tx n i (i + j + 1)))), (0, .ref (h 0)), (3, .int (nI i))]) hx hb dX2_bestNow_65 hl (k := 5) rfl (dd := 1) rfl (by omega) (by decide) rfl (fun ls hl => ?_)
                  refine lv_goto (tgt := 18) hx hb dX2_bestNow_68 (by decide) ?_
                  have e0 : (bIn (caf C L P tx n) i (bO (caf C L P tx n) (cst C P tx (n - 1)) i) (j + 1)) = (caf C L P tx n i (i + j + 1), 100 * i + (i + j + 1)) := if_pos (by omega)
                  have e2 : bV (bIn (caf C L P tx n) i (bO (caf C L P tx n) (cst C P tx (n - 1)) i) (j + 1)).2 = nI (101 * i + j + 1) := by rw [e0]; exact (bV_nI (by omega)).trans (congrArg nI (by omega))
                  have e3 : nI ((cst C P tx (n - 1)) - (bIn (caf C L P tx n) i (bO (caf C L P tx n) (cst C P tx (n - 1)) i) (j + 1)).1) = nI (cst C P tx (n - 1)) - nI (caf C L P tx n i (i + j + 1)) := by rw [e0]; exact (pk_sub (by omega)).symm
                  exact ih18  (j + 1) _ _ _ (by omega) (by first | omega | assumption) hV (by rw [e2, e3]; exact lv_sub hl [4, 2, 1, 5, 0] rfl)
        exact lp18 13 0 _ _ _ (by omega) (by first | omega | assumption) hV (lv_sub hl [1, 2, 3, 4, 0] rfl)
  have e0 : (cst C P tx (n - 1)) - (bO (caf C L P tx n) (cst C P tx (n - 1)) 0).1 = 0 := Nat.sub_self _
  exact lp7 13 0 _ _ _ (by omega) (by first | omega | assumption) hV (by rw [e0]; exact lv_sub hl [3, 2, 1, 0] rfl)
abbrev rm_X2_bestSwap : Room := { frames := 5, cells := 0, slots := 0, locals := 115 }
set_option maxHeartbeats 4000000 in
set_option maxRecDepth 100000 in
theorem c_X2_bestSwap (l : Launch) (D : va_G) (h : Nat → Nat) (cA : ClassId) (n : Nat) (tx : Nat → Nat) (T : Nat) (C : Nat) (K : Nat) (P : Nat → Nat) (L : Nat → Nat) (u : Nat) (ua : Nat → Nat) (ub : Nat → Nat) (pm : Nat) (jm : Nat) (lm : Nat) (du : Nat) (lt : Nat) (hh : Int64)   (hn : n ≤ 60) (htx : ∀ i, tx i < 12) (hC : C ≤ 5) (hp : perm L P) : CTi l D cA yX2_bestSwap wsX2_bestSwap rm_X2_bestSwap [.ref (h 0)] (wD h cA n tx T C K P L u ua ub pm jm lm du lt hh) (fun r W1 => r = bV (bst C L P tx n) ∧ W1 = wD h cA n tx T C K P L u ua ub pm jm lm du lt hh) := by
  refine CTi.mk (cc := cX2_bestSwap) (maxL := 1) (ret := some .int) (by decide) rfl (Nat.le_of_ble_eq_true rfl) ?_
  intro p e s m below meth c A ls E hV hl
  obtain ⟨hx, hb, hml, hr, hown, hts, hlocks, hK, hA, hN⟩ := E
  have hown : s.vm.findClass RX2 = some m.cls := hown
  have hin2 : ∀ w ∈ wsX20, w ∈ wsX2_bestSwap := fun _ h => List.mem_cons_of_mem _ (List.mem_append_right _ h)
  have hl : lv_has ls 1 [(0, .ref (h 0))] := hl
  refine lv_aload_n hx hb dX2_bestSwap_0 rfl (lv_at hl 0 rfl) ?_
  refine k_V_i (w0 := ([] : va_W)) (wc := wD h cA n tx T C K P L u ua ub pm jm lm du lt hh) (b := h 0) (As := []) (rest := []) hx hb hml hown hts hK hA hN hV hl.1 (c_X2_bestNow l D h cA n tx T C K P L u ua ub pm jm lm du lt hh   (by first | omega | assumption) (by first | omega | assumption) (by first | omega | assumption) (by first | omega | assumption)) gX2_bestSwap_X2_bestNow rfl rfl rfl hdX2_bestNow ⟨Nat.le_of_ble_eq_true rfl, Nat.le_of_ble_eq_true rfl⟩ 0 2 rfl rfl rfl rfl rfl (Nat.le_of_ble_eq_true rfl) dX2_bestSwap_1 ⟨Nat.zero_le _, Nat.zero_le _⟩ (fun r W1 H locs hp hV => ?_)
  obtain ⟨hp1, hp2⟩ := hp
  replace hp1 := hp1.symm
  subst hp1
  replace hp2 := hp2.symm
  subst hp2
  have hV : qV D A s.heap (wD h cA n tx T C K P L u ua ub pm jm lm du lt hh) H locs := hV
  exact q_iret (W1 := wD h cA n tx T C K P L u ua ub pm jm lm du lt hh) hx hb hr hlocks hV dX2_bestSwap_4 ⟨rfl, rfl⟩
abbrev rm_X2_improve : Room := { frames := 5, cells := 0, slots := 0, locals := 115 }
set_option maxHeartbeats 4000000 in
set_option maxRecDepth 100000 in
theorem c_X2_improve (l : Launch) (D : va_G) (h : Nat → Nat) (cA : ClassId) (n : Nat) (tx : Nat → Nat) (T : Nat) (C : Nat) (K : Nat) (P : Nat → Nat) (L : Nat → Nat) (u : Nat) (ua : Nat → Nat) (ub : Nat → Nat) (pm : Nat) (jm : Nat) (lm : Nat) (du : Nat) (lt : Nat) (hh : Int64) (v1 : Int32)  (hn : n ≤ 60) (htx : ∀ i, tx i < 12) (hC : C ≤ 5) (hp : perm L P) (hu : u ≤ 30) : CTi l D cA yX2_improve wsX2_improve rm_X2_improve [.ref (h 0), .int v1] (wD h cA n tx T C K P L u ua ub pm jm lm du lt hh) (fun r W1 => r = aIm C tx n v1 (L, P, u, ua, ub) ∧ W1 = wD h cA n tx T C K ((yIm C tx n v1 (L, P, u, ua, ub)).2.1) ((yIm C tx n v1 (L, P, u, ua, ub)).1) ((yIm C tx n v1 (L, P, u, ua, ub)).2.2.1) ((yIm C tx n v1 (L, P, u, ua, ub)).2.2.2.1) ((yIm C tx n v1 (L, P, u, ua, ub)).2.2.2.2) pm jm lm du lt hh) := by
  refine CTi.mk (cc := cX2_improve) (maxL := 4) (ret := some .int) (by decide) rfl (Nat.le_of_ble_eq_true rfl) ?_
  intro p e s m below meth c A ls E hV hl
  obtain ⟨hx, hb, hml, hr, hown, hts, hlocks, hK, hA, hN⟩ := E
  have hown : s.vm.findClass RX2 = some m.cls := hown
  have hin2 : ∀ w ∈ wsX20, w ∈ wsX2_improve := fun _ h => List.mem_cons_of_mem _ (List.mem_append_right _ h)
  have hl : lv_has ls 4 [(0, .ref (h 0)), (1, .int v1)] := hl
  refine lv_iload_n hx hb dX2_improve_0 rfl (lv_at hl 1 rfl) ?_
  refine lv_iconst (v := nI 0) hx hb dX2_improve_1 (by decide) ?_
  refine lv_bipush (v := nI 100) hx hb dX2_improve_2 (by decide) ?_
  refine k_S_i (w0 := wD h cA n tx T C K P L u ua ub pm jm lm du lt hh) (wc := ([] : va_W)) (As := [.int v1, .int (nI 0), .int (nI 100)]) (rest := []) hx hb hml hown hts hK hA hN hV hl.1 (c_X2_within l D cA v1 (nI 0) (nI 100)  ) gX2_improve_X2_within rfl rfl rfl hdX2_within ⟨Nat.le_of_ble_eq_true rfl, Nat.le_of_ble_eq_true rfl⟩ rfl rfl (Nat.le_of_ble_eq_true rfl) dX2_improve_4 ⟨Nat.zero_le _, Nat.zero_le _⟩ (fun r W1 H locs hp hV => ?_)
  obtain ⟨hp1, hp2⟩ := hp
  replace hp1 := hp1.symm
  subst hp1
  replace hp2 := hp2.symm
  subst hp2
  have hV : qV D A s.heap (wD h cA n tx T C K P L u ua ub pm jm lm du lt hh) H locs := hV
  have f1 := wi_le v1 (nI 0) (nI 100)
  refine q_top (congrArg nI (wi_ok (lo := 0) (hi := 100) (by decide) (by decide))) ?_
  have := okR_le 0 100 v1
  refine q_if_ne (x := (okR 0 100 v1)) (tgt := 13) hx hb dX2_improve_7 (by decide) (by omega) (fun c7 => ?_) (fun c7 => ?_)
  · obtain ⟨k1, -, hk1, rfl⟩ := okR_1 (lo := 0) (hi := 100) (by decide) c7
    refine lv_iconst (v := nI 0) hx hb dX2_improve_13 (by decide) ?_
    refine lv_istore_n (lv' := [(2, .int (nI 0)), (0, .ref (h 0)), (1, .int (nI k1))]) hx hb dX2_improve_14 rfl hl (by decide) rfl (fun ls hl => ?_)
    refine lv_iload_n hx hb dX2_improve_15 rfl (lv_at hl 2 rfl) ?_
    refine q_if_ne (x := k1) (tgt := 24) hx hb dX2_improve_16 (by decide) (by omega) (fun c16 => ?_) (fun c16 => ?_)
    · refine lv_aload_n hx hb dX2_improve_24 rfl (lv_at hl 1 rfl) ?_
      refine k_V_i (w0 := ([] : va_W)) (wc := wD h cA n tx T C K P L u ua ub pm jm lm du lt hh) (b := h 0) (As := []) (rest := []) hx hb hml hown hts hK hA hN hV hl.1 (c_X2_bestNow l D h cA n tx T C K P L u ua ub pm jm lm du lt hh   (by first | omega | assumption) (by first | omega | assumption) (by first | omega | assumption) (by first | omega | assumption)) gX2_improve_X2_bestNow rfl rfl rfl hdX2_bestNow ⟨Nat.le_of_ble_eq_true rfl, Nat.le_of_ble_eq_true rfl⟩ 0 2 rfl rfl rfl rfl rfl (Nat.le_of_ble_eq_true rfl) dX2_improve_25 ⟨Nat.zero_le _, Nat.zero_le _⟩ (fun r W1 H locs hp hV => ?_)
      obtain ⟨hp1, hp2⟩ := hp
      replace hp1 := hp1.symm
      subst hp1
      replace hp2 := hp2.symm
      subst hp2
      have hV : qV D A s.heap (wD h cA n tx T C K P L u ua ub pm jm lm du lt hh) H locs := hV
      refine lv_istore_n (lv' := [(3, .int (bV (bst C L P tx n))), (2, .int (nI 0)), (0, .ref (h 0)), (1, .int (nI k1))]) hx hb dX2_improve_28 rfl hl (by decide) rfl (fun ls hl => ?_)
      have lp29 : ∀ (d29 : Nat) (i : Nat) (L1 : Nat → Nat) (P1 : Nat → Nat) (u1 : Nat) (ua1 : Nat → Nat) (ub1 : Nat → Nat) (H : Heap) (locs : List Loc) (ls : Array Slot), (k1 + 1 ≤ i + d29) → (i ≤ k1) → (perm L1 P1) → (u1 ≤ 30) → (impr C tx n k1 (L, P, u, ua, ub) = (i + (impr C tx n (k1 - i) (L1, P1, u1, ua1, ub1)).1, (impr C tx n (k1 - i) (L1, P1, u1, ua1, ub1)).2)) → qV D A s.heap (wD h cA n tx T C K P1 L1 u1 ua1 ub1 pm jm lm du lt hh) H locs → lv_has ls 4 [(0, .ref (h 0)), (1, .int (nI k1)), (2, .int (nI i)), (3, .int (imB C tx n (k1 - i) (L1, P1, u1, ua1, ub1)))] → W p l e rm_X2_improve s m ([.ref (h 0), .int (nI k1)] : List Value).toArray below meth c H locs 0 0 (MQ below (va_Qi (fun r W1 => r = aIm C tx n (nI k1) (L, P, u, ua, ub) ∧ W1 = wD h cA n tx T C K ((yIm C tx n (nI k1) (L, P, u, ua, ub)).2.1) ((yIm C tx n (nI k1) (L, P, u, ua, ub)).1) ((yIm C tx n (nI k1) (L, P, u, ua, ub)).2.2.1) ((yIm C tx n (nI k1) (L, P, u, ua, ub)).2.2.2.1) ((yIm C tx n (nI k1) (L, P, u, ua, ub)).2.2.2.2) pm jm lm du lt hh) (cPost D A) A) ([.ref (h 0), .int (nI k1)] : List Value).toArray s 0 0 A) (F0 m 29 ls []) := by
        intro d29
        induction d29 with
        | zero => intro i L1 P1 u1 ua1 ub1 H locs ls hm29 hi hq hu1 hI hV hl; exfalso; omega
        | succ d29 ih29 =>
          intro i L1 P1 u1 ua1 ub1 H locs ls hm29 hi hq hu1 hI hV hl
          refine lv_iload_n hx hb dX2_improve_29 rfl (lv_at hl 3 rfl) ?_
          refine lv_ldc (v := -1000006) hx hb hown (hts _ (List.mem_of_getElem? (i := 2) rfl)) dX2_improve_30 ?_
          refine z_icmp_eq (tgt := 68) hx hb dX2_improve_32 (by decide) (fun c32 => ?_) (fun c32 => ?_)
          · refine lv_iload_n hx hb dX2_improve_68 rfl (lv_at hl 2 rfl) ?_
            rw [imB_end c32] at hI
            exact q_iret (W1 := wD h cA n tx T C K P1 L1 u1 ua1 ub1 pm jm lm du lt hh) hx hb hr hlocks hV dX2_improve_69 ⟨by rw [aIm_ok hk1, hI]; rfl, by rw [yIm_ok hk1, hI]⟩
          · obtain ⟨hr0, hb0, hbv⟩ := imB_go c32
            rw [hbv] at hl
            have hok : bOk (lbs C tx n (L1, P1, u1, ua1, ub1)) := bst_ok C L1 P1 tx n
            have hlt := hok.lt
            obtain ⟨hd1, hd2, hd3⟩ := hok.dm hb0
            refine lv_aload_n hx hb dX2_improve_35 rfl (lv_at hl 0 rfl) ?_
            refine lv_iload_n hx hb dX2_improve_36 rfl (lv_at hl 3 rfl) ?_
            refine lv_bipush (v := nI 100) hx hb dX2_improve_37 (by decide) ?_
            refine q_idiv (x := (lbs C tx n (L1, P1, u1, ua1, ub1))) (y := 100) hx hb (by omega) (by omega) (by omega) dX2_improve_39 ?_
            refine lv_iload_n hx hb dX2_improve_40 rfl (lv_at hl 3 rfl) ?_
            refine lv_bipush (v := nI 100) hx hb dX2_improve_41 (by decide) ?_
            refine q_irem (x := (lbs C tx n (L1, P1, u1, ua1, ub1))) (y := 100) hx hb (by omega) (by omega) (by omega) dX2_improve_43 ?_
            refine k_V_v (w0 := ([] : va_W)) (wc := wD h cA n tx T C K P1 L1 u1 ua1 ub1 pm jm lm du lt hh) (b := h 0) (As := [.int (nI ((lbs C tx n (L1, P1, u1, ua1, ub1)) / 100)), .int (nI ((lbs C tx n (L1, P1, u1, ua1, ub1)) % 100))]) (rest := []) hx hb hml hown hts hK hA hN hV hl.1 (c_X2_swapNow l D h cA n tx T C K P1 L1 u1 ua1 ub1 pm jm lm du lt hh ((lbs C tx n (L1, P1, u1, ua1, ub1)) / 100) ((lbs C tx n (L1, P1, u1, ua1, ub1)) % 100)  hd1 hd2 hq hu1) gX2_improve_X2_swapNow rfl rfl rfl hdX2_swapNow ⟨Nat.le_of_ble_eq_true rfl, Nat.le_of_ble_eq_true rfl⟩ 0 2 rfl rfl rfl rfl rfl (Nat.le_of_ble_eq_true rfl) dX2_improve_44 ⟨Nat.zero_le _, Nat.zero_le _⟩ (fun W1 H locs hp hV => ?_)
            subst hp
            have hV : qV D A s.heap (wD h cA n tx T C K (exP L1 P1 ((lbs C tx n (L1, P1, u1, ua1, ub1)) / 100) ((lbs C tx n (L1, P1, u1, ua1, ub1)) % 100)) (exL L1 ((lbs C tx n (L1, P1, u1, ua1, ub1)) / 100) ((lbs C tx n (L1, P1, u1, ua1, ub1)) % 100)) (pshU u1) (pshA ua1 u1 ((lbs C tx n (L1, P1, u1, ua1, ub1)) / 100)) (pshA ub1 u1 ((lbs C tx n (L1, P1, u1, ua1, ub1)) % 100)) pm jm lm du lt hh) H locs := hV
            refine q_iinc (x := i) (z := i + 1) (lv' := [(2, .int (nI (i + 1))), (0, .ref (h 0)), (1, .int (nI k1)), (3, .int (nI (lbs C tx n (L1, P1, u1, ua1, ub1))))]) hx hb dX2_improve_47 hl (k := 2) rfl (dd := 1) rfl (by omega) (by decide) rfl (fun ls hl => ?_)
            refine lv_iload_n hx hb dX2_improve_50 rfl (lv_at hl 0 rfl) ?_
            refine lv_iload_n hx hb dX2_improve_51 rfl (lv_at hl 2 rfl) ?_
            refine q_icmp_ne (x := i + 1) (y := k1) (tgt := 60) hx hb dX2_improve_52 (by decide) (by omega) (by omega) (fun c52 => ?_) (fun c52 => ?_)
            · refine lv_aload_n hx hb dX2_improve_60 rfl (lv_at hl 1 rfl) ?_
              refine k_V_i (w0 := ([] : va_W)) (wc := wD h cA n tx T C K (exP L1 P1 ((lbs C tx n (L1, P1, u1, ua1, ub1)) / 100) ((lbs C tx n (L1, P1, u1, ua1, ub1)) % 100)) (exL L1 ((lbs C tx n (L1, P1, u1, ua1, ub1)) / 100) ((lbs C tx n (L1, P1, u1, ua1, ub1)) % 100)) (pshU u1) (pshA ua1 u1 ((lbs C tx n (L1, P1, u1, ua1, ub1)) / 100)) (pshA ub1 u1 ((lbs C tx n (L1, P1, u1, ua1, ub1)) % 100)) pm jm lm du lt hh) (b := h 0) (As := []) (rest := []) hx hb hml hown hts hK hA hN hV hl.1 (c_X2_bestNow l D h cA n tx T C K (exP L1 P1 ((lbs C tx n (L1, P1, u1, ua1, ub1)) / 100) ((lbs C tx n (L1, P1, u1, ua1, ub1)) % 100)) (exL L1 ((lbs C tx n (L1, P1, u1, ua1, ub1)) / 100) ((lbs C tx n (L1, P1, u1, ua1, ub1)) % 100)) (pshU u1) (pshA ua1 u1 ((lbs C tx n (L1, P1, u1, ua1, ub1)) / 100)) (pshA ub1 u1 ((lbs C tx n (L1, P1, u1, ua1, ub1)) % 100)) pm jm lm du lt hh   (by first | omega | assumption) (by first | omega | assumption) (by first | omega | assumption) (hq.ex hd1 hd2)) gX2_improve_X2_bestNow rfl rfl rfl hdX2_bestNow ⟨Nat.le_of_ble_eq_true rfl, Nat.le_of_ble_eq_true rfl⟩ 0 2 rfl rfl rfl rfl rfl (Nat.le_of_ble_eq_true rfl) dX2_improve_61 ⟨Nat.zero_le _, Nat.zero_le _⟩ (fun r W1 H locs hp hV => ?_)
              obtain ⟨hp1, hp2⟩ := hp
              replace hp1 := hp1.symm
              subst hp1
              replace hp2 := hp2.symm
              subst hp2
              have hV : qV D A s.heap (wD h cA n tx T C K (exP L1 P1 ((lbs C tx n (L1, P1, u1, ua1, ub1)) / 100) ((lbs C tx n (L1, P1, u1, ua1, ub1)) % 100)) (exL L1 ((lbs C tx n (L1, P1, u1, ua1, ub1)) / 100) ((lbs C tx n (L1, P1, u1, ua1, ub1)) % 100)) (pshU u1) (pshA ua1 u1 ((lbs C tx n (L1, P1, u1, ua1, ub1)) / 100)) (pshA ub1 u1 ((lbs C tx n (L1, P1, u1, ua1, ub1)) % 100)) pm jm lm du lt hh) H locs := hV
              refine lv_istore_n (lv' := [(3, .int (bV (bst C (exL L1 ((lbs C tx n (L1, P1, u1, ua1, ub1)) / 100) ((lbs C tx n (L1, P1, u1, ua1, ub1)) % 100)) (exP L1 P1 ((lbs C tx n (L1, P1, u1, ua1, ub1)) / 100) ((lbs C tx n (L1, P1, u1, ua1, ub1)) % 100)) tx n))), (2, .int (nI (i + 1))), (0, .ref (h 0)), (1, .int (nI k1))]) hx hb dX2_improve_64 rfl hl (by decide) rfl (fun ls hl => ?_)
              refine lv_goto (tgt := 29) hx hb dX2_improve_65 (by decide) ?_
              have e3 : imB C tx n (k1 - (i + 1)) (exL L1 ((lbs C tx n (L1, P1, u1, ua1, ub1)) / 100) ((lbs C tx n (L1, P1, u1, ua1, ub1)) % 100), exP L1 P1 ((lbs C tx n (L1, P1, u1, ua1, ub1)) / 100) ((lbs C tx n (L1, P1, u1, ua1, ub1)) % 100), pshU u1, pshA ua1 u1 ((lbs C tx n (L1, P1, u1, ua1, ub1)) / 100), pshA ub1 u1 ((lbs C tx n (L1, P1, u1, ua1, ub1)) % 100)) = bV (bst C (exL L1 ((lbs C tx n (L1, P1, u1, ua1, ub1)) / 100) ((lbs C tx n (L1, P1, u1, ua1, ub1)) % 100)) (exP L1 P1 ((lbs C tx n (L1, P1, u1, ua1, ub1)) / 100) ((lbs C tx n (L1, P1, u1, ua1, ub1)) % 100)) tx n) := imB_1 (by omega)
              exact ih29  (i + 1) (exL L1 ((lbs C tx n (L1, P1, u1, ua1, ub1)) / 100) ((lbs C tx n (L1, P1, u1, ua1, ub1)) % 100)) (exP L1 P1 ((lbs C tx n (L1, P1, u1, ua1, ub1)) / 100) ((lbs C tx n (L1, P1, u1, ua1, ub1)) % 100)) (pshU u1) (pshA ua1 u1 ((lbs C tx n (L1, P1, u1, ua1, ub1)) / 100)) (pshA ub1 u1 ((lbs C tx n (L1, P1, u1, ua1, ub1)) % 100)) _ _ _ (by omega) (by first | omega | assumption) (hq.ex hd1 hd2) (pshU_le _ hu1) (by rw [hI, impr_s1 hr0 hb0, show k1 - (i + 1) = k1 - i - 1 by omega]; exact Prod.ext (by show i + (_ + 1) = _ ; simp only [Nat.add_comm, Nat.add_left_comm, Nat.add_assoc]; rfl) rfl) hV (by rw [e3]; exact lv_sub hl [2, 3, 1, 0] rfl)
            · refine lv_ldc (v := -1000006) hx hb hown (hts _ (List.mem_of_getElem? (i := 2) rfl)) dX2_improve_55 ?_
              refine lv_goto (tgt := 64) hx hb dX2_improve_57 (by decide) ?_
              refine lv_istore_n (lv' := [(3, .int (-1000006)), (2, .int (nI (i + 1))), (0, .ref (h 0)), (1, .int (nI k1))]) hx hb dX2_improve_64 rfl hl (by decide) rfl (fun ls hl => ?_)
              refine lv_goto (tgt := 29) hx hb dX2_improve_65 (by decide) ?_
              have e3 : imB C tx n (k1 - (i + 1)) (exL L1 ((lbs C tx n (L1, P1, u1, ua1, ub1)) / 100) ((lbs C tx n (L1, P1, u1, ua1, ub1)) % 100), exP L1 P1 ((lbs C tx n (L1, P1, u1, ua1, ub1)) / 100) ((lbs C tx n (L1, P1, u1, ua1, ub1)) % 100), pshU u1, pshA ua1 u1 ((lbs C tx n (L1, P1, u1, ua1, ub1)) / 100), pshA ub1 u1 ((lbs C tx n (L1, P1, u1, ua1, ub1)) % 100)) = -1000006 := imB_0 (by omega)
              exact ih29  (i + 1) (exL L1 ((lbs C tx n (L1, P1, u1, ua1, ub1)) / 100) ((lbs C tx n (L1, P1, u1, ua1, ub1)) % 100)) (exP L1 P1 ((lbs C tx n (L1, P1, u1, ua1, ub1)) / 100) ((lbs C tx n (L1, P1, u1, ua1, ub1)) % 100)) (pshU u1) (pshA ua1 u1 ((lbs C tx n (L1, P1, u1, ua1, ub1)) / 100)) (pshA ub1 u1 ((lbs C tx n (L1, P1, u1, ua1, ub1)) % 100)) _ _ _ (by omega) (by first | omega | assumption) (hq.ex hd1 hd2) (pshU_le _ hu1) (by rw [hI, impr_s1 hr0 hb0, show k1 - (i + 1) = k1 - i - 1 by omega]; exact Prod.ext (by show i + (_ + 1) = _ ; simp only [Nat.add_comm, Nat.add_left_comm, Nat.add_assoc]; rfl) rfl) hV (by rw [e3]; exact lv_sub hl [2, 3, 1, 0] rfl)
      have e3 : imB C tx n (k1 - 0) (L, P, u, ua, ub) = bV (bst C L P tx n) := imB_1 (by omega)
      exact lp29 (k1 + 1) 0 L P u ua ub _ _ _ (by omega) (by first | omega | assumption) (by first | omega | assumption) (by first | omega | assumption) (by simp) hV (by rw [e3]; exact lv_sub hl [2, 3, 1, 0] rfl)
    · refine lv_ldc (v := -1000006) hx hb hown (hts _ (List.mem_of_getElem? (i := 2) rfl)) dX2_improve_19 ?_
      refine lv_goto (tgt := 28) hx hb dX2_improve_21 (by decide) ?_
      refine lv_istore_n (lv' := [(3, .int (-1000006)), (2, .int (nI 0)), (0, .ref (h 0)), (1, .int (nI k1))]) hx hb dX2_improve_28 rfl hl (by decide) rfl (fun ls hl => ?_)
      have lp29 : ∀ (d29 : Nat) (i : Nat) (L1 : Nat → Nat) (P1 : Nat → Nat) (u1 : Nat) (ua1 : Nat → Nat) (ub1 : Nat → Nat) (H : Heap) (locs : List Loc) (ls : Array Slot), (k1 + 1 ≤ i + d29) → (i ≤ k1) → (perm L1 P1) → (u1 ≤ 30) → (impr C tx n k1 (L, P, u, ua, ub) = (i + (impr C tx n (k1 - i) (L1, P1, u1, ua1, ub1)).1, (impr C tx n (k1 - i) (L1, P1, u1, ua1, ub1)).2)) → qV D A s.heap (wD h cA n tx T C K P1 L1 u1 ua1 ub1 pm jm lm du lt hh) H locs → lv_has ls 4 [(0, .ref (h 0)), (1, .int (nI k1)), (2, .int (nI i)), (3, .int (imB C tx n (k1 - i) (L1, P1, u1, ua1, ub1)))] → W p l e rm_X2_improve s m ([.ref (h 0), .int (nI k1)] : List Value).toArray below meth c H locs 0 0 (MQ below (va_Qi (fun r W1 => r = aIm C tx n (nI k1) (L, P, u, ua, ub) ∧ W1 = wD h cA n tx T C K ((yIm C tx n (nI k1) (L, P, u, ua, ub)).2.1) ((yIm C tx n (nI k1) (L, P, u, ua, ub)).1) ((yIm C tx n (nI k1) (L, P, u, ua, ub)).2.2.1) ((yIm C tx n (nI k1) (L, P, u, ua, ub)).2.2.2.1) ((yIm C tx n (nI k1) (L, P, u, ua, ub)).2.2.2.2) pm jm lm du lt hh) (cPost D A) A) ([.ref (h 0), .int (nI k1)] : List Value).toArray s 0 0 A) (F0 m 29 ls []) := by
        intro d29
        induction d29 with
        | zero => intro i L1 P1 u1 ua1 ub1 H locs ls hm29 hi hq hu1 hI hV hl; exfalso; omega
        | succ d29 ih29 =>
          intro i L1 P1 u1 ua1 ub1 H locs ls hm29 hi hq hu1 hI hV hl
          refine lv_iload_n hx hb dX2_improve_29 rfl (lv_at hl 3 rfl) ?_
          refine lv_ldc (v := -1000006) hx hb hown (hts _ (List.mem_of_getElem? (i := 2) rfl)) dX2_improve_30 ?_
          refine z_icmp_eq (tgt := 68) hx hb dX2_improve_32 (by decide) (fun c32 => ?_) (fun c32 => ?_)
          · refine lv_iload_n hx hb dX2_improve_68 rfl (lv_at hl 2 rfl) ?_
            rw [imB_end c32] at hI
            exact q_iret (W1 := wD h cA n tx T C K P1 L1 u1 ua1 ub1 pm jm lm du lt hh) hx hb hr hlocks hV dX2_improve_69 ⟨by rw [aIm_ok hk1, hI]; rfl, by rw [yIm_ok hk1, hI]⟩
          · obtain ⟨hr0, hb0, hbv⟩ := imB_go c32
            rw [hbv] at hl
            have hok : bOk (lbs C tx n (L1, P1, u1, ua1, ub1)) := bst_ok C L1 P1 tx n
            have hlt := hok.lt
            obtain ⟨hd1, hd2, hd3⟩ := hok.dm hb0
            refine lv_aload_n hx hb dX2_improve_35 rfl (lv_at hl 0 rfl) ?_
            refine lv_iload_n hx hb dX2_improve_36 rfl (lv_at hl 3 rfl) ?_
            refine lv_bipush (v := nI 100) hx hb dX2_improve_37 (by decide) ?_
            refine q_idiv (x := (lbs C tx n (L1, P1, u1, ua1, ub1))) (y := 100) hx hb (by omega) (by omega) (by omega) dX2_improve_39 ?_
            refine lv_iload_n hx hb dX2_improve_40 rfl (lv_at hl 3 rfl) ?_
            refine lv_bipush (v := nI 100) hx hb dX2_improve_41 (by decide) ?_
            refine q_irem (x := (lbs C tx n (L1, P1, u1, ua1, ub1))) (y := 100) hx hb (by omega) (by omega) (by omega) dX2_improve_43 ?_
            refine k_V_v (w0 := ([] : va_W)) (wc := wD h cA n tx T C K P1 L1 u1 ua1 ub1 pm jm lm du lt hh) (b := h 0) (As := [.int (nI ((lbs C tx n (L1, P1, u1, ua1, ub1)) / 100)), .int (nI ((lbs C tx n (L1, P1, u1, ua1, ub1)) % 100))]) (rest := []) hx hb hml hown hts hK hA hN hV hl.1 (c_X2_swapNow l D h cA n tx T C K P1 L1 u1 ua1 ub1 pm jm lm du lt hh ((lbs C tx n (L1, P1, u1, ua1, ub1)) / 100) ((lbs C tx n (L1, P1, u1, ua1, ub1)) % 100)  hd1 hd2 hq hu1) gX2_improve_X2_swapNow rfl rfl rfl hdX2_swapNow ⟨Nat.le_of_ble_eq_true rfl, Nat.le_of_ble_eq_true rfl⟩ 0 2 rfl rfl rfl rfl rfl (Nat.le_of_ble_eq_true rfl) dX2_improve_44 ⟨Nat.zero_le _, Nat.zero_le _⟩ (fun W1 H locs hp hV => ?_)
            subst hp
            have hV : qV D A s.heap (wD h cA n tx T C K (exP L1 P1 ((lbs C tx n (L1, P1, u1, ua1, ub1)) / 100) ((lbs C tx n (L1, P1, u1, ua1, ub1)) % 100)) (exL L1 ((lbs C tx n (L1, P1, u1, ua1, ub1)) / 100) ((lbs C tx n (L1, P1, u1, ua1, ub1)) % 100)) (pshU u1) (pshA ua1 u1 ((lbs C tx n (L1, P1, u1, ua1, ub1)) / 100)) (pshA ub1 u1 ((lbs C tx n (L1, P1, u1, ua1, ub1)) % 100)) pm jm lm du lt hh) H locs := hV
            refine q_iinc (x := i) (z := i + 1) (lv' := [(2, .int (nI (i + 1))), (0, .ref (h 0)), (1, .int (nI k1)), (3, .int (nI (lbs C tx n (L1, P1, u1, ua1, ub1))))]) hx hb dX2_improve_47 hl (k := 2) rfl (dd := 1) rfl (by omega) (by decide) rfl (fun ls hl => ?_)
            refine lv_iload_n hx hb dX2_improve_50 rfl (lv_at hl 0 rfl) ?_
            refine lv_iload_n hx hb dX2_improve_51 rfl (lv_at hl 2 rfl) ?_
            refine q_icmp_ne (x := i + 1) (y := k1) (tgt := 60) hx hb dX2_improve_52 (by decide) (by omega) (by omega) (fun c52 => ?_) (fun c52 => ?_)
            · refine lv_aload_n hx hb dX2_improve_60 rfl (lv_at hl 1 rfl) ?_
              refine k_V_i (w0 := ([] : va_W)) (wc := wD h cA n tx T C K (exP L1 P1 ((lbs C tx n (L1, P1, u1, ua1, ub1)) / 100) ((lbs C tx n (L1, P1, u1, ua1, ub1)) % 100)) (exL L1 ((lbs C tx n (L1, P1, u1, ua1, ub1)) / 100) ((lbs C tx n (L1, P1, u1, ua1, ub1)) % 100)) (pshU u1) (pshA ua1 u1 ((lbs C tx n (L1, P1, u1, ua1, ub1)) / 100)) (pshA ub1 u1 ((lbs C tx n (L1, P1, u1, ua1, ub1)) % 100)) pm jm lm du lt hh) (b := h 0) (As := []) (rest := []) hx hb hml hown hts hK hA hN hV hl.1 (c_X2_bestNow l D h cA n tx T C K (exP L1 P1 ((lbs C tx n (L1, P1, u1, ua1, ub1)) / 100) ((lbs C tx n (L1, P1, u1, ua1, ub1)) % 100)) (exL L1 ((lbs C tx n (L1, P1, u1, ua1, ub1)) / 100) ((lbs C tx n (L1, P1, u1, ua1, ub1)) % 100)) (pshU u1) (pshA ua1 u1 ((lbs C tx n (L1, P1, u1, ua1, ub1)) / 100)) (pshA ub1 u1 ((lbs C tx n (L1, P1, u1, ua1, ub1)) % 100)) pm jm lm du lt hh   (by first | omega | assumption) (by first | omega | assumption) (by first | omega | assumption) (hq.ex hd1 hd2)) gX2_improve_X2_bestNow rfl rfl rfl hdX2_bestNow ⟨Nat.le_of_ble_eq_true rfl, Nat.le_of_ble_eq_true rfl⟩ 0 2 rfl rfl rfl rfl rfl (Nat.le_of_ble_eq_true rfl) dX2_improve_61 ⟨Nat.zero_le _, Nat.zero_le _⟩ (fun r W1 H locs hp hV => ?_)
              obtain ⟨hp1, hp2⟩ := hp
              replace hp1 := hp1.symm
              subst hp1
              replace hp2 := hp2.symm
              subst hp2
              have hV : qV D A s.heap (wD h cA n tx T C K (exP L1 P1 ((lbs C tx n (L1, P1, u1, ua1, ub1)) / 100) ((lbs C tx n (L1, P1, u1, ua1, ub1)) % 100)) (exL L1 ((lbs C tx n (L1, P1, u1, ua1, ub1)) / 100) ((lbs C tx n (L1, P1, u1, ua1, ub1)) % 100)) (pshU u1) (pshA ua1 u1 ((lbs C tx n (L1, P1, u1, ua1, ub1)) / 100)) (pshA ub1 u1 ((lbs C tx n (L1, P1, u1, ua1, ub1)) % 100)) pm jm lm du lt hh) H locs := hV
              refine lv_istore_n (lv' := [(3, .int (bV (bst C (exL L1 ((lbs C tx n (L1, P1, u1, ua1, ub1)) / 100) ((lbs C tx n (L1, P1, u1, ua1, ub1)) % 100)) (exP L1 P1 ((lbs C tx n (L1, P1, u1, ua1, ub1)) / 100) ((lbs C tx n (L1, P1, u1, ua1, ub1)) % 100)) tx n))), (2, .int (nI (i + 1))), (0, .ref (h 0)), (1, .int (nI k1))]) hx hb dX2_improve_64 rfl hl (by decide) rfl (fun ls hl => ?_)
              refine lv_goto (tgt := 29) hx hb dX2_improve_65 (by decide) ?_
              have e3 : imB C tx n (k1 - (i + 1)) (exL L1 ((lbs C tx n (L1, P1, u1, ua1, ub1)) / 100) ((lbs C tx n (L1, P1, u1, ua1, ub1)) % 100), exP L1 P1 ((lbs C tx n (L1, P1, u1, ua1, ub1)) / 100) ((lbs C tx n (L1, P1, u1, ua1, ub1)) % 100), pshU u1, pshA ua1 u1 ((lbs C tx n (L1, P1, u1, ua1, ub1)) / 100), pshA ub1 u1 ((lbs C tx n (L1, P1, u1, ua1, ub1)) % 100)) = bV (bst C (exL L1 ((lbs C tx n (L1, P1, u1, ua1, ub1)) / 100) ((lbs C tx n (L1, P1, u1, ua1, ub1)) % 100)) (exP L1 P1 ((lbs C tx n (L1, P1, u1, ua1, ub1)) / 100) ((lbs C tx n (L1, P1, u1, ua1, ub1)) % 100)) tx n) := imB_1 (by omega)
              exact ih29  (i + 1) (exL L1 ((lbs C tx n (L1, P1, u1, ua1, ub1)) / 100) ((lbs C tx n (L1, P1, u1, ua1, ub1)) % 100)) (exP L1 P1 ((lbs C tx n (L1, P1, u1, ua1, ub1)) / 100) ((lbs C tx n (L1, P1, u1, ua1, ub1)) % 100)) (pshU u1) (pshA ua1 u1 ((lbs C tx n (L1, P1, u1, ua1, ub1)) / 100)) (pshA ub1 u1 ((lbs C tx n (L1, P1, u1, ua1, ub1)) % 100)) _ _ _ (by omega) (by first | omega | assumption) (hq.ex hd1 hd2) (pshU_le _ hu1) (by rw [hI, impr_s1 hr0 hb0, show k1 - (i + 1) = k1 - i - 1 by omega]; exact Prod.ext (by show i + (_ + 1) = _ ; simp only [Nat.add_comm, Nat.add_left_comm, Nat.add_assoc]; rfl) rfl) hV (by rw [e3]; exact lv_sub hl [2, 3, 1, 0] rfl)
            · refine lv_ldc (v := -1000006) hx hb hown (hts _ (List.mem_of_getElem? (i := 2) rfl)) dX2_improve_55 ?_
              refine lv_goto (tgt := 64) hx hb dX2_improve_57 (by decide) ?_
              refine lv_istore_n (lv' := [(3, .int (-1000006)), (2, .int (nI (i + 1))), (0, .ref (h 0)), (1, .int (nI k1))]) hx hb dX2_improve_64 rfl hl (by decide) rfl (fun ls hl => ?_)
              refine lv_goto (tgt := 29) hx hb dX2_improve_65 (by decide) ?_
              have e3 : imB C tx n (k1 - (i + 1)) (exL L1 ((lbs C tx n (L1, P1, u1, ua1, ub1)) / 100) ((lbs C tx n (L1, P1, u1, ua1, ub1)) % 100), exP L1 P1 ((lbs C tx n (L1, P1, u1, ua1, ub1)) / 100) ((lbs C tx n (L1, P1, u1, ua1, ub1)) % 100), pshU u1, pshA ua1 u1 ((lbs C tx n (L1, P1, u1, ua1, ub1)) / 100), pshA ub1 u1 ((lbs C tx n (L1, P1, u1, ua1, ub1)) % 100)) = -1000006 := imB_0 (by omega)
              exact ih29  (i + 1) (exL L1 ((lbs C tx n (L1, P1, u1, ua1, ub1)) / 100) ((lbs C tx n (L1, P1, u1, ua1, ub1)) % 100)) (exP L1 P1 ((lbs C tx n (L1, P1, u1, ua1, ub1)) / 100) ((lbs C tx n (L1, P1, u1, ua1, ub1)) % 100)) (pshU u1) (pshA ua1 u1 ((lbs C tx n (L1, P1, u1, ua1, ub1)) / 100)) (pshA ub1 u1 ((lbs C tx n (L1, P1, u1, ua1, ub1)) % 100)) _ _ _ (by omega) (by first | omega | assumption) (hq.ex hd1 hd2) (pshU_le _ hu1) (by rw [hI, impr_s1 hr0 hb0, show k1 - (i + 1) = k1 - i - 1 by omega]; exact Prod.ext (by show i + (_ + 1) = _ ; simp only [Nat.add_comm, Nat.add_left_comm, Nat.add_assoc]; rfl) rfl) hV (by rw [e3]; exact lv_sub hl [2, 3, 1, 0] rfl)
      have e3 : imB C tx n (k1 - 0) (L, P, u, ua, ub) = -1000006 := imB_0 (by omega)
      exact lp29 (k1 + 1) 0 L P u ua ub _ _ _ (by omega) (by first | omega | assumption) (by first | omega | assumption) (by first | omega | assumption) (by simp) hV (by rw [e3]; exact lv_sub hl [2, 3, 1, 0] rfl)
  · refine lv_ldc (v := -1000003) hx hb hown (hts _ (List.mem_of_getElem? (i := 1) rfl)) dX2_improve_10 ?_
    have e1 : okR 0 100 v1 = 0 := c7
    exact q_iret (W1 := wD h cA n tx T C K P L u ua ub pm jm lm du lt hh) hx hb hr hlocks hV dX2_improve_12 ⟨(aIm_no e1).symm, by rw [yIm_no e1]⟩
abbrev rm_X2_partOf : Room := { frames := 2, cells := 0, slots := 0, locals := 44 }
set_option maxHeartbeats 4000000 in
set_option maxRecDepth 100000 in
theorem c_X2_partOf (l : Launch) (D : va_G) (h : Nat → Nat) (cA : ClassId) (n : Nat) (tx : Nat → Nat) (T : Nat) (C : Nat) (K : Nat) (P : Nat → Nat) (L : Nat → Nat) (u : Nat) (ua : Nat → Nat) (ub : Nat → Nat) (pm : Nat) (jm : Nat) (lm : Nat) (du : Nat) (lt : Nat) (hh : Int64) (a : Nat)  (h_a : a < 12) (hn : n ≤ 60) (htx : ∀ i, tx i < 12) (hC : C ≤ 5) (hp : perm L P) : CTi l D cA yX2_partOf wsX2_partOf rm_X2_partOf [.ref (h 0), .int (nI a)] (wD h cA n tx T C K P L u ua ub pm jm lm du lt hh) (fun r W1 => r = nI (prt C P tx a (n - 1)) ∧ W1 = wD h cA n tx T C K P L u ua ub pm jm lm du lt hh) := by
  refine CTi.mk (cc := cX2_partOf) (maxL := 4) (ret := some .int) (by decide) rfl (Nat.le_of_ble_eq_true rfl) ?_
  intro p e s m below meth c A ls E hV hl
  obtain ⟨hx, hb, hml, hr, hown, hts, hlocks, hK, hA, hN⟩ := E
  have hown : s.vm.findClass RX2 = some m.cls := hown
  have hin2 : ∀ w ∈ wsX20, w ∈ wsX2_partOf := fun _ h => List.mem_cons_of_mem _ (List.mem_append_right _ h)
  have hl : lv_has ls 4 [(0, .ref (h 0)), (1, .int (nI a))] := hl
  refine lv_iconst (v := nI 0) hx hb dX2_partOf_0 (by decide) ?_
  refine lv_istore_n (lv' := [(2, .int (nI 0)), (0, .ref (h 0)), (1, .int (nI a))]) hx hb dX2_partOf_1 rfl hl (by decide) rfl (fun ls hl => ?_)
  refine lv_iconst (v := nI 1) hx hb dX2_partOf_2 (by decide) ?_
  refine lv_istore_n (lv' := [(3, .int (nI 1)), (2, .int (nI 0)), (0, .ref (h 0)), (1, .int (nI a))]) hx hb dX2_partOf_3 rfl hl (by decide) rfl (fun ls hl => ?_)
  have lp4 : ∀ (d4 : Nat) (j : Nat) (H : Heap) (locs : List Loc) (ls : Array Slot), (61 ≤ j + d4) → (j = 0 ∨ j + 1 ≤ n) → qV D A s.heap (wD h cA n tx T C K P L u ua ub pm jm lm du lt hh) H locs → lv_has ls 4 [(0, .ref (h 0)), (1, .int (nI a)), (2, .int (nI (prt C P tx a j))), (3, .int (nI (j + 1)))] → W p l e rm_X2_partOf s m ([.ref (h 0), .int (nI a)] : List Value).toArray below meth c H locs 0 0 (MQ below (va_Qi (fun r W1 => r = nI (prt C P tx a (n - 1)) ∧ W1 = wD h cA n tx T C K P L u ua ub pm jm lm du lt hh) (cPost D A) A) ([.ref (h 0), .int (nI a)] : List Value).toArray s 0 0 A) (F0 m 4 ls []) := by
    intro d4
    induction d4 with
    | zero => intro j H locs ls hm4 hj hV hl; exfalso; omega
    | succ d4 ih4 =>
      intro j H locs ls hm4 hj hV hl
      have g1 := prt_le C P tx a j
      have g2 := cst_lt P tx (j := j) hC (by omega)
      refine lv_iload_n hx hb dX2_partOf_4 rfl (lv_at hl 3 rfl) ?_
      refine lv_aload_n hx hb dX2_partOf_5 rfl (lv_at hl 0 rfl) ?_
      refine q_get (C := RX2) (T := TX2) (N := 20) (ci := 2) (v := .int (nI n)) hx hb hts hin2 hown hK hV 0 rfl rfl 0 (by decide) (List.mem_of_getElem? (i := 1) rfl) rfl dX2_partOf_6 ?_
      refine q_icmp_ge (x := j + 1) (y := n) (tgt := 65) hx hb dX2_partOf_9 (by decide) (by omega) (by omega) (fun c9 => ?_) (fun c9 => ?_)
      · refine lv_iload_n hx hb dX2_partOf_65 rfl (lv_at hl 2 rfl) ?_
        have ej : j = n - 1 := by omega
        exact q_iret (W1 := wD h cA n tx T C K P L u ua ub pm jm lm du lt hh) hx hb hr hlocks hV dX2_partOf_66 ⟨by rw [ej], rfl⟩
      · refine lv_iload_n hx hb dX2_partOf_12 rfl (lv_at hl 2 rfl) ?_
        refine lv_aload_n hx hb dX2_partOf_13 rfl (lv_at hl 0 rfl) ?_
        refine q_get (C := RX2) (T := TX2) (N := 20) (ci := 2) (v := .ref (h 1)) hx hb hts hin2 hown hK hV 0 rfl rfl 1 (by decide) (List.mem_of_getElem? (i := 2) rfl) rfl dX2_partOf_14 ?_
        refine lv_iload_n hx hb dX2_partOf_17 rfl (lv_at hl 3 rfl) ?_
        refine lv_iconst (v := nI 1) hx hb dX2_partOf_18 (by decide) ?_
        refine q_isub2 (x := j + 1) (y := 1) (z := j) hx hb (by omega) dX2_partOf_19 ?_
        refine q_iald (n := 60) (k := j) (f := tx) hx hb hK hV 1 rfl (by omega) (by omega) dX2_partOf_20 ?_
        have f1 := htx j
        refine lv_iload_n hx hb dX2_partOf_21 rfl (lv_at hl 1 rfl) ?_
        refine q_icmp_eq (x := (tx j)) (y := a) (tgt := 35) hx hb dX2_partOf_22 (by decide) (by omega) (by omega) (fun c22 => ?_) (fun c22 => ?_)
        · refine lv_aload_n hx hb dX2_partOf_35 rfl (lv_at hl 0 rfl) ?_
          refine lv_aload_n hx hb dX2_partOf_36 rfl (lv_at hl 0 rfl) ?_
          refine q_get (C := RX2) (T := TX2) (N := 20) (ci := 2) (v := .ref (h 1)) hx hb hts hin2 hown hK hV 0 rfl rfl 1 (by decide) (List.mem_of_getElem? (i := 2) rfl) rfl dX2_partOf_37 ?_
          refine lv_iload_n hx hb dX2_partOf_40 rfl (lv_at hl 3 rfl) ?_
          refine lv_iconst (v := nI 1) hx hb dX2_partOf_41 (by decide) ?_
          refine q_isub2 (x := j + 1) (y := 1) (z := j) hx hb (by omega) dX2_partOf_42 ?_
          refine q_iald (n := 60) (k := j) (f := tx) hx hb hK hV 1 rfl (by omega) (by omega) dX2_partOf_43 ?_
          have f2 := htx j
          refine lv_aload_n hx hb dX2_partOf_44 rfl (lv_at hl 0 rfl) ?_
          refine q_get (C := RX2) (T := TX2) (N := 20) (ci := 2) (v := .ref (h 1)) hx hb hts hin2 hown hK hV 0 rfl rfl 1 (by decide) (List.mem_of_getElem? (i := 2) rfl) rfl dX2_partOf_45 ?_
          refine lv_iload_n hx hb dX2_partOf_48 rfl (lv_at hl 3 rfl) ?_
          refine q_iald (n := 60) (k := j + 1) (f := tx) hx hb hK hV 1 rfl (by omega) (by omega) dX2_partOf_49 ?_
          have f3 := htx (j + 1)
          refine k_V_i (w0 := ([] : va_W)) (wc := wD h cA n tx T C K P L u ua ub pm jm lm du lt hh) (b := h 0) (As := [.int (nI (tx j)), .int (nI (tx (j + 1)))]) (rest := [.int (nI (prt C P tx a j))]) hx hb hml hown hts hK hA hN hV hl.1 (c_X2_closeness l D h cA n tx T C K P L u ua ub pm jm lm du lt hh (tx j) (tx (j + 1))  (by first | omega | assumption) (by first | omega | assumption) (by first | omega | assumption) (by first | omega | assumption)) gX2_partOf_X2_closeness rfl rfl rfl hdX2_closeness ⟨Nat.le_of_ble_eq_true rfl, Nat.le_of_ble_eq_true rfl⟩ 0 2 rfl rfl rfl rfl rfl (Nat.le_of_ble_eq_true rfl) dX2_partOf_50 ⟨Nat.zero_le _, Nat.zero_le _⟩ (fun r W1 H locs hp hV => ?_)
          obtain ⟨hp1, hp2⟩ := hp
          replace hp1 := hp1.symm
          subst hp1
          replace hp2 := hp2.symm
          subst hp2
          have hV : qV D A s.heap (wD h cA n tx T C K P L u ua ub pm jm lm du lt hh) H locs := hV
          have f4 := clos_le C P (tx j) (tx (j + 1))
          refine lv_goto (tgt := 57) hx hb dX2_partOf_53 (by decide) ?_
          refine q_iadd2 (x := (prt C P tx a j)) (y := (clos C P (tx j) (tx (j + 1)))) (z := (prt C P tx a j) + (clos C P (tx j) (tx (j + 1)))) hx hb (by omega) dX2_partOf_57 ?_
          refine lv_istore_n (lv' := [(2, .int (nI ((prt C P tx a j) + (clos C P (tx j) (tx (j + 1)))))), (0, .ref (h 0)), (1, .int (nI a)), (3, .int (nI (j + 1)))]) hx hb dX2_partOf_58 rfl hl (by decide) rfl (fun ls hl => ?_)
          refine q_iinc (x := j + 1) (z := j + 2) (lv' := [(3, .int (nI (j + 2))), (2, .int (nI ((prt C P tx a j) + (clos C P (tx j) (tx (j + 1)))))), (0, .ref (h 0)), (1, .int (nI a))]) hx hb dX2_partOf_59 hl (k := 3) rfl (dd := 1) rfl (by omega) (by decide) rfl (fun ls hl => ?_)
          refine lv_goto (tgt := 4) hx hb dX2_partOf_62 (by decide) ?_
          have e1 : prt C P tx a (j + 1) = (prt C P tx a j) + (clos C P (tx j) (tx (j + 1))) := by show prt C P tx a j + _ = _; rw [if_pos (by omega)]
          exact ih4  (j + 1) _ _ _ (by omega) (by first | omega | assumption) hV (by rw [e1]; exact lv_sub hl [2, 3, 1, 0] rfl)
        · refine lv_aload_n hx hb dX2_partOf_25 rfl (lv_at hl 0 rfl) ?_
          refine q_get (C := RX2) (T := TX2) (N := 20) (ci := 2) (v := .ref (h 1)) hx hb hts hin2 hown hK hV 0 rfl rfl 1 (by decide) (List.mem_of_getElem? (i := 2) rfl) rfl dX2_partOf_26 ?_
          refine lv_iload_n hx hb dX2_partOf_29 rfl (lv_at hl 3 rfl) ?_
          refine q_iald (n := 60) (k := j + 1) (f := tx) hx hb hK hV 1 rfl (by omega) (by omega) dX2_partOf_30 ?_
          have f5 := htx (j + 1)
          refine lv_iload_n hx hb dX2_partOf_31 rfl (lv_at hl 1 rfl) ?_
          refine q_icmp_ne (x := (tx (j + 1))) (y := a) (tgt := 56) hx hb dX2_partOf_32 (by decide) (by omega) (by omega) (fun c32 => ?_) (fun c32 => ?_)
          · refine lv_iconst (v := nI 0) hx hb dX2_partOf_56 (by decide) ?_
            refine q_iadd2 (x := (prt C P tx a j)) (y := 0) (z := (prt C P tx a j)) hx hb (by omega) dX2_partOf_57 ?_
            refine lv_istore_n (lv' := [(2, .int (nI (prt C P tx a j))), (0, .ref (h 0)), (1, .int (nI a)), (3, .int (nI (j + 1)))]) hx hb dX2_partOf_58 rfl hl (by decide) rfl (fun ls hl => ?_)
            refine q_iinc (x := j + 1) (z := j + 2) (lv' := [(3, .int (nI (j + 2))), (2, .int (nI (prt C P tx a j))), (0, .ref (h 0)), (1, .int (nI a))]) hx hb dX2_partOf_59 hl (k := 3) rfl (dd := 1) rfl (by omega) (by decide) rfl (fun ls hl => ?_)
            refine lv_goto (tgt := 4) hx hb dX2_partOf_62 (by decide) ?_
            have e1 : prt C P tx a (j + 1) = (prt C P tx a j) := by show prt C P tx a j + _ = _; rw [if_neg (by omega), Nat.add_zero]
            exact ih4  (j + 1) _ _ _ (by omega) (by first | omega | assumption) hV (by rw [e1]; exact lv_sub hl [2, 3, 1, 0] rfl)
          · refine lv_aload_n hx hb dX2_partOf_35 rfl (lv_at hl 0 rfl) ?_
            refine lv_aload_n hx hb dX2_partOf_36 rfl (lv_at hl 0 rfl) ?_
            refine q_get (C := RX2) (T := TX2) (N := 20) (ci := 2) (v := .ref (h 1)) hx hb hts hin2 hown hK hV 0 rfl rfl 1 (by decide) (List.mem_of_getElem? (i := 2) rfl) rfl dX2_partOf_37 ?_
            refine lv_iload_n hx hb dX2_partOf_40 rfl (lv_at hl 3 rfl) ?_
            refine lv_iconst (v := nI 1) hx hb dX2_partOf_41 (by decide) ?_
            refine q_isub2 (x := j + 1) (y := 1) (z := j) hx hb (by omega) dX2_partOf_42 ?_
            refine q_iald (n := 60) (k := j) (f := tx) hx hb hK hV 1 rfl (by omega) (by omega) dX2_partOf_43 ?_
            have f6 := htx j
            refine lv_aload_n hx hb dX2_partOf_44 rfl (lv_at hl 0 rfl) ?_
            refine q_get (C := RX2) (T := TX2) (N := 20) (ci := 2) (v := .ref (h 1)) hx hb hts hin2 hown hK hV 0 rfl rfl 1 (by decide) (List.mem_of_getElem? (i := 2) rfl) rfl dX2_partOf_45 ?_
            refine lv_iload_n hx hb dX2_partOf_48 rfl (lv_at hl 3 rfl) ?_
            refine q_iald (n := 60) (k := j + 1) (f := tx) hx hb hK hV 1 rfl (by omega) (by omega) dX2_partOf_49 ?_
            have f7 := htx (j + 1)
            refine k_V_i (w0 := ([] : va_W)) (wc := wD h cA n tx T C K P L u ua ub pm jm lm du lt hh) (b := h 0) (As := [.int (nI (tx j)), .int (nI (tx (j + 1)))]) (rest := [.int (nI (prt C P tx a j))]) hx hb hml hown hts hK hA hN hV hl.1 (c_X2_closeness l D h cA n tx T C K P L u ua ub pm jm lm du lt hh (tx j) (tx (j + 1))  (by first | omega | assumption) (by first | omega | assumption) (by first | omega | assumption) (by first | omega | assumption)) gX2_partOf_X2_closeness rfl rfl rfl hdX2_closeness ⟨Nat.le_of_ble_eq_true rfl, Nat.le_of_ble_eq_true rfl⟩ 0 2 rfl rfl rfl rfl rfl (Nat.le_of_ble_eq_true rfl) dX2_partOf_50 ⟨Nat.zero_le _, Nat.zero_le _⟩ (fun r W1 H locs hp hV => ?_)
            obtain ⟨hp1, hp2⟩ := hp
            replace hp1 := hp1.symm
            subst hp1
            replace hp2 := hp2.symm
            subst hp2
            have hV : qV D A s.heap (wD h cA n tx T C K P L u ua ub pm jm lm du lt hh) H locs := hV
            have f8 := clos_le C P (tx j) (tx (j + 1))
            refine lv_goto (tgt := 57) hx hb dX2_partOf_53 (by decide) ?_
            refine q_iadd2 (x := (prt C P tx a j)) (y := (clos C P (tx j) (tx (j + 1)))) (z := (prt C P tx a j) + (clos C P (tx j) (tx (j + 1)))) hx hb (by omega) dX2_partOf_57 ?_
            refine lv_istore_n (lv' := [(2, .int (nI ((prt C P tx a j) + (clos C P (tx j) (tx (j + 1)))))), (0, .ref (h 0)), (1, .int (nI a)), (3, .int (nI (j + 1)))]) hx hb dX2_partOf_58 rfl hl (by decide) rfl (fun ls hl => ?_)
            refine q_iinc (x := j + 1) (z := j + 2) (lv' := [(3, .int (nI (j + 2))), (2, .int (nI ((prt C P tx a j) + (clos C P (tx j) (tx (j + 1)))))), (0, .ref (h 0)), (1, .int (nI a))]) hx hb dX2_partOf_59 hl (k := 3) rfl (dd := 1) rfl (by omega) (by decide) rfl (fun ls hl => ?_)
            refine lv_goto (tgt := 4) hx hb dX2_partOf_62 (by decide) ?_
            have e1 : prt C P tx a (j + 1) = (prt C P tx a j) + (clos C P (tx j) (tx (j + 1))) := by show prt C P tx a j + _ = _; rw [if_pos (by omega)]
            exact ih4  (j + 1) _ _ _ (by omega) (by first | omega | assumption) hV (by rw [e1]; exact lv_sub hl [2, 3, 1, 0] rfl)
  exact lp4 61 0 _ _ _ (by omega) (by first | omega | assumption) hV (lv_sub hl [2, 3, 1, 0] rfl)
abbrev rm_X2_worstNow : Room := { frames := 3, cells := 0, slots := 0, locals := 67 }
set_option maxHeartbeats 4000000 in
set_option maxRecDepth 100000 in
theorem c_X2_worstNow (l : Launch) (D : va_G) (h : Nat → Nat) (cA : ClassId) (n : Nat) (tx : Nat → Nat) (T : Nat) (C : Nat) (K : Nat) (P : Nat → Nat) (L : Nat → Nat) (u : Nat) (ua : Nat → Nat) (ub : Nat → Nat) (pm : Nat) (jm : Nat) (lm : Nat) (du : Nat) (lt : Nat) (hh : Int64)   (hn : n ≤ 60) (htx : ∀ i, tx i < 12) (hC : C ≤ 5) (hp : perm L P) : CTi l D cA yX2_worstNow wsX2_worstNow rm_X2_worstNow [.ref (h 0)] (wD h cA n tx T C K P L u ua ub pm jm lm du lt hh) (fun r W1 => r = wV (wst C P tx n 12).2 ∧ W1 = wD h cA n tx T C K P L u ua ub pm jm lm du lt hh) := by
  refine CTi.mk (cc := cX2_worstNow) (maxL := 5) (ret := some .int) (by decide) rfl (Nat.le_of_ble_eq_true rfl) ?_
  intro p e s m below meth c A ls E hV hl
  obtain ⟨hx, hb, hml, hr, hown, hts, hlocks, hK, hA, hN⟩ := E
  have hown : s.vm.findClass RX2 = some m.cls := hown
  have hin2 : ∀ w ∈ wsX20, w ∈ wsX2_worstNow := fun _ h => List.mem_cons_of_mem _ (List.mem_append_right _ h)
  have hl : lv_has ls 5 [(0, .ref (h 0))] := hl
  refine lv_ldc (v := -1000006) hx hb hown (hts _ (List.mem_of_getElem? (i := 1) rfl)) dX2_worstNow_0 ?_
  refine lv_istore_n (lv' := [(1, .int (-1000006)), (0, .ref (h 0))]) hx hb dX2_worstNow_2 rfl hl (by decide) rfl (fun ls hl => ?_)
  refine lv_iconst (v := nI 0) hx hb dX2_worstNow_3 (by decide) ?_
  refine lv_istore_n (lv' := [(2, .int (nI 0)), (1, .int (-1000006)), (0, .ref (h 0))]) hx hb dX2_worstNow_4 rfl hl (by decide) rfl (fun ls hl => ?_)
  refine lv_iconst (v := nI 0) hx hb dX2_worstNow_5 (by decide) ?_
  refine lv_istore_n (lv' := [(3, .int (nI 0)), (2, .int (nI 0)), (1, .int (-1000006)), (0, .ref (h 0))]) hx hb dX2_worstNow_6 rfl hl (by decide) rfl (fun ls hl => ?_)
  have lp7 : ∀ (d7 : Nat) (i : Nat) (H : Heap) (locs : List Loc) (ls : Array Slot), (13 ≤ i + d7) → (i ≤ 12) → qV D A s.heap (wD h cA n tx T C K P L u ua ub pm jm lm du lt hh) H locs → lv_has ls 5 [(0, .ref (h 0)), (1, .int (wV (wst C P tx n i).2)), (2, .int (nI ((wst C P tx n i).1))), (3, .int (nI i))] → W p l e rm_X2_worstNow s m ([.ref (h 0)] : List Value).toArray below meth c H locs 0 0 (MQ below (va_Qi (fun r W1 => r = wV (wst C P tx n 12).2 ∧ W1 = wD h cA n tx T C K P L u ua ub pm jm lm du lt hh) (cPost D A) A) ([.ref (h 0)] : List Value).toArray s 0 0 A) (F0 m 7 ls []) := by
    intro d7
    induction d7 with
    | zero => intro i H locs ls hm7 hi hV hl; exfalso; omega
    | succ d7 ih7 =>
      intro i H locs ls hm7 hi hV hl
      have g1 := wst_le P tx hC hn i
      refine lv_iload_n hx hb dX2_worstNow_7 rfl (lv_at hl 3 rfl) ?_
      refine lv_bipush (v := nI 12) hx hb dX2_worstNow_8 (by decide) ?_
      refine q_icmp_ge (x := i) (y := 12) (tgt := 51) hx hb dX2_worstNow_10 (by decide) (by omega) (by omega) (fun c10 => ?_) (fun c10 => ?_)
      · refine lv_iload_n hx hb dX2_worstNow_51 rfl (lv_at hl 1 rfl) ?_
        have ei : i = 12 := by omega
        subst ei
        exact q_iret (W1 := wD h cA n tx T C K P L u ua ub pm jm lm du lt hh) hx hb hr hlocks hV dX2_worstNow_52 ⟨rfl, rfl⟩
      · refine lv_aload_n hx hb dX2_worstNow_13 rfl (lv_at hl 0 rfl) ?_
        refine lv_iload_n hx hb dX2_worstNow_14 rfl (lv_at hl 3 rfl) ?_
        refine k_V_i (w0 := ([] : va_W)) (wc := wD h cA n tx T C K P L u ua ub pm jm lm du lt hh) (b := h 0) (As := [.int (nI i)]) (rest := []) hx hb hml hown hts hK hA hN hV hl.1 (c_X2_partOf l D h cA n tx T C K P L u ua ub pm jm lm du lt hh i  (by first | omega | assumption) (by first | omega | assumption) (by first | omega | assumption) (by first | omega | assumption) (by first | omega | assumption)) gX2_worstNow_X2_partOf rfl rfl rfl hdX2_partOf ⟨Nat.le_of_ble_eq_true rfl, Nat.le_of_ble_eq_true rfl⟩ 0 2 rfl rfl rfl rfl rfl (Nat.le_of_ble_eq_true rfl) dX2_worstNow_15 ⟨Nat.zero_le _, Nat.zero_le _⟩ (fun r W1 H locs hp hV => ?_)
        obtain ⟨hp1, hp2⟩ := hp
        replace hp1 := hp1.symm
        subst hp1
        replace hp2 := hp2.symm
        subst hp2
        have hV : qV D A s.heap (wD h cA n tx T C K P L u ua ub pm jm lm du lt hh) H locs := hV
        have f1 := Nat.le_trans (prt_le C P tx i (n - 1)) (cst_lt P tx (j := n - 1) hC (by omega))
        refine lv_istore (lv' := [(4, .int (nI (prt C P tx i (n - 1)))), (0, .ref (h 0)), (1, .int (wV (wst C P tx n i).2)), (2, .int (nI ((wst C P tx n i).1))), (3, .int (nI i))]) hx hb dX2_worstNow_18 hl (by decide) rfl (fun ls hl => ?_)
        refine lv_iload hx hb dX2_worstNow_20 (lv_at hl 0 rfl) ?_
        refine lv_iload_n hx hb dX2_worstNow_22 rfl (lv_at hl 3 rfl) ?_
        refine q_icmp_le (x := (prt C P tx i (n - 1))) (y := ((wst C P tx n i).1)) (tgt := 30) hx hb dX2_worstNow_23 (by decide) (by omega) (by omega) (fun c23 => ?_) (fun c23 => ?_)
        · refine lv_iload_n hx hb dX2_worstNow_30 rfl (lv_at hl 2 rfl) ?_
          refine lv_istore_n (lv' := [(1, .int (wV (wst C P tx n i).2)), (4, .int (nI (prt C P tx i (n - 1)))), (0, .ref (h 0)), (2, .int (nI ((wst C P tx n i).1))), (3, .int (nI i))]) hx hb dX2_worstNow_31 rfl hl (by decide) rfl (fun ls hl => ?_)
          refine lv_iload hx hb dX2_worstNow_32 (lv_at hl 1 rfl) ?_
          refine lv_iload_n hx hb dX2_worstNow_34 rfl (lv_at hl 3 rfl) ?_
          refine q_icmp_le (x := (prt C P tx i (n - 1))) (y := ((wst C P tx n i).1)) (tgt := 43) hx hb dX2_worstNow_35 (by decide) (by omega) (by omega) (fun c35 => ?_) (fun c35 => ?_)
          · refine lv_iload_n hx hb dX2_worstNow_43 rfl (lv_at hl 3 rfl) ?_
            refine lv_istore_n (lv' := [(2, .int (nI ((wst C P tx n i).1))), (1, .int (wV (wst C P tx n i).2)), (4, .int (nI (prt C P tx i (n - 1)))), (0, .ref (h 0)), (3, .int (nI i))]) hx hb dX2_worstNow_44 rfl hl (by decide) rfl (fun ls hl => ?_)
            refine q_iinc (x := i) (z := i + 1) (lv' := [(3, .int (nI (i + 1))), (2, .int (nI ((wst C P tx n i).1))), (1, .int (wV (wst C P tx n i).2)), (4, .int (nI (prt C P tx i (n - 1)))), (0, .ref (h 0))]) hx hb dX2_worstNow_45 hl (k := 4) rfl (dd := 1) rfl (by omega) (by decide) rfl (fun ls hl => ?_)
            refine lv_goto (tgt := 7) hx hb dX2_worstNow_48 (by decide) ?_
            have e0 : (wst C P tx n (i + 1)) = (wst C P tx n i) := if_neg (by omega)
            exact ih7  (i + 1) _ _ _ (by omega) (by first | omega | assumption) hV (by rw [e0]; exact lv_sub hl [4, 2, 1, 0] rfl)
          · exfalso; omega
        · refine lv_iload_n hx hb dX2_worstNow_26 rfl (lv_at hl 4 rfl) ?_
          refine lv_goto (tgt := 31) hx hb dX2_worstNow_27 (by decide) ?_
          refine lv_istore_n (lv' := [(1, .int (nI i)), (4, .int (nI (prt C P tx i (n - 1)))), (0, .ref (h 0)), (2, .int (nI ((wst C P tx n i).1))), (3, .int (nI i))]) hx hb dX2_worstNow_31 rfl hl (by decide) rfl (fun ls hl => ?_)
          refine lv_iload hx hb dX2_worstNow_32 (lv_at hl 1 rfl) ?_
          refine lv_iload_n hx hb dX2_worstNow_34 rfl (lv_at hl 3 rfl) ?_
          refine q_icmp_le (x := (prt C P tx i (n - 1))) (y := ((wst C P tx n i).1)) (tgt := 43) hx hb dX2_worstNow_35 (by decide) (by omega) (by omega) (fun c35 => ?_) (fun c35 => ?_)
          · exfalso; omega
          · refine lv_iload hx hb dX2_worstNow_38 (lv_at hl 1 rfl) ?_
            refine lv_goto (tgt := 44) hx hb dX2_worstNow_40 (by decide) ?_
            refine lv_istore_n (lv' := [(2, .int (nI (prt C P tx i (n - 1)))), (1, .int (nI i)), (4, .int (nI (prt C P tx i (n - 1)))), (0, .ref (h 0)), (3, .int (nI i))]) hx hb dX2_worstNow_44 rfl hl (by decide) rfl (fun ls hl => ?_)
            refine q_iinc (x := i) (z := i + 1) (lv' := [(3, .int (nI (i + 1))), (2, .int (nI (prt C P tx i (n - 1)))), (1, .int (nI i)), (4, .int (nI (prt C P tx i (n - 1)))), (0, .ref (h 0))]) hx hb dX2_worstNow_45 hl (k := 4) rfl (dd := 1) rfl (by omega) (by decide) rfl (fun ls hl => ?_)
            refine lv_goto (tgt := 7) hx hb dX2_worstNow_48 (by decide) ?_
            have e0 : (wst C P tx n (i + 1)) = (prt C P tx i (n - 1), i + 1) := if_pos (by omega)
            have e2 : wV (i + 1) = nI i := rfl
            exact ih7  (i + 1) _ _ _ (by omega) (by first | omega | assumption) hV (by rw [e0, e2]; exact lv_sub hl [4, 2, 1, 0] rfl)
  exact lp7 13 0 _ _ _ (by omega) (by first | omega | assumption) hV (lv_sub hl [3, 2, 1, 0] rfl)
abbrev rm_X2_worstLetter : Room := { frames := 4, cells := 0, slots := 0, locals := 91 }
set_option maxHeartbeats 4000000 in
set_option maxRecDepth 100000 in
theorem c_X2_worstLetter (l : Launch) (D : va_G) (h : Nat → Nat) (cA : ClassId) (n : Nat) (tx : Nat → Nat) (T : Nat) (C : Nat) (K : Nat) (P : Nat → Nat) (L : Nat → Nat) (u : Nat) (ua : Nat → Nat) (ub : Nat → Nat) (pm : Nat) (jm : Nat) (lm : Nat) (du : Nat) (lt : Nat) (hh : Int64)   (hn : n ≤ 60) (htx : ∀ i, tx i < 12) (hC : C ≤ 5) (hp : perm L P) : CTi l D cA yX2_worstLetter wsX2_worstLetter rm_X2_worstLetter [.ref (h 0)] (wD h cA n tx T C K P L u ua ub pm jm lm du lt hh) (fun r W1 => r = wV (wst C P tx n 12).2 ∧ W1 = wD h cA n tx T C K P L u ua ub pm jm lm du lt hh) := by
  refine CTi.mk (cc := cX2_worstLetter) (maxL := 1) (ret := some .int) (by decide) rfl (Nat.le_of_ble_eq_true rfl) ?_
  intro p e s m below meth c A ls E hV hl
  obtain ⟨hx, hb, hml, hr, hown, hts, hlocks, hK, hA, hN⟩ := E
  have hown : s.vm.findClass RX2 = some m.cls := hown
  have hin2 : ∀ w ∈ wsX20, w ∈ wsX2_worstLetter := fun _ h => List.mem_cons_of_mem _ (List.mem_append_right _ h)
  have hl : lv_has ls 1 [(0, .ref (h 0))] := hl
  refine lv_aload_n hx hb dX2_worstLetter_0 rfl (lv_at hl 0 rfl) ?_
  refine k_V_i (w0 := ([] : va_W)) (wc := wD h cA n tx T C K P L u ua ub pm jm lm du lt hh) (b := h 0) (As := []) (rest := []) hx hb hml hown hts hK hA hN hV hl.1 (c_X2_worstNow l D h cA n tx T C K P L u ua ub pm jm lm du lt hh   (by first | omega | assumption) (by first | omega | assumption) (by first | omega | assumption) (by first | omega | assumption)) gX2_worstLetter_X2_worstNow rfl rfl rfl hdX2_worstNow ⟨Nat.le_of_ble_eq_true rfl, Nat.le_of_ble_eq_true rfl⟩ 0 2 rfl rfl rfl rfl rfl (Nat.le_of_ble_eq_true rfl) dX2_worstLetter_1 ⟨Nat.zero_le _, Nat.zero_le _⟩ (fun r W1 H locs hp hV => ?_)
  obtain ⟨hp1, hp2⟩ := hp
  replace hp1 := hp1.symm
  subst hp1
  replace hp2 := hp2.symm
  subst hp2
  have hV : qV D A s.heap (wD h cA n tx T C K P L u ua ub pm jm lm du lt hh) H locs := hV
  exact q_iret (W1 := wD h cA n tx T C K P L u ua ub pm jm lm du lt hh) hx hb hr hlocks hV dX2_worstLetter_4 ⟨rfl, rfl⟩
