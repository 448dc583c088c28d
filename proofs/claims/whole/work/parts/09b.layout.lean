abbrev rm_X1_swap : Room := { frames := 3, cells := 0, slots := 0, locals := 67 }
set_option maxHeartbeats 4000000 in
set_option maxRecDepth 100000 in
theorem c_X1_swap (l : Launch) (D : va_G) (h : Nat → Nat) (ga : Nat) (gb : Nat) (cA : ClassId) (n : Nat) (tx : Nat → Nat) (T : Nat) (C : Nat) (K : Nat) (L : Nat → Nat) (P : Nat → Nat) (u : Nat) (ua : Nat → Nat) (ub : Nat → Nat) (v1 : Int32) (v2 : Int32)  (hn : n ≤ 60) (htx : ∀ i, tx i < 12) (hC : C ≤ 5) (hp : perm L P) (hu : u ≤ 30) : CTi l D cA yX1_swap wsX1_swap rm_X1_swap [.ref (h 0), .int v1, .int v2] (wC h ga gb cA n tx T C K L P u ua ub) (fun r W1 => r = aSw C tx n v1 v2 (L, P, u, ua, ub) ∧ W1 = wC h ga gb cA n tx T C K ((ySw v1 v2 (L, P, u, ua, ub)).1) ((ySw v1 v2 (L, P, u, ua, ub)).2.1) ((ySw v1 v2 (L, P, u, ua, ub)).2.2.1) ((ySw v1 v2 (L, P, u, ua, ub)).2.2.2.1) ((ySw v1 v2 (L, P, u, ua, ub)).2.2.2.2)) := by
  refine CTi.mk (cc := cX1_swap) (maxL := 4) (ret := some .int) (by decide) rfl (Nat.le_of_ble_eq_true rfl) ?_
  intro p e s m below meth c A ls E hV hl
  obtain ⟨hx, hb, hml, hr, hown, hts, hlocks, hK, hA, hN⟩ := E
  have hown : s.vm.findClass RX1 = some m.cls := hown
  have hin1 : ∀ w ∈ wsX10, w ∈ wsX1_swap := fun _ h => List.mem_cons_of_mem _ (List.mem_append_right _ h)
  have hl : lv_has ls 4 [(0, .ref (h 0)), (1, .int v1), (2, .int v2)] := hl
  refine lv_iload_n hx hb dX1_swap_0 rfl (lv_at hl 1 rfl) ?_
  refine lv_iload_n hx hb dX1_swap_1 rfl (lv_at hl 2 rfl) ?_
  refine k_S_i (w0 := wC h ga gb cA n tx T C K L P u ua ub) (wc := ([] : va_W)) (As := [.int v1, .int v2]) (rest := []) hx hb hml hown hts hK hA hN hV hl.1 (c_X1_swapError l D cA v1 v2  ) gX1_swap_X1_swapError rfl rfl rfl hdX1_swapError ⟨Nat.le_of_ble_eq_true rfl, Nat.le_of_ble_eq_true rfl⟩ rfl rfl (Nat.le_of_ble_eq_true rfl) dX1_swap_2 ⟨Nat.zero_le _, Nat.zero_le _⟩ (fun r W1 H locs hp hV => ?_)
  obtain ⟨hp1, hp2⟩ := hp
  replace hp1 := hp1.symm
  subst hp1
  replace hp2 := hp2.symm
  subst hp2
  have hV : qV D A s.heap (wC h ga gb cA n tx T C K L P u ua ub) H locs := hV
  refine lv_istore_n (lv' := [(3, .int (swErr v1 v2)), (0, .ref (h 0)), (1, .int v1), (2, .int v2)]) hx hb dX1_swap_5 rfl hl (by decide) rfl (fun ls hl => ?_)
  refine lv_iload_n hx hb dX1_swap_6 rfl (lv_at hl 0 rfl) ?_
  refine z_if_eq (tgt := 12) hx hb dX1_swap_7 (by decide) (fun c7 => ?_) (fun c7 => ?_)
  · obtain ⟨k1, k2, hk1, hk2, hne, rfl, rfl⟩ := swErr_0 c7
    refine lv_aload_n hx hb dX1_swap_12 rfl (lv_at hl 1 rfl) ?_
    refine lv_iload_n hx hb dX1_swap_13 rfl (lv_at hl 2 rfl) ?_
    refine lv_iload_n hx hb dX1_swap_14 rfl (lv_at hl 3 rfl) ?_
    refine k_V_v (w0 := ([] : va_W)) (wc := wC h ga gb cA n tx T C K L P u ua ub) (b := h 0) (As := [.int (nI k1), .int (nI k2)]) (rest := []) hx hb hml hown hts hK hA hN hV hl.1 (c_X1_makeSwap l D h ga gb cA n tx T C K L P u ua ub k1 k2  (by first | omega | assumption) (by first | omega | assumption) (by first | omega | assumption) (by first | omega | assumption)) gX1_swap_X1_makeSwap rfl rfl rfl hdX1_makeSwap ⟨Nat.le_of_ble_eq_true rfl, Nat.le_of_ble_eq_true rfl⟩ 0 1 rfl rfl rfl rfl rfl (Nat.le_of_ble_eq_true rfl) dX1_swap_15 ⟨Nat.zero_le _, Nat.zero_le _⟩ (fun W1 H locs hp hV => ?_)
    subst hp
    have hV : qV D A s.heap (wC h ga gb cA n tx T C K (exL L k1 k2) (exP L P k1 k2) (pshU u) (pshA ua u k1) (pshA ub u k2)) H locs := hV
    refine lv_aload_n hx hb dX1_swap_18 rfl (lv_at hl 1 rfl) ?_
    refine k_V_i (w0 := ([] : va_W)) (wc := wC h ga gb cA n tx T C K (exL L k1 k2) (exP L P k1 k2) (pshU u) (pshA ua u k1) (pshA ub u k2)) (b := h 0) (As := []) (rest := []) hx hb hml hown hts hK hA hN hV hl.1 (c_X1_cost l D h ga gb cA n tx T C K (exL L k1 k2) (exP L P k1 k2) (pshU u) (pshA ua u k1) (pshA ub u k2)   (by first | omega | assumption) (by first | omega | assumption) (by first | omega | assumption) (hp.ex hk1 hk2)) gX1_swap_X1_cost rfl rfl rfl hdX1_cost ⟨Nat.le_of_ble_eq_true rfl, Nat.le_of_ble_eq_true rfl⟩ 0 1 rfl rfl rfl rfl rfl (Nat.le_of_ble_eq_true rfl) dX1_swap_19 ⟨Nat.zero_le _, Nat.zero_le _⟩ (fun r W1 H locs hp hV => ?_)
    obtain ⟨hp1, hp2⟩ := hp
    replace hp1 := hp1.symm
    subst hp1
    replace hp2 := hp2.symm
    subst hp2
    have hV : qV D A s.heap (wC h ga gb cA n tx T C K (exL L k1 k2) (exP L P k1 k2) (pshU u) (pshA ua u k1) (pshA ub u k2)) H locs := hV
    have f1 := cst_lt (exP L P k1 k2) tx (j := n - 1) hC (by omega)
    exact q_iret (W1 := wC h ga gb cA n tx T C K (exL L k1 k2) (exP L P k1 k2) (pshU u) (pshA ua u k1) (pshA ub u k2)) hx hb hr hlocks hV dX1_swap_22 ⟨(aSw_ok hk1 hk2 hne (L, P, u, ua, ub)).symm, by rw [ySw_ok hk1 hk2 hne]; rfl⟩
  · refine lv_iload_n hx hb dX1_swap_10 rfl (lv_at hl 0 rfl) ?_
    exact q_iret (W1 := wC h ga gb cA n tx T C K L P u ua ub) hx hb hr hlocks hV dX1_swap_11 ⟨(aSw_no c7 _).symm, by rw [ySw_no c7]⟩
abbrev rm_X1_undo : Room := { frames := 3, cells := 0, slots := 0, locals := 66 }
set_option maxHeartbeats 4000000 in
set_option maxRecDepth 100000 in
theorem c_X1_undo (l : Launch) (D : va_G) (h : Nat → Nat) (ga : Nat) (gb : Nat) (cA : ClassId) (n : Nat) (tx : Nat → Nat) (T : Nat) (C : Nat) (K : Nat) (L : Nat → Nat) (P : Nat → Nat) (u : Nat) (ua : Nat → Nat) (ub : Nat → Nat)   (hn : n ≤ 60) (htx : ∀ i, tx i < 12) (hC : C ≤ 5) (hp : perm L P) (hu : u ≤ 30) (hua : ∀ i, ua i < 12) (hub : ∀ i, ub i < 12) : CTi l D cA yX1_undo wsX1_undo rm_X1_undo [.ref (h 0)] (wC h ga gb cA n tx T C K L P u ua ub) (fun r W1 => r = aUn C tx n (L, P, u, ua, ub) ∧ W1 = wC h ga gb cA n tx T C K ((yUn (L, P, u, ua, ub)).1) ((yUn (L, P, u, ua, ub)).2.1) ((yUn (L, P, u, ua, ub)).2.2.1) ((yUn (L, P, u, ua, ub)).2.2.2.1) ((yUn (L, P, u, ua, ub)).2.2.2.2)) := by
  refine CTi.mk (cc := cX1_undo) (maxL := 1) (ret := some .int) (by decide) rfl (Nat.le_of_ble_eq_true rfl) ?_
  intro p e s m below meth c A ls E hV hl
  obtain ⟨hx, hb, hml, hr, hown, hts, hlocks, hK, hA, hN⟩ := E
  have hown : s.vm.findClass RX1 = some m.cls := hown
  have hin1 : ∀ w ∈ wsX10, w ∈ wsX1_undo := fun _ h => List.mem_cons_of_mem _ (List.mem_append_right _ h)
  have hl : lv_has ls 1 [(0, .ref (h 0))] := hl
  refine lv_aload_n hx hb dX1_undo_0 rfl (lv_at hl 0 rfl) ?_
  refine q_get (C := RX1) (T := TX1) (N := 12) (ci := 1) (v := .int (nI u)) hx hb hts hin1 hown hK hV 0 rfl rfl 9 (by decide) (List.mem_of_getElem? (i := 1) rfl) rfl dX1_undo_1 ?_
  refine q_if_gt (x := u) (tgt := 10) hx hb dX1_undo_4 (by decide) (by omega) (fun c4 => ?_) (fun c4 => ?_)
  · refine lv_aload_n hx hb dX1_undo_10 rfl (lv_at hl 0 rfl) ?_
    refine lv_dup hx hb dX1_undo_11 rfl ?_
    refine q_get (C := RX1) (T := TX1) (N := 12) (ci := 1) (v := .int (nI u)) hx hb hts hin1 hown hK hV 0 rfl rfl 9 (by decide) (List.mem_of_getElem? (i := 1) rfl) rfl dX1_undo_12 ?_
    refine lv_iconst (v := nI 1) hx hb dX1_undo_15 (by decide) ?_
    refine q_isub2 (x := u) (y := 1) (z := (u - 1)) hx hb (by omega) dX1_undo_16 ?_
    refine q_put (C := RX1) (T := TX1) (N := 12) (ci := 1) (v := .int (nI (u - 1))) (wC h ga gb cA n tx T C K L P (u - 1) ua ub) hx hb hts hin1 tyX1 tyX1_ok nmX1 hown hK hV 0 rfl rfl 9 (by decide) (List.mem_of_getElem? (i := 1) rfl) rfl rfl rfl (Nat.le_of_ble_eq_true rfl) rfl dX1_undo_17 (fun H locs hV => ?_)
    refine lv_aload_n hx hb dX1_undo_20 rfl (lv_at hl 0 rfl) ?_
    refine lv_aload_n hx hb dX1_undo_21 rfl (lv_at hl 0 rfl) ?_
    refine q_get (C := RX1) (T := TX1) (N := 12) (ci := 1) (v := .ref (h 4)) hx hb hts hin1 hown hK hV 0 rfl rfl 7 (by decide) (List.mem_of_getElem? (i := 3) rfl) rfl dX1_undo_22 ?_
    refine lv_aload_n hx hb dX1_undo_25 rfl (lv_at hl 0 rfl) ?_
    refine q_get (C := RX1) (T := TX1) (N := 12) (ci := 1) (v := .int (nI (u - 1))) hx hb hts hin1 hown hK hV 0 rfl rfl 9 (by decide) (List.mem_of_getElem? (i := 1) rfl) rfl dX1_undo_26 ?_
    refine q_iald (n := 30) (k := (u - 1)) (f := ua) hx hb hK hV 4 rfl (by omega) (by omega) dX1_undo_29 ?_
    have f1 := hua (u - 1)
    refine lv_aload_n hx hb dX1_undo_30 rfl (lv_at hl 0 rfl) ?_
    refine q_get (C := RX1) (T := TX1) (N := 12) (ci := 1) (v := .ref (h 5)) hx hb hts hin1 hown hK hV 0 rfl rfl 8 (by decide) (List.mem_of_getElem? (i := 4) rfl) rfl dX1_undo_31 ?_
    refine lv_aload_n hx hb dX1_undo_34 rfl (lv_at hl 0 rfl) ?_
    refine q_get (C := RX1) (T := TX1) (N := 12) (ci := 1) (v := .int (nI (u - 1))) hx hb hts hin1 hown hK hV 0 rfl rfl 9 (by decide) (List.mem_of_getElem? (i := 1) rfl) rfl dX1_undo_35 ?_
    refine q_iald (n := 30) (k := (u - 1)) (f := ub) hx hb hK hV 5 rfl (by omega) (by omega) dX1_undo_38 ?_
    have f2 := hub (u - 1)
    refine k_V_v (w0 := ([] : va_W)) (wc := wC h ga gb cA n tx T C K L P (u - 1) ua ub) (b := h 0) (As := [.int (nI (ua (u - 1))), .int (nI (ub (u - 1)))]) (rest := []) hx hb hml hown hts hK hA hN hV hl.1 (c_X1_exchange l D h ga gb cA n tx T C K L P (u - 1) ua ub (ua (u - 1)) (ub (u - 1))  (by first | omega | assumption) (by first | omega | assumption) (by first | omega | assumption)) gX1_undo_X1_exchange rfl rfl rfl hdX1_exchange ⟨Nat.le_of_ble_eq_true rfl, Nat.le_of_ble_eq_true rfl⟩ 0 1 rfl rfl rfl rfl rfl (Nat.le_of_ble_eq_true rfl) dX1_undo_39 ⟨Nat.zero_le _, Nat.zero_le _⟩ (fun W1 H locs hp hV => ?_)
    subst hp
    have hV : qV D A s.heap (wC h ga gb cA n tx T C K (exL L (ua (u - 1)) (ub (u - 1))) (exP L P (ua (u - 1)) (ub (u - 1))) (u - 1) ua ub) H locs := hV
    refine lv_aload_n hx hb dX1_undo_42 rfl (lv_at hl 0 rfl) ?_
    refine k_V_i (w0 := ([] : va_W)) (wc := wC h ga gb cA n tx T C K (exL L (ua (u - 1)) (ub (u - 1))) (exP L P (ua (u - 1)) (ub (u - 1))) (u - 1) ua ub) (b := h 0) (As := []) (rest := []) hx hb hml hown hts hK hA hN hV hl.1 (c_X1_cost l D h ga gb cA n tx T C K (exL L (ua (u - 1)) (ub (u - 1))) (exP L P (ua (u - 1)) (ub (u - 1))) (u - 1) ua ub   (by first | omega | assumption) (by first | omega | assumption) (by first | omega | assumption) (hp.ex (by omega) (by omega))) gX1_undo_X1_cost rfl rfl rfl hdX1_cost ⟨Nat.le_of_ble_eq_true rfl, Nat.le_of_ble_eq_true rfl⟩ 0 1 rfl rfl rfl rfl rfl (Nat.le_of_ble_eq_true rfl) dX1_undo_43 ⟨Nat.zero_le _, Nat.zero_le _⟩ (fun r W1 H locs hp hV => ?_)
    obtain ⟨hp1, hp2⟩ := hp
    replace hp1 := hp1.symm
    subst hp1
    replace hp2 := hp2.symm
    subst hp2
    have hV : qV D A s.heap (wC h ga gb cA n tx T C K (exL L (ua (u - 1)) (ub (u - 1))) (exP L P (ua (u - 1)) (ub (u - 1))) (u - 1) ua ub) H locs := hV
    have f3 := cst_lt (exP L P (ua (u - 1)) (ub (u - 1))) tx (j := n - 1) hC (by omega)
    have e1 : ¬ (L, P, u, ua, ub).2.2.1 = 0 := by show ¬ u = 0; omega
    have e2 : yUn (L, P, u, ua, ub) = (exL L (ua (u - 1)) (ub (u - 1)), exP L P (ua (u - 1)) (ub (u - 1)), u - 1, ua, ub) := if_neg e1
    exact q_iret (W1 := wC h ga gb cA n tx T C K (exL L (ua (u - 1)) (ub (u - 1))) (exP L P (ua (u - 1)) (ub (u - 1))) (u - 1) ua ub) hx hb hr hlocks hV dX1_undo_46 ⟨by unfold aUn; rw [if_neg e1, e2], by rw [e2]⟩
  · refine lv_ldc (v := -1000006) hx hb hown (hts _ (List.mem_of_getElem? (i := 2) rfl)) dX1_undo_7 ?_
    have e1 : (L, P, u, ua, ub).2.2.1 = 0 := c4
    exact q_iret (W1 := wC h ga gb cA n tx T C K L P u ua ub) hx hb hr hlocks hV dX1_undo_9 ⟨by unfold aUn; rw [if_pos e1], by unfold yUn; rw [if_pos e1]⟩
abbrev rm_X1_undoCount : Room := { frames := 0, cells := 0, slots := 0, locals := 0 }
set_option maxHeartbeats 4000000 in
set_option maxRecDepth 100000 in
theorem c_X1_undoCount (l : Launch) (D : va_G) (h : Nat → Nat) (ga : Nat) (gb : Nat) (cA : ClassId) (n : Nat) (tx : Nat → Nat) (T : Nat) (C : Nat) (K : Nat) (L : Nat → Nat) (P : Nat → Nat) (u : Nat) (ua : Nat → Nat) (ub : Nat → Nat)    : CTi l D cA yX1_undoCount wsX1_undoCount rm_X1_undoCount [.ref (h 0)] (wC h ga gb cA n tx T C K L P u ua ub) (fun r W1 => r = nI u ∧ W1 = wC h ga gb cA n tx T C K L P u ua ub) := by
  refine CTi.mk (cc := cX1_undoCount) (maxL := 1) (ret := some .int) (by decide) rfl (Nat.le_of_ble_eq_true rfl) ?_
  intro p e s m below meth c A ls E hV hl
  obtain ⟨hx, hb, hml, hr, hown, hts, hlocks, hK, hA, hN⟩ := E
  have hown : s.vm.findClass RX1 = some m.cls := hown
  have hin1 : ∀ w ∈ wsX10, w ∈ wsX1_undoCount := fun _ h => List.mem_cons_of_mem _ (List.mem_append_right _ h)
  have hl : lv_has ls 1 [(0, .ref (h 0))] := hl
  refine lv_aload_n hx hb dX1_undoCount_0 rfl (lv_at hl 0 rfl) ?_
  refine q_get (C := RX1) (T := TX1) (N := 12) (ci := 1) (v := .int (nI u)) hx hb hts hin1 hown hK hV 0 rfl rfl 9 (by decide) (List.mem_of_getElem? (i := 1) rfl) rfl dX1_undoCount_1 ?_
  exact q_iret (W1 := wC h ga gb cA n tx T C K L P u ua ub) hx hb hr hlocks hV dX1_undoCount_4 ⟨rfl, rfl⟩
abbrev rm_X1_mirror : Room := { frames := 3, cells := 0, slots := 0, locals := 66 }
set_option maxHeartbeats 4000000 in
set_option maxRecDepth 100000 in
theorem c_X1_mirror (l : Launch) (D : va_G) (h : Nat → Nat) (ga : Nat) (gb : Nat) (cA : ClassId) (n : Nat) (tx : Nat → Nat) (T : Nat) (C : Nat) (K : Nat) (L : Nat → Nat) (P : Nat → Nat) (u : Nat) (ua : Nat → Nat) (ub : Nat → Nat)   (hn : n ≤ 60) (htx : ∀ i, tx i < 12) (hC : C ≤ 5) (hp : perm L P) : CTi l D cA yX1_mirror wsX1_mirror rm_X1_mirror [.ref (h 0)] (wC h ga gb cA n tx T C K L P u ua ub) (fun r W1 => r = nI (cst C (mir L P 6).2 tx (n - 1)) ∧ W1 = wC h ga gb cA n tx T C K ((mir L P 6).1) ((mir L P 6).2) 0 ua ub) := by
  refine CTi.mk (cc := cX1_mirror) (maxL := 2) (ret := some .int) (by decide) rfl (Nat.le_of_ble_eq_true rfl) ?_
  intro p e s m below meth c A ls E hV hl
  obtain ⟨hx, hb, hml, hr, hown, hts, hlocks, hK, hA, hN⟩ := E
  have hown : s.vm.findClass RX1 = some m.cls := hown
  have hin1 : ∀ w ∈ wsX10, w ∈ wsX1_mirror := fun _ h => List.mem_cons_of_mem _ (List.mem_append_right _ h)
  have hl : lv_has ls 2 [(0, .ref (h 0))] := hl
  refine lv_iconst (v := nI 0) hx hb dX1_mirror_0 (by decide) ?_
  refine lv_istore_n (lv' := [(1, .int (nI 0)), (0, .ref (h 0))]) hx hb dX1_mirror_1 rfl hl (by decide) rfl (fun ls hl => ?_)
  have lp2 : ∀ (d2 : Nat) (j : Nat) (H : Heap) (locs : List Loc) (ls : Array Slot), (7 ≤ j + d2) → (j ≤ 6) → qV D A s.heap (wC h ga gb cA n tx T C K ((mir L P j).1) ((mir L P j).2) u ua ub) H locs → lv_has ls 2 [(0, .ref (h 0)), (1, .int (nI j))] → W p l e rm_X1_mirror s m ([.ref (h 0)] : List Value).toArray below meth c H locs 0 0 (MQ below (va_Qi (fun r W1 => r = nI (cst C (mir L P 6).2 tx (n - 1)) ∧ W1 = wC h ga gb cA n tx T C K ((mir L P 6).1) ((mir L P 6).2) 0 ua ub) (cPost D A) A) ([.ref (h 0)] : List Value).toArray s 0 0 A) (F0 m 2 ls []) := by
    intro d2
    induction d2 with
    | zero => intro j H locs ls hm2 hj hV hl; exfalso; omega
    | succ d2 ih2 =>
      intro j H locs ls hm2 hj hV hl
      have hq := hp.mir j hj
      refine lv_iload_n hx hb dX1_mirror_2 rfl (lv_at hl 1 rfl) ?_
      refine lv_bipush (v := nI 6) hx hb dX1_mirror_3 (by decide) ?_
      refine q_icmp_ge (x := j) (y := 6) (tgt := 23) hx hb dX1_mirror_5 (by decide) (by omega) (by omega) (fun c5 => ?_) (fun c5 => ?_)
      · have ej : j = 6 := by omega
        subst ej
        refine lv_aload_n hx hb dX1_mirror_23 rfl (lv_at hl 0 rfl) ?_
        refine lv_iconst (v := nI 0) hx hb dX1_mirror_24 (by decide) ?_
        refine q_put (C := RX1) (T := TX1) (N := 12) (ci := 1) (v := .int (nI 0)) (wC h ga gb cA n tx T C K ((mir L P 6).1) ((mir L P 6).2) 0 ua ub) hx hb hts hin1 tyX1 tyX1_ok nmX1 hown hK hV 0 rfl rfl 9 (by decide) (List.mem_of_getElem? (i := 1) rfl) rfl rfl rfl (Nat.le_of_ble_eq_true rfl) rfl dX1_mirror_25 (fun H locs hV => ?_)
        refine lv_aload_n hx hb dX1_mirror_28 rfl (lv_at hl 0 rfl) ?_
        refine k_V_i (w0 := ([] : va_W)) (wc := wC h ga gb cA n tx T C K ((mir L P 6).1) ((mir L P 6).2) 0 ua ub) (b := h 0) (As := []) (rest := []) hx hb hml hown hts hK hA hN hV hl.1 (c_X1_cost l D h ga gb cA n tx T C K ((mir L P 6).1) ((mir L P 6).2) 0 ua ub   (by first | omega | assumption) (by first | omega | assumption) (by first | omega | assumption) hq) gX1_mirror_X1_cost rfl rfl rfl hdX1_cost ⟨Nat.le_of_ble_eq_true rfl, Nat.le_of_ble_eq_true rfl⟩ 0 1 rfl rfl rfl rfl rfl (Nat.le_of_ble_eq_true rfl) dX1_mirror_29 ⟨Nat.zero_le _, Nat.zero_le _⟩ (fun r W1 H locs hp hV => ?_)
        obtain ⟨hp1, hp2⟩ := hp
        replace hp1 := hp1.symm
        subst hp1
        replace hp2 := hp2.symm
        subst hp2
        have hV : qV D A s.heap (wC h ga gb cA n tx T C K ((mir L P 6).1) ((mir L P 6).2) 0 ua ub) H locs := hV
        have f1 := cst_lt ((mir L P 6).2) tx (j := n - 1) hC (by omega)
        exact q_iret (W1 := wC h ga gb cA n tx T C K ((mir L P 6).1) ((mir L P 6).2) 0 ua ub) hx hb hr hlocks hV dX1_mirror_32 ⟨rfl, rfl⟩
      · refine lv_aload_n hx hb dX1_mirror_8 rfl (lv_at hl 0 rfl) ?_
        refine lv_iload_n hx hb dX1_mirror_9 rfl (lv_at hl 1 rfl) ?_
        refine lv_bipush (v := nI 11) hx hb dX1_mirror_10 (by decide) ?_
        refine lv_iload_n hx hb dX1_mirror_12 rfl (lv_at hl 1 rfl) ?_
        refine q_isub2 (x := 11) (y := j) (z := (11 - j)) hx hb (by omega) dX1_mirror_13 ?_
        refine k_V_v (w0 := ([] : va_W)) (wc := wC h ga gb cA n tx T C K ((mir L P j).1) ((mir L P j).2) u ua ub) (b := h 0) (As := [.int (nI j), .int (nI (11 - j))]) (rest := []) hx hb hml hown hts hK hA hN hV hl.1 (c_X1_exchange l D h ga gb cA n tx T C K ((mir L P j).1) ((mir L P j).2) u ua ub j (11 - j)  (by first | omega | assumption) (by first | omega | assumption) hq) gX1_mirror_X1_exchange rfl rfl rfl hdX1_exchange ⟨Nat.le_of_ble_eq_true rfl, Nat.le_of_ble_eq_true rfl⟩ 0 1 rfl rfl rfl rfl rfl (Nat.le_of_ble_eq_true rfl) dX1_mirror_14 ⟨Nat.zero_le _, Nat.zero_le _⟩ (fun W1 H locs hp hV => ?_)
        subst hp
        have hV : qV D A s.heap (wC h ga gb cA n tx T C K (exL ((mir L P j).1) j (11 - j)) (exP ((mir L P j).1) ((mir L P j).2) j (11 - j)) u ua ub) H locs := hV
        refine q_iinc (x := j) (z := j + 1) (lv' := [(1, .int (nI (j + 1))), (0, .ref (h 0))]) hx hb dX1_mirror_17 hl (k := 1) rfl (dd := 1) rfl (by omega) (by decide) rfl (fun ls hl => ?_)
        refine lv_goto (tgt := 2) hx hb dX1_mirror_20 (by decide) ?_
        exact ih2  (j + 1) _ _ _ (by omega) (by first | omega | assumption) hV (lv_sub hl [1, 0] rfl)
  exact lp2 7 0 _ _ _ (by omega) (by first | omega | assumption) hV (lv_sub hl [1, 0] rfl)
abbrev rm_X1_gain : Room := { frames := 4, cells := 0, slots := 0, locals := 89 }
set_option maxHeartbeats 4000000 in
set_option maxRecDepth 100000 in
theorem c_X1_gain (l : Launch) (D : va_G) (h : Nat → Nat) (ga : Nat) (gb : Nat) (cA : ClassId) (n : Nat) (tx : Nat → Nat) (T : Nat) (C : Nat) (K : Nat) (L : Nat → Nat) (P : Nat → Nat) (u : Nat) (ua : Nat → Nat) (ub : Nat → Nat) (v1 : Int32) (v2 : Int32)  (hn : n ≤ 60) (htx : ∀ i, tx i < 12) (hC : C ≤ 5) (hp : perm L P) : CTi l D cA yX1_gain wsX1_gain rm_X1_gain [.ref (h 0), .int v1, .int v2] (wC h ga gb cA n tx T C K L P u ua ub) (fun r W1 => r = aGn C L P tx n v1 v2 ∧ W1 = wC h ga gb cA n tx T C K L P u ua ub) := by
  refine CTi.mk (cc := cX1_gain) (maxL := 4) (ret := some .int) (by decide) rfl (Nat.le_of_ble_eq_true rfl) ?_
  intro p e s m below meth c A ls E hV hl
  obtain ⟨hx, hb, hml, hr, hown, hts, hlocks, hK, hA, hN⟩ := E
  have hown : s.vm.findClass RX1 = some m.cls := hown
  have hin1 : ∀ w ∈ wsX10, w ∈ wsX1_gain := fun _ h => List.mem_cons_of_mem _ (List.mem_append_right _ h)
  have hl : lv_has ls 4 [(0, .ref (h 0)), (1, .int v1), (2, .int v2)] := hl
  refine lv_iload_n hx hb dX1_gain_0 rfl (lv_at hl 1 rfl) ?_
  refine lv_iload_n hx hb dX1_gain_1 rfl (lv_at hl 2 rfl) ?_
  refine k_S_i (w0 := wC h ga gb cA n tx T C K L P u ua ub) (wc := ([] : va_W)) (As := [.int v1, .int v2]) (rest := []) hx hb hml hown hts hK hA hN hV hl.1 (c_X1_swapError l D cA v1 v2  ) gX1_gain_X1_swapError rfl rfl rfl hdX1_swapError ⟨Nat.le_of_ble_eq_true rfl, Nat.le_of_ble_eq_true rfl⟩ rfl rfl (Nat.le_of_ble_eq_true rfl) dX1_gain_2 ⟨Nat.zero_le _, Nat.zero_le _⟩ (fun r W1 H locs hp hV => ?_)
  obtain ⟨hp1, hp2⟩ := hp
  replace hp1 := hp1.symm
  subst hp1
  replace hp2 := hp2.symm
  subst hp2
  have hV : qV D A s.heap (wC h ga gb cA n tx T C K L P u ua ub) H locs := hV
  refine lv_istore_n (lv' := [(3, .int (swErr v1 v2)), (0, .ref (h 0)), (1, .int v1), (2, .int v2)]) hx hb dX1_gain_5 rfl hl (by decide) rfl (fun ls hl => ?_)
  refine lv_iload_n hx hb dX1_gain_6 rfl (lv_at hl 0 rfl) ?_
  refine z_if_eq (tgt := 12) hx hb dX1_gain_7 (by decide) (fun c7 => ?_) (fun c7 => ?_)
  · obtain ⟨k1, k2, hk1, hk2, hne, rfl, rfl⟩ := swErr_0 c7
    refine lv_aload_n hx hb dX1_gain_12 rfl (lv_at hl 1 rfl) ?_
    refine k_V_i (w0 := ([] : va_W)) (wc := wC h ga gb cA n tx T C K L P u ua ub) (b := h 0) (As := []) (rest := []) hx hb hml hown hts hK hA hN hV hl.1 (c_X1_cost l D h ga gb cA n tx T C K L P u ua ub   (by first | omega | assumption) (by first | omega | assumption) (by first | omega | assumption) (by first | omega | assumption)) gX1_gain_X1_cost rfl rfl rfl hdX1_cost ⟨Nat.le_of_ble_eq_true rfl, Nat.le_of_ble_eq_true rfl⟩ 0 1 rfl rfl rfl rfl rfl (Nat.le_of_ble_eq_true rfl) dX1_gain_13 ⟨Nat.zero_le _, Nat.zero_le _⟩ (fun r W1 H locs hp hV => ?_)
    obtain ⟨hp1, hp2⟩ := hp
    replace hp1 := hp1.symm
    subst hp1
    replace hp2 := hp2.symm
    subst hp2
    have hV : qV D A s.heap (wC h ga gb cA n tx T C K L P u ua ub) H locs := hV
    have f1 := cst_lt P tx (j := n - 1) hC (by omega)
    refine lv_aload_n hx hb dX1_gain_16 rfl (lv_at hl 1 rfl) ?_
    refine lv_iload_n hx hb dX1_gain_17 rfl (lv_at hl 2 rfl) ?_
    refine lv_iload_n hx hb dX1_gain_18 rfl (lv_at hl 3 rfl) ?_
    refine k_V_i (w0 := ([] : va_W)) (wc := wC h ga gb cA n tx T C K L P u ua ub) (b := h 0) (As := [.int (nI k1), .int (nI k2)]) (rest := [.int (nI (cst C P tx (n - 1)))]) hx hb hml hown hts hK hA hN hV hl.1 (c_X1_costAfterSwap l D h ga gb cA n tx T C K L P u ua ub k1 k2  (by first | omega | assumption) (by first | omega | assumption) (by first | omega | assumption) (by first | omega | assumption) (by first | omega | assumption) (by first | omega | assumption)) gX1_gain_X1_costAfterSwap rfl rfl rfl hdX1_costAfterSwap ⟨Nat.le_of_ble_eq_true rfl, Nat.le_of_ble_eq_true rfl⟩ 0 1 rfl rfl rfl rfl rfl (Nat.le_of_ble_eq_true rfl) dX1_gain_19 ⟨Nat.zero_le _, Nat.zero_le _⟩ (fun r W1 H locs hp hV => ?_)
    obtain ⟨hp1, hp2⟩ := hp
    replace hp1 := hp1.symm
    subst hp1
    replace hp2 := hp2.symm
    subst hp2
    have hV : qV D A s.heap (wC h ga gb cA n tx T C K L P u ua ub) H locs := hV
    have f2 := caf_le L P tx k1 k2 hC hn
    refine lv_isub hx hb dX1_gain_22 ?_
    exact q_iret (W1 := wC h ga gb cA n tx T C K L P u ua ub) hx hb hr hlocks hV dX1_gain_23 ⟨(aGn_ok hk1 hk2 hne).symm, rfl⟩
  · refine lv_iload_n hx hb dX1_gain_10 rfl (lv_at hl 0 rfl) ?_
    exact q_iret (W1 := wC h ga gb cA n tx T C K L P u ua ub) hx hb hr hlocks hV dX1_gain_11 ⟨(aGn_no c7).symm, rfl⟩
abbrev rm_X1_bestSwap : Room := { frames := 4, cells := 0, slots := 0, locals := 89 }
set_option maxHeartbeats 4000000 in
set_option maxRecDepth 100000 in
theorem c_X1_bestSwap (l : Launch) (D : va_G) (h : Nat → Nat) (ga : Nat) (gb : Nat) (cA : ClassId) (n : Nat) (tx : Nat → Nat) (T : Nat) (C : Nat) (K : Nat) (L : Nat → Nat) (P : Nat → Nat) (u : Nat) (ua : Nat → Nat) (ub : Nat → Nat)   (hn : n ≤ 60) (htx : ∀ i, tx i < 12) (hC : C ≤ 5) (hp : perm L P) : CTi l D cA yX1_bestSwap wsX1_bestSwap rm_X1_bestSwap [.ref (h 0)] (wC h ga gb cA n tx T C K L P u ua ub) (fun r W1 => r = bV (bst C L P tx n) ∧ W1 = wC h ga gb cA n tx T C K L P u ua ub) := by
  refine CTi.mk (cc := cX1_bestSwap) (maxL := 6) (ret := some .int) (by decide) rfl (Nat.le_of_ble_eq_true rfl) ?_
  intro p e s m below meth c A ls E hV hl
  obtain ⟨hx, hb, hml, hr, hown, hts, hlocks, hK, hA, hN⟩ := E
  have hown : s.vm.findClass RX1 = some m.cls := hown
  have hin1 : ∀ w ∈ wsX10, w ∈ wsX1_bestSwap := fun _ h => List.mem_cons_of_mem _ (List.mem_append_right _ h)
  have hl : lv_has ls 6 [(0, .ref (h 0))] := hl
  refine lv_aload_n hx hb dX1_bestSwap_0 rfl (lv_at hl 0 rfl) ?_
  refine k_V_i (w0 := ([] : va_W)) (wc := wC h ga gb cA n tx T C K L P u ua ub) (b := h 0) (As := []) (rest := []) hx hb hml hown hts hK hA hN hV hl.1 (c_X1_cost l D h ga gb cA n tx T C K L P u ua ub   (by first | omega | assumption) (by first | omega | assumption) (by first | omega | assumption) (by first | omega | assumption)) gX1_bestSwap_X1_cost rfl rfl rfl hdX1_cost ⟨Nat.le_of_ble_eq_true rfl, Nat.le_of_ble_eq_true rfl⟩ 0 1 rfl rfl rfl rfl rfl (Nat.le_of_ble_eq_true rfl) dX1_bestSwap_1 ⟨Nat.zero_le _, Nat.zero_le _⟩ (fun r W1 H locs hp hV => ?_)
  obtain ⟨hp1, hp2⟩ := hp
  replace hp1 := hp1.symm
  subst hp1
  replace hp2 := hp2.symm
  subst hp2
  have hV : qV D A s.heap (wC h ga gb cA n tx T C K L P u ua ub) H locs := hV
  have f1 := cst_lt P tx (j := n - 1) hC (by omega)
  refine lv_istore_n (lv' := [(1, .int (nI (cst C P tx (n - 1)))), (0, .ref (h 0))]) hx hb dX1_bestSwap_4 rfl hl (by decide) rfl (fun ls hl => ?_)
  refine lv_ldc (v := -1000006) hx hb hown (hts _ (List.mem_of_getElem? (i := 1) rfl)) dX1_bestSwap_5 ?_
  refine lv_istore_n (lv' := [(2, .int (-1000006)), (1, .int (nI (cst C P tx (n - 1)))), (0, .ref (h 0))]) hx hb dX1_bestSwap_7 rfl hl (by decide) rfl (fun ls hl => ?_)
  refine lv_iconst (v := nI 0) hx hb dX1_bestSwap_8 (by decide) ?_
  refine lv_istore_n (lv' := [(3, .int (nI 0)), (2, .int (-1000006)), (1, .int (nI (cst C P tx (n - 1)))), (0, .ref (h 0))]) hx hb dX1_bestSwap_9 rfl hl (by decide) rfl (fun ls hl => ?_)
  have lp10 : ∀ (d10 : Nat) (i : Nat) (H : Heap) (locs : List Loc) (ls : Array Slot), (13 ≤ i + d10) → (i ≤ 12) → qV D A s.heap (wC h ga gb cA n tx T C K L P u ua ub) H locs → lv_has ls 6 [(0, .ref (h 0)), (1, .int (nI ((bO (caf C L P tx n) (cst C P tx (n - 1)) i).1))), (2, .int (bV (bO (caf C L P tx n) (cst C P tx (n - 1)) i).2)), (3, .int (nI i))] → W p l e rm_X1_bestSwap s m ([.ref (h 0)] : List Value).toArray below meth c H locs 0 0 (MQ below (va_Qi (fun r W1 => r = bV (bst C L P tx n) ∧ W1 = wC h ga gb cA n tx T C K L P u ua ub) (cPost D A) A) ([.ref (h 0)] : List Value).toArray s 0 0 A) (F0 m 10 ls []) := by
    intro d10
    induction d10 with
    | zero => intro i H locs ls hm10 hi hV hl; exfalso; omega
    | succ d10 ih10 =>
      intro i H locs ls hm10 hi hV hl
      refine lv_iload_n hx hb dX1_bestSwap_10 rfl (lv_at hl 3 rfl) ?_
      refine lv_bipush (v := nI 12) hx hb dX1_bestSwap_11 (by decide) ?_
      refine q_icmp_ge (x := i) (y := 12) (tgt := 66) hx hb dX1_bestSwap_13 (by decide) (by omega) (by omega) (fun c13 => ?_) (fun c13 => ?_)
      · refine lv_iload_n hx hb dX1_bestSwap_66 rfl (lv_at hl 2 rfl) ?_
        have ei : i = 12 := by omega
        subst ei
        exact q_iret (W1 := wC h ga gb cA n tx T C K L P u ua ub) hx hb hr hlocks hV dX1_bestSwap_67 ⟨rfl, rfl⟩
      · refine lv_iload_n hx hb dX1_bestSwap_16 rfl (lv_at hl 3 rfl) ?_
        refine lv_iconst (v := nI 1) hx hb dX1_bestSwap_17 (by decide) ?_
        refine q_iadd2 (x := i) (y := 1) (z := i + 1) hx hb (by omega) dX1_bestSwap_18 ?_
        refine lv_istore (lv' := [(4, .int (nI (i + 1))), (0, .ref (h 0)), (1, .int (nI ((bO (caf C L P tx n) (cst C P tx (n - 1)) i).1))), (2, .int (bV (bO (caf C L P tx n) (cst C P tx (n - 1)) i).2)), (3, .int (nI i))]) hx hb dX1_bestSwap_19 hl (by decide) rfl (fun ls hl => ?_)
        have lp21 : ∀ (d21 : Nat) (j : Nat) (H : Heap) (locs : List Loc) (ls : Array Slot), (13 ≤ i + 1 + j + d21) → (i + 1 + j ≤ 12) → qV D A s.heap (wC h ga gb cA n tx T C K L P u ua ub) H locs → lv_has ls 6 [(0, .ref (h 0)), (1, .int (nI ((bIn (caf C L P tx n) i (bO (caf C L P tx n) (cst C P tx (n - 1)) i) j).1))), (2, .int (bV (bIn (caf C L P tx n) i (bO (caf C L P tx n) (cst C P tx (n - 1)) i) j).2)), (3, .int (nI i)), (4, .int (nI (i + j + 1)))] → W p l e rm_X1_bestSwap s m ([.ref (h 0)] : List Value).toArray below meth c H locs 0 0 (MQ below (va_Qi (fun r W1 => r = bV (bst C L P tx n) ∧ W1 = wC h ga gb cA n tx T C K L P u ua ub) (cPost D A) A) ([.ref (h 0)] : List Value).toArray s 0 0 A) (F0 m 21 ls []) := by
          intro d21
          induction d21 with
          | zero => intro j H locs ls hm21 hj hV hl; exfalso; omega
          | succ d21 ih21 =>
            intro j H locs ls hm21 hj hV hl
            have f1 := bIn_le (caf C L P tx n) i (bO (caf C L P tx n) (cst C P tx (n - 1)) i) j
            have f2 := bO_le (caf C L P tx n) (cst C P tx (n - 1)) i
            have f3 := cst_lt P tx (j := n - 1) hC (by omega)
            refine lv_iload hx hb dX1_bestSwap_21 (lv_at hl 4 rfl) ?_
            refine lv_bipush (v := nI 12) hx hb dX1_bestSwap_23 (by decide) ?_
            refine q_icmp_ge (x := i + j + 1) (y := 12) (tgt := 60) hx hb dX1_bestSwap_25 (by decide) (by omega) (by omega) (fun c25 => ?_) (fun c25 => ?_)
            · have ej : j = 11 - i := by omega
              subst ej
              refine q_iinc (x := i) (z := i + 1) (lv' := [(3, .int (nI (i + 1))), (0, .ref (h 0)), (1, .int (nI ((bIn (caf C L P tx n) i (bO (caf C L P tx n) (cst C P tx (n - 1)) i) (11 - i)).1))), (2, .int (bV (bIn (caf C L P tx n) i (bO (caf C L P tx n) (cst C P tx (n - 1)) i) (11 - i)).2)), (4, .int (nI (i + (11 - i) + 1)))]) hx hb dX1_bestSwap_60 hl (k := 3) rfl (dd := 1) rfl (by omega) (by decide) rfl (fun ls hl => ?_)
              refine lv_goto (tgt := 10) hx hb dX1_bestSwap_63 (by decide) ?_
              exact ih10  (i + 1) _ _ _ (by omega) (by first | omega | assumption) hV (lv_sub hl [1, 2, 3, 0] rfl)
            · refine lv_aload_n hx hb dX1_bestSwap_28 rfl (lv_at hl 0 rfl) ?_
              refine lv_iload_n hx hb dX1_bestSwap_29 rfl (lv_at hl 3 rfl) ?_
              refine lv_iload hx hb dX1_bestSwap_30 (lv_at hl 4 rfl) ?_
              refine k_V_i (w0 := ([] : va_W)) (wc := wC h ga gb cA n tx T C K L P u ua ub) (b := h 0) (As := [.int (nI i), .int (nI (i + j + 1))]) (rest := []) hx hb hml hown hts hK hA hN hV hl.1 (c_X1_costAfterSwap l D h ga gb cA n tx T C K L P u ua ub i (i + j + 1)  (by first | omega | assumption) (by first | omega | assumption) (by first | omega | assumption) (by first | omega | assumption) (by first | omega | assumption) (by first | omega | assumption)) gX1_bestSwap_X1_costAfterSwap rfl rfl rfl hdX1_costAfterSwap ⟨Nat.le_of_ble_eq_true rfl, Nat.le_of_ble_eq_true rfl⟩ 0 1 rfl rfl rfl rfl rfl (Nat.le_of_ble_eq_true rfl) dX1_bestSwap_32 ⟨Nat.zero_le _, Nat.zero_le _⟩ (fun r W1 H locs hp hV => ?_)
              obtain ⟨hp1, hp2⟩ := hp
              replace hp1 := hp1.symm
              subst hp1
              replace hp2 := hp2.symm
              subst hp2
              have hV : qV D A s.heap (wC h ga gb cA n tx T C K L P u ua ub) H locs := hV
              have f2 := caf_le L P tx i (i + j + 1) hC hn
              refine lv_istore (lv' := [(5, .int (nI (caf C L P tx n i (i + j + 1)))), (0, .ref (h 0)), (1, .int (nI ((bIn (caf C L P tx n) i (bO (caf C L P tx n) (cst C P tx (n - 1)) i) j).1))), (2, .int (bV (bIn (caf C L P tx n) i (bO (caf C L P tx n) (cst C P tx (n - 1)) i) j).2)), (3, .int (nI i)), (4, .int (nI (i + j + 1)))]) hx hb dX1_bestSwap_35 hl (by decide) rfl (fun ls hl => ?_)
              refine lv_iload hx hb dX1_bestSwap_37 (lv_at hl 0 rfl) ?_
              refine lv_iload_n hx hb dX1_bestSwap_39 rfl (lv_at hl 2 rfl) ?_
              refine q_icmp_ge (x := (caf C L P tx n i (i + j + 1))) (y := ((bIn (caf C L P tx n) i (bO (caf C L P tx n) (cst C P tx (n - 1)) i) j).1)) (tgt := 54) hx hb dX1_bestSwap_40 (by decide) (by omega) (by omega) (fun c40 => ?_) (fun c40 => ?_)
              · refine q_iinc (x := i + j + 1) (z := i + j + 2) (lv' := [(4, .int (nI (i + j + 2))), (5, .int (nI (caf C L P tx n i (i + j + 1)))), (0, .ref (h 0)), (1, .int (nI ((bIn (caf C L P tx n) i (bO (caf C L P tx n) (cst C P tx (n - 1)) i) j).1))), (2, .int (bV (bIn (caf C L P tx n) i (bO (caf C L P tx n) (cst C P tx (n - 1)) i) j).2)), (3, .int (nI i))]) hx hb dX1_bestSwap_54 hl (k := 5) rfl (dd := 1) rfl (by omega) (by decide) rfl (fun ls hl => ?_)
                refine lv_goto (tgt := 21) hx hb dX1_bestSwap_57 (by decide) ?_
                have e0 : (bIn (caf C L P tx n) i (bO (caf C L P tx n) (cst C P tx (n - 1)) i) (j + 1)) = (bIn (caf C L P tx n) i (bO (caf C L P tx n) (cst C P tx (n - 1)) i) j) := if_neg (by omega)
                exact ih21  (j + 1) _ _ _ (by omega) (by first | omega | assumption) hV (by rw [e0]; exact lv_sub hl [2, 3, 4, 5, 0] rfl)
              · refine lv_iload hx hb dX1_bestSwap_43 (lv_at hl 0 rfl) ?_
                refine lv_istore_n (lv' := [(1, .int (nI (caf C L P tx n i (i + j + 1)))), (5, .int (nI (caf C L P tx n i (i + j + 1)))), (0, .ref (h 0)), (2, .int (bV (bIn (caf C L P tx n) i (bO (caf C L P tx n) (cst C P tx (n - 1)) i) j).2)), (3, .int (nI i)), (4, .int (nI (i + j + 1)))]) hx hb dX1_bestSwap_45 rfl hl (by decide) rfl (fun ls hl => ?_)
                refine lv_bipush (v := nI 100) hx hb dX1_bestSwap_46 (by decide) ?_
                refine lv_iload_n hx hb dX1_bestSwap_48 rfl (lv_at hl 4 rfl) ?_
                refine q_imul2 (x := 100) (y := i) (z := 100 * i) hx hb (by omega) dX1_bestSwap_49 ?_
                refine lv_iload hx hb dX1_bestSwap_50 (lv_at hl 5 rfl) ?_
                refine q_iadd2 (x := 100 * i) (y := i + j + 1) (z := 101 * i + j + 1) hx hb (by omega) dX1_bestSwap_52 ?_
                refine lv_istore_n (lv' := [(2, .int (nI (101 * i + j + 1))), (1, .int (nI (caf C L P tx n i (i + j + 1)))), (5, .int (nI (caf C L P tx n i (i + j + 1)))), (0, .ref (h 0)), (3, .int (nI i)), (4, .int (nI (i + j + 1)))]) hx hb dX1_bestSwap_53 rfl hl (by decide) rfl (fun ls hl => ?_)
                refine q_iinc (x := i + j + 1) (z := i + j + 2) (lv' := [(4, .int (nI (i + j + 2))), (2, .int (nI (101 * i + j + 1))), (1, .int (nI (caf C L P tx n i (i + j + 1)))), (5, .int (nI (caf C L P tx n i (i + j + 1)))), (0, .ref (h 0)), (3, .int (nI i))]) hx hb dX1_bestSwap_54 hl (k := 5) rfl (dd := 1) rfl (by omega) (by decide) rfl (fun ls hl => ?_)
                refine lv_goto (tgt := 21) hx hb dX1_bestSwap_57 (by decide) ?_
                have e0 : (bIn (caf C L P tx n) i (bO (caf C L P tx n) (cst C P tx (n - 1)) i) (j + 1)) = (caf C L P tx n i (i + j + 1), 100 * i + (i + j + 1)) := if_pos (by omega)
                have e2 : bV (100 * i + (i + j + 1)) = nI (101 * i + j + 1) := by rw [bV_nI (by omega)]; congr 1; omega
                exact ih21  (j + 1) _ _ _ (by omega) (by first | omega | assumption) hV (by rw [e0, e2]; exact lv_sub hl [4, 2, 1, 5, 0] rfl)
        exact lp21 13 0 _ _ _ (by omega) (by first | omega | assumption) hV (lv_sub hl [1, 2, 3, 4, 0] rfl)
  exact lp10 13 0 _ _ _ (by omega) (by first | omega | assumption) hV (lv_sub hl [3, 2, 1, 0] rfl)
abbrev rm_X1_closenessOf : Room := { frames := 2, cells := 0, slots := 0, locals := 44 }
set_option maxHeartbeats 4000000 in
set_option maxRecDepth 100000 in
theorem c_X1_closenessOf (l : Launch) (D : va_G) (h : Nat → Nat) (ga : Nat) (gb : Nat) (cA : ClassId) (n : Nat) (tx : Nat → Nat) (T : Nat) (C : Nat) (K : Nat) (L : Nat → Nat) (P : Nat → Nat) (u : Nat) (ua : Nat → Nat) (ub : Nat → Nat) (a : Nat)  (h_a : a < 12) (hn : n ≤ 60) (htx : ∀ i, tx i < 12) (hC : C ≤ 5) (hp : perm L P) : CTi l D cA yX1_closenessOf wsX1_closenessOf rm_X1_closenessOf [.ref (h 0), .int (nI a)] (wC h ga gb cA n tx T C K L P u ua ub) (fun r W1 => r = nI (prt C P tx a (n - 1)) ∧ W1 = wC h ga gb cA n tx T C K L P u ua ub) := by
  refine CTi.mk (cc := cX1_closenessOf) (maxL := 4) (ret := some .int) (by decide) rfl (Nat.le_of_ble_eq_true rfl) ?_
  intro p e s m below meth c A ls E hV hl
  obtain ⟨hx, hb, hml, hr, hown, hts, hlocks, hK, hA, hN⟩ := E
  have hown : s.vm.findClass RX1 = some m.cls := hown
  have hin1 : ∀ w ∈ wsX10, w ∈ wsX1_closenessOf := fun _ h => List.mem_cons_of_mem _ (List.mem_append_right _ h)
  have hl : lv_has ls 4 [(0, .ref (h 0)), (1, .int (nI a))] := hl
  refine lv_iconst (v := nI 0) hx hb dX1_closenessOf_0 (by decide) ?_
  refine lv_istore_n (lv' := [(2, .int (nI 0)), (0, .ref (h 0)), (1, .int (nI a))]) hx hb dX1_closenessOf_1 rfl hl (by decide) rfl (fun ls hl => ?_)
  refine lv_iconst (v := nI 1) hx hb dX1_closenessOf_2 (by decide) ?_
  refine lv_istore_n (lv' := [(3, .int (nI 1)), (2, .int (nI 0)), (0, .ref (h 0)), (1, .int (nI a))]) hx hb dX1_closenessOf_3 rfl hl (by decide) rfl (fun ls hl => ?_)
  have lp4 : ∀ (d4 : Nat) (j : Nat) (H : Heap) (locs : List Loc) (ls : Array Slot), (61 ≤ j + d4) → (j = 0 ∨ j + 1 ≤ n) → qV D A s.heap (wC h ga gb cA n tx T C K L P u ua ub) H locs → lv_has ls 4 [(0, .ref (h 0)), (1, .int (nI a)), (2, .int (nI (prt C P tx a j))), (3, .int (nI (j + 1)))] → W p l e rm_X1_closenessOf s m ([.ref (h 0), .int (nI a)] : List Value).toArray below meth c H locs 0 0 (MQ below (va_Qi (fun r W1 => r = nI (prt C P tx a (n - 1)) ∧ W1 = wC h ga gb cA n tx T C K L P u ua ub) (cPost D A) A) ([.ref (h 0), .int (nI a)] : List Value).toArray s 0 0 A) (F0 m 4 ls []) := by
    intro d4
    induction d4 with
    | zero => intro j H locs ls hm4 hj hV hl; exfalso; omega
    | succ d4 ih4 =>
      intro j H locs ls hm4 hj hV hl
      have g1 := prt_le C P tx a j
      have g2 := cst_lt P tx (j := j) hC (by omega)
      refine lv_iload_n hx hb dX1_closenessOf_4 rfl (lv_at hl 3 rfl) ?_
      refine lv_aload_n hx hb dX1_closenessOf_5 rfl (lv_at hl 0 rfl) ?_
      refine q_get (C := RX1) (T := TX1) (N := 12) (ci := 1) (v := .int (nI n)) hx hb hts hin1 hown hK hV 0 rfl rfl 1 (by decide) (List.mem_of_getElem? (i := 1) rfl) rfl dX1_closenessOf_6 ?_
      refine q_icmp_ge (x := j + 1) (y := n) (tgt := 61) hx hb dX1_closenessOf_9 (by decide) (by omega) (by omega) (fun c9 => ?_) (fun c9 => ?_)
      · refine lv_iload_n hx hb dX1_closenessOf_61 rfl (lv_at hl 2 rfl) ?_
        have ej : j = n - 1 := by omega
        exact q_iret (W1 := wC h ga gb cA n tx T C K L P u ua ub) hx hb hr hlocks hV dX1_closenessOf_62 ⟨by rw [ej], rfl⟩
      · refine lv_aload_n hx hb dX1_closenessOf_12 rfl (lv_at hl 0 rfl) ?_
        refine q_get (C := RX1) (T := TX1) (N := 12) (ci := 1) (v := .ref (h 1)) hx hb hts hin1 hown hK hV 0 rfl rfl 0 (by decide) (List.mem_of_getElem? (i := 2) rfl) rfl dX1_closenessOf_13 ?_
        refine lv_iload_n hx hb dX1_closenessOf_16 rfl (lv_at hl 3 rfl) ?_
        refine lv_iconst (v := nI 1) hx hb dX1_closenessOf_17 (by decide) ?_
        refine q_isub2 (x := j + 1) (y := 1) (z := j) hx hb (by omega) dX1_closenessOf_18 ?_
        refine q_iald (n := 60) (k := j) (f := tx) hx hb hK hV 1 rfl (by omega) (by omega) dX1_closenessOf_19 ?_
        have f1 := htx j
        refine lv_iload_n hx hb dX1_closenessOf_20 rfl (lv_at hl 1 rfl) ?_
        refine q_icmp_eq (x := (tx j)) (y := a) (tgt := 34) hx hb dX1_closenessOf_21 (by decide) (by omega) (by omega) (fun c21 => ?_) (fun c21 => ?_)
        · refine lv_iload_n hx hb dX1_closenessOf_34 rfl (lv_at hl 2 rfl) ?_
          refine lv_aload_n hx hb dX1_closenessOf_35 rfl (lv_at hl 0 rfl) ?_
          refine lv_aload_n hx hb dX1_closenessOf_36 rfl (lv_at hl 0 rfl) ?_
          refine q_get (C := RX1) (T := TX1) (N := 12) (ci := 1) (v := .ref (h 1)) hx hb hts hin1 hown hK hV 0 rfl rfl 0 (by decide) (List.mem_of_getElem? (i := 2) rfl) rfl dX1_closenessOf_37 ?_
          refine lv_iload_n hx hb dX1_closenessOf_40 rfl (lv_at hl 3 rfl) ?_
          refine lv_iconst (v := nI 1) hx hb dX1_closenessOf_41 (by decide) ?_
          refine q_isub2 (x := j + 1) (y := 1) (z := j) hx hb (by omega) dX1_closenessOf_42 ?_
          refine q_iald (n := 60) (k := j) (f := tx) hx hb hK hV 1 rfl (by omega) (by omega) dX1_closenessOf_43 ?_
          have f2 := htx j
          refine lv_aload_n hx hb dX1_closenessOf_44 rfl (lv_at hl 0 rfl) ?_
          refine q_get (C := RX1) (T := TX1) (N := 12) (ci := 1) (v := .ref (h 1)) hx hb hts hin1 hown hK hV 0 rfl rfl 0 (by decide) (List.mem_of_getElem? (i := 2) rfl) rfl dX1_closenessOf_45 ?_
          refine lv_iload_n hx hb dX1_closenessOf_48 rfl (lv_at hl 3 rfl) ?_
          refine q_iald (n := 60) (k := j + 1) (f := tx) hx hb hK hV 1 rfl (by omega) (by omega) dX1_closenessOf_49 ?_
          have f3 := htx (j + 1)
          refine k_V_i (w0 := ([] : va_W)) (wc := wC h ga gb cA n tx T C K L P u ua ub) (b := h 0) (As := [.int (nI (tx j)), .int (nI (tx (j + 1)))]) (rest := [.int (nI (prt C P tx a j))]) hx hb hml hown hts hK hA hN hV hl.1 (c_X1_closeness l D h ga gb cA n tx T C K L P u ua ub (tx j) (tx (j + 1))  (by first | omega | assumption) (by first | omega | assumption) (by first | omega | assumption) (by first | omega | assumption)) gX1_closenessOf_X1_closeness rfl rfl rfl hdX1_closeness ⟨Nat.le_of_ble_eq_true rfl, Nat.le_of_ble_eq_true rfl⟩ 0 1 rfl rfl rfl rfl rfl (Nat.le_of_ble_eq_true rfl) dX1_closenessOf_50 ⟨Nat.zero_le _, Nat.zero_le _⟩ (fun r W1 H locs hp hV => ?_)
          obtain ⟨hp1, hp2⟩ := hp
          replace hp1 := hp1.symm
          subst hp1
          replace hp2 := hp2.symm
          subst hp2
          have hV : qV D A s.heap (wC h ga gb cA n tx T C K L P u ua ub) H locs := hV
          have f4 := clos_le C P (tx j) (tx (j + 1))
          refine q_iadd2 (x := (prt C P tx a j)) (y := (clos C P (tx j) (tx (j + 1)))) (z := (prt C P tx a j) + (clos C P (tx j) (tx (j + 1)))) hx hb (by omega) dX1_closenessOf_53 ?_
          refine lv_istore_n (lv' := [(2, .int (nI ((prt C P tx a j) + (clos C P (tx j) (tx (j + 1)))))), (0, .ref (h 0)), (1, .int (nI a)), (3, .int (nI (j + 1)))]) hx hb dX1_closenessOf_54 rfl hl (by decide) rfl (fun ls hl => ?_)
          refine q_iinc (x := j + 1) (z := j + 2) (lv' := [(3, .int (nI (j + 2))), (2, .int (nI ((prt C P tx a j) + (clos C P (tx j) (tx (j + 1)))))), (0, .ref (h 0)), (1, .int (nI a))]) hx hb dX1_closenessOf_55 hl (k := 3) rfl (dd := 1) rfl (by omega) (by decide) rfl (fun ls hl => ?_)
          refine lv_goto (tgt := 4) hx hb dX1_closenessOf_58 (by decide) ?_
          have e1 : prt C P tx a (j + 1) = (prt C P tx a j) + (clos C P (tx j) (tx (j + 1))) := by show prt C P tx a j + _ = _; rw [if_pos (by omega)]
          exact ih4  (j + 1) _ _ _ (by omega) (by first | omega | assumption) hV (by rw [e1]; exact lv_sub hl [2, 3, 1, 0] rfl)
        · refine lv_aload_n hx hb dX1_closenessOf_24 rfl (lv_at hl 0 rfl) ?_
          refine q_get (C := RX1) (T := TX1) (N := 12) (ci := 1) (v := .ref (h 1)) hx hb hts hin1 hown hK hV 0 rfl rfl 0 (by decide) (List.mem_of_getElem? (i := 2) rfl) rfl dX1_closenessOf_25 ?_
          refine lv_iload_n hx hb dX1_closenessOf_28 rfl (lv_at hl 3 rfl) ?_
          refine q_iald (n := 60) (k := j + 1) (f := tx) hx hb hK hV 1 rfl (by omega) (by omega) dX1_closenessOf_29 ?_
          have f5 := htx (j + 1)
          refine lv_iload_n hx hb dX1_closenessOf_30 rfl (lv_at hl 1 rfl) ?_
          refine q_icmp_ne (x := (tx (j + 1))) (y := a) (tgt := 55) hx hb dX1_closenessOf_31 (by decide) (by omega) (by omega) (fun c31 => ?_) (fun c31 => ?_)
          · refine q_iinc (x := j + 1) (z := j + 2) (lv' := [(3, .int (nI (j + 2))), (0, .ref (h 0)), (1, .int (nI a)), (2, .int (nI (prt C P tx a j)))]) hx hb dX1_closenessOf_55 hl (k := 3) rfl (dd := 1) rfl (by omega) (by decide) rfl (fun ls hl => ?_)
            refine lv_goto (tgt := 4) hx hb dX1_closenessOf_58 (by decide) ?_
            have e1 : prt C P tx a (j + 1) = (prt C P tx a j) := by show prt C P tx a j + _ = _; rw [if_neg (by omega), Nat.add_zero]
            exact ih4  (j + 1) _ _ _ (by omega) (by first | omega | assumption) hV (by rw [e1]; exact lv_sub hl [1, 2, 3, 0] rfl)
          · refine lv_iload_n hx hb dX1_closenessOf_34 rfl (lv_at hl 2 rfl) ?_
            refine lv_aload_n hx hb dX1_closenessOf_35 rfl (lv_at hl 0 rfl) ?_
            refine lv_aload_n hx hb dX1_closenessOf_36 rfl (lv_at hl 0 rfl) ?_
            refine q_get (C := RX1) (T := TX1) (N := 12) (ci := 1) (v := .ref (h 1)) hx hb hts hin1 hown hK hV 0 rfl rfl 0 (by decide) (List.mem_of_getElem? (i := 2) rfl) rfl dX1_closenessOf_37 ?_
            refine lv_iload_n hx hb dX1_closenessOf_40 rfl (lv_at hl 3 rfl) ?_
            refine lv_iconst (v := nI 1) hx hb dX1_closenessOf_41 (by decide) ?_
            refine q_isub2 (x := j + 1) (y := 1) (z := j) hx hb (by omega) dX1_closenessOf_42 ?_
            refine q_iald (n := 60) (k := j) (f := tx) hx hb hK hV 1 rfl (by omega) (by omega) dX1_closenessOf_43 ?_
            have f6 := htx j
            refine lv_aload_n hx hb dX1_closenessOf_44 rfl (lv_at hl 0 rfl) ?_
            refine q_get (C := RX1) (T := TX1) (N := 12) (ci := 1) (v := .ref (h 1)) hx hb hts hin1 hown hK hV 0 rfl rfl 0 (by decide) (List.mem_of_getElem? (i := 2) rfl) rfl dX1_closenessOf_45 ?_
            refine lv_iload_n hx hb dX1_closenessOf_48 rfl (lv_at hl 3 rfl) ?_
            refine q_iald (n := 60) (k := j + 1) (f := tx) hx hb hK hV 1 rfl (by omega) (by omega) dX1_closenessOf_49 ?_
            have f7 := htx (j + 1)
            refine k_V_i (w0 := ([] : va_W)) (wc := wC h ga gb cA n tx T C K L P u ua ub) (b := h 0) (As := [.int (nI (tx j)), .int (nI (tx (j + 1)))]) (rest := [.int (nI (prt C P tx a j))]) hx hb hml hown hts hK hA hN hV hl.1 (c_X1_closeness l D h ga gb cA n tx T C K L P u ua ub (tx j) (tx (j + 1))  (by first | omega | assumption) (by first | omega | assumption) (by first | omega | assumption) (by first | omega | assumption)) gX1_closenessOf_X1_closeness rfl rfl rfl hdX1_closeness ⟨Nat.le_of_ble_eq_true rfl, Nat.le_of_ble_eq_true rfl⟩ 0 1 rfl rfl rfl rfl rfl (Nat.le_of_ble_eq_true rfl) dX1_closenessOf_50 ⟨Nat.zero_le _, Nat.zero_le _⟩ (fun r W1 H locs hp hV => ?_)
            obtain ⟨hp1, hp2⟩ := hp
            replace hp1 := hp1.symm
            subst hp1
            replace hp2 := hp2.symm
            subst hp2
            have hV : qV D A s.heap (wC h ga gb cA n tx T C K L P u ua ub) H locs := hV
            have f8 := clos_le C P (tx j) (tx (j + 1))
            refine q_iadd2 (x := (prt C P tx a j)) (y := (clos C P (tx j) (tx (j + 1)))) (z := (prt C P tx a j) + (clos C P (tx j) (tx (j + 1)))) hx hb (by omega) dX1_closenessOf_53 ?_
            refine lv_istore_n (lv' := [(2, .int (nI ((prt C P tx a j) + (clos C P (tx j) (tx (j + 1)))))), (0, .ref (h 0)), (1, .int (nI a)), (3, .int (nI (j + 1)))]) hx hb dX1_closenessOf_54 rfl hl (by decide) rfl (fun ls hl => ?_)
            refine q_iinc (x := j + 1) (z := j + 2) (lv' := [(3, .int (nI (j + 2))), (2, .int (nI ((prt C P tx a j) + (clos C P (tx j) (tx (j + 1)))))), (0, .ref (h 0)), (1, .int (nI a))]) hx hb dX1_closenessOf_55 hl (k := 3) rfl (dd := 1) rfl (by omega) (by decide) rfl (fun ls hl => ?_)
            refine lv_goto (tgt := 4) hx hb dX1_closenessOf_58 (by decide) ?_
            have e1 : prt C P tx a (j + 1) = (prt C P tx a j) + (clos C P (tx j) (tx (j + 1))) := by show prt C P tx a j + _ = _; rw [if_pos (by omega)]
            exact ih4  (j + 1) _ _ _ (by omega) (by first | omega | assumption) hV (by rw [e1]; exact lv_sub hl [2, 3, 1, 0] rfl)
  exact lp4 61 0 _ _ _ (by omega) (by first | omega | assumption) hV (lv_sub hl [2, 3, 1, 0] rfl)
abbrev rm_X1_worstLetter : Room := { frames := 3, cells := 0, slots := 0, locals := 67 }
set_option maxHeartbeats 4000000 in
set_option maxRecDepth 100000 in
theorem c_X1_worstLetter (l : Launch) (D : va_G) (h : Nat → Nat) (ga : Nat) (gb : Nat) (cA : ClassId) (n : Nat) (tx : Nat → Nat) (T : Nat) (C : Nat) (K : Nat) (L : Nat → Nat) (P : Nat → Nat) (u : Nat) (ua : Nat → Nat) (ub : Nat → Nat)   (hn : n ≤ 60) (htx : ∀ i, tx i < 12) (hC : C ≤ 5) (hp : perm L P) : CTi l D cA yX1_worstLetter wsX1_worstLetter rm_X1_worstLetter [.ref (h 0)] (wC h ga gb cA n tx T C K L P u ua ub) (fun r W1 => r = wV (wst C P tx n 12).2 ∧ W1 = wC h ga gb cA n tx T C K L P u ua ub) := by
  refine CTi.mk (cc := cX1_worstLetter) (maxL := 5) (ret := some .int) (by decide) rfl (Nat.le_of_ble_eq_true rfl) ?_
  intro p e s m below meth c A ls E hV hl
  obtain ⟨hx, hb, hml, hr, hown, hts, hlocks, hK, hA, hN⟩ := E
  have hown : s.vm.findClass RX1 = some m.cls := hown
  have hin1 : ∀ w ∈ wsX10, w ∈ wsX1_worstLetter := fun _ h => List.mem_cons_of_mem _ (List.mem_append_right _ h)
  have hl : lv_has ls 5 [(0, .ref (h 0))] := hl
  refine lv_iconst (v := nI 0) hx hb dX1_worstLetter_0 (by decide) ?_
  refine lv_istore_n (lv' := [(1, .int (nI 0)), (0, .ref (h 0))]) hx hb dX1_worstLetter_1 rfl hl (by decide) rfl (fun ls hl => ?_)
  refine lv_ldc (v := -1000006) hx hb hown (hts _ (List.mem_of_getElem? (i := 1) rfl)) dX1_worstLetter_2 ?_
  refine lv_istore_n (lv' := [(2, .int (-1000006)), (1, .int (nI 0)), (0, .ref (h 0))]) hx hb dX1_worstLetter_4 rfl hl (by decide) rfl (fun ls hl => ?_)
  refine lv_iconst (v := nI 0) hx hb dX1_worstLetter_5 (by decide) ?_
  refine lv_istore_n (lv' := [(3, .int (nI 0)), (2, .int (-1000006)), (1, .int (nI 0)), (0, .ref (h 0))]) hx hb dX1_worstLetter_6 rfl hl (by decide) rfl (fun ls hl => ?_)
  have lp7 : ∀ (d7 : Nat) (i : Nat) (H : Heap) (locs : List Loc) (ls : Array Slot), (13 ≤ i + d7) → (i ≤ 12) → qV D A s.heap (wC h ga gb cA n tx T C K L P u ua ub) H locs → lv_has ls 5 [(0, .ref (h 0)), (1, .int (nI ((wst C P tx n i).1))), (2, .int (wV (wst C P tx n i).2)), (3, .int (nI i))] → W p l e rm_X1_worstLetter s m ([.ref (h 0)] : List Value).toArray below meth c H locs 0 0 (MQ below (va_Qi (fun r W1 => r = wV (wst C P tx n 12).2 ∧ W1 = wC h ga gb cA n tx T C K L P u ua ub) (cPost D A) A) ([.ref (h 0)] : List Value).toArray s 0 0 A) (F0 m 7 ls []) := by
    intro d7
    induction d7 with
    | zero => intro i H locs ls hm7 hi hV hl; exfalso; omega
    | succ d7 ih7 =>
      intro i H locs ls hm7 hi hV hl
      have g1 := wst_le P tx hC hn i
      refine lv_iload_n hx hb dX1_worstLetter_7 rfl (lv_at hl 3 rfl) ?_
      refine lv_bipush (v := nI 12) hx hb dX1_worstLetter_8 (by decide) ?_
      refine q_icmp_ge (x := i) (y := 12) (tgt := 37) hx hb dX1_worstLetter_10 (by decide) (by omega) (by omega) (fun c10 => ?_) (fun c10 => ?_)
      · refine lv_iload_n hx hb dX1_worstLetter_37 rfl (lv_at hl 2 rfl) ?_
        have ei : i = 12 := by omega
        subst ei
        exact q_iret (W1 := wC h ga gb cA n tx T C K L P u ua ub) hx hb hr hlocks hV dX1_worstLetter_38 ⟨rfl, rfl⟩
      · refine lv_aload_n hx hb dX1_worstLetter_13 rfl (lv_at hl 0 rfl) ?_
        refine lv_iload_n hx hb dX1_worstLetter_14 rfl (lv_at hl 3 rfl) ?_
        refine k_V_i (w0 := ([] : va_W)) (wc := wC h ga gb cA n tx T C K L P u ua ub) (b := h 0) (As := [.int (nI i)]) (rest := []) hx hb hml hown hts hK hA hN hV hl.1 (c_X1_closenessOf l D h ga gb cA n tx T C K L P u ua ub i  (by first | omega | assumption) (by first | omega | assumption) (by first | omega | assumption) (by first | omega | assumption) (by first | omega | assumption)) gX1_worstLetter_X1_closenessOf rfl rfl rfl hdX1_closenessOf ⟨Nat.le_of_ble_eq_true rfl, Nat.le_of_ble_eq_true rfl⟩ 0 1 rfl rfl rfl rfl rfl (Nat.le_of_ble_eq_true rfl) dX1_worstLetter_15 ⟨Nat.zero_le _, Nat.zero_le _⟩ (fun r W1 H locs hp hV => ?_)
        obtain ⟨hp1, hp2⟩ := hp
        replace hp1 := hp1.symm
        subst hp1
        replace hp2 := hp2.symm
        subst hp2
        have hV : qV D A s.heap (wC h ga gb cA n tx T C K L P u ua ub) H locs := hV
        have f1 := Nat.le_trans (prt_le C P tx i (n - 1)) (cst_lt P tx (j := n - 1) hC (by omega))
        refine lv_istore (lv' := [(4, .int (nI (prt C P tx i (n - 1)))), (0, .ref (h 0)), (1, .int (nI ((wst C P tx n i).1))), (2, .int (wV (wst C P tx n i).2)), (3, .int (nI i))]) hx hb dX1_worstLetter_18 hl (by decide) rfl (fun ls hl => ?_)
        refine lv_iload hx hb dX1_worstLetter_20 (lv_at hl 0 rfl) ?_
        refine lv_iload_n hx hb dX1_worstLetter_22 rfl (lv_at hl 2 rfl) ?_
        refine q_icmp_le (x := (prt C P tx i (n - 1))) (y := ((wst C P tx n i).1)) (tgt := 31) hx hb dX1_worstLetter_23 (by decide) (by omega) (by omega) (fun c23 => ?_) (fun c23 => ?_)
        · refine q_iinc (x := i) (z := i + 1) (lv' := [(3, .int (nI (i + 1))), (4, .int (nI (prt C P tx i (n - 1)))), (0, .ref (h 0)), (1, .int (nI ((wst C P tx n i).1))), (2, .int (wV (wst C P tx n i).2))]) hx hb dX1_worstLetter_31 hl (k := 4) rfl (dd := 1) rfl (by omega) (by decide) rfl (fun ls hl => ?_)
          refine lv_goto (tgt := 7) hx hb dX1_worstLetter_34 (by decide) ?_
          have e0 : (wst C P tx n (i + 1)) = (wst C P tx n i) := if_neg (by omega)
          exact ih7  (i + 1) _ _ _ (by omega) (by first | omega | assumption) hV (by rw [e0]; exact lv_sub hl [2, 3, 4, 0] rfl)
        · refine lv_iload hx hb dX1_worstLetter_26 (lv_at hl 0 rfl) ?_
          refine lv_istore_n (lv' := [(1, .int (nI (prt C P tx i (n - 1)))), (4, .int (nI (prt C P tx i (n - 1)))), (0, .ref (h 0)), (2, .int (wV (wst C P tx n i).2)), (3, .int (nI i))]) hx hb dX1_worstLetter_28 rfl hl (by decide) rfl (fun ls hl => ?_)
          refine lv_iload_n hx hb dX1_worstLetter_29 rfl (lv_at hl 4 rfl) ?_
          refine lv_istore_n (lv' := [(2, .int (nI i)), (1, .int (nI (prt C P tx i (n - 1)))), (4, .int (nI (prt C P tx i (n - 1)))), (0, .ref (h 0)), (3, .int (nI i))]) hx hb dX1_worstLetter_30 rfl hl (by decide) rfl (fun ls hl => ?_)
          refine q_iinc (x := i) (z := i + 1) (lv' := [(3, .int (nI (i + 1))), (2, .int (nI i)), (1, .int (nI (prt C P tx i (n - 1)))), (4, .int (nI (prt C P tx i (n - 1)))), (0, .ref (h 0))]) hx hb dX1_worstLetter_31 hl (k := 4) rfl (dd := 1) rfl (by omega) (by decide) rfl (fun ls hl => ?_)
          refine lv_goto (tgt := 7) hx hb dX1_worstLetter_34 (by decide) ?_
          have e0 : (wst C P tx n (i + 1)) = (prt C P tx i (n - 1), i + 1) := if_pos (by omega)
          have e2 : wV (i + 1) = nI i := rfl
          exact ih7  (i + 1) _ _ _ (by omega) (by first | omega | assumption) hV (by rw [e0, e2]; exact lv_sub hl [4, 2, 1, 0] rfl)
  exact lp7 13 0 _ _ _ (by omega) (by first | omega | assumption) hV (lv_sub hl [3, 2, 1, 0] rfl)
