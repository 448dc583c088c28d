abbrev rm_X1_strike : Room := { frames := 2, cells := 0, slots := 0, locals := 49 }
set_option maxHeartbeats 4000000 in
set_option maxRecDepth 100000 in
theorem c_X1_strike (l : Launch) (D : va_G) (h : Nat → Nat) (ga : Nat) (gb : Nat) (cA : ClassId) (n : Nat) (tx : Nat → Nat) (T : Nat) (C : Nat) (K : Nat) (P : Nat → Nat) (u : Nat) (g : Nat → Nat) (pm : Nat) (jm : Nat) (lm : Nat) (du : Nat) (pr : Nat → Nat) (ja : Nat → Nat) (rt : Nat → Nat) (ks : Nat) (t : Nat)  (h_k : ks < 60) (htx : ∀ i, tx i < 12) (hP12 : ∀ i, i < 12 → P i < 12) (hC : C ≤ 5) (hT : T ≤ 20) (h_t : t < 536870912) (h_R : ∀ q, rt q < 1073741824) (h_pm : pm < 60) (h_jm : jm < 60) (h_lm : lm < 60) : CTi l D cA yX1_strike wsX1_strike rm_X1_strike [.ref (h 0), .ref (g 0), .int (nI ks), .int (nI t)] ((wB h ga gb cA n tx T C K P u) ++ (wT g cA pm jm lm du pr ja rt)) (fun r W1 => r = nI (if oc1 C t rt (P (tx ks)) = 1 then 1 else 0) ∧ W1 = (wB h ga gb cA n tx T C K P u) ++ (wT g cA (if oc1 C t rt (P (tx ks)) = 0 then pm + 1 else pm) (if oc1 C t rt (P (tx ks)) = 1 then jm + 1 else jm) (if oc1 C t rt (P (tx ks)) = 0 ∨ oc1 C t rt (P (tx ks)) = 1 then lm else lm + 1) du (if oc1 C t rt (P (tx ks)) = 0 then up pr pm (tx ks) else pr) (if oc1 C t rt (P (tx ks)) = 1 then up ja jm ks else ja) (rn1 C T t rt (P (tx ks))))) := by
  refine CTi.mk (cc := cX1_strike) (maxL := 6) (ret := some .boolean) (by decide) rfl (Nat.le_of_ble_eq_true rfl) ?_
  intro p e s m below meth c A ls E hV hl
  obtain ⟨hx, hb, hml, hr, hown, hts, hlocks, hK, hA, hN⟩ := E
  have hown : s.vm.findClass RX1 = some m.cls := hown
  have hin1 : ∀ w ∈ wsX10, w ∈ wsX1_strike := fun _ h => List.mem_cons_of_mem _ (List.mem_append_left _ (List.mem_append_right _ h))
  have hin0 : ∀ w ∈ wsX00, w ∈ wsX1_strike := fun _ h => List.mem_cons_of_mem _ (List.mem_append_right _ h)
  have hl : lv_has ls 6 [(0, .ref (h 0)), (1, .ref (g 0)), (2, .int (nI ks)), (3, .int (nI t))] := hl
  refine lv_aload_n hx hb dX1_strike_0 rfl (lv_at hl 0 rfl) ?_
  refine q_get (C := RX1) (T := TX1) (N := 12) (ci := 1) (v := .ref (h 1)) hx hb hts hin1 hown hK hV 0 rfl rfl 0 (by decide) (List.mem_of_getElem? (i := 1) rfl) rfl dX1_strike_1 ?_
  refine lv_iload_n hx hb dX1_strike_4 rfl (lv_at hl 2 rfl) ?_
  refine q_iald (n := 60) (k := ks) (f := tx) hx hb hK hV 1 rfl (by omega) (by omega) dX1_strike_5 ?_
  have f1 := htx ks
  refine lv_istore (lv' := [(4, .int (nI (tx ks))), (0, .ref (h 0)), (1, .ref (g 0)), (2, .int (nI ks)), (3, .int (nI t))]) hx hb dX1_strike_6 hl (by decide) rfl (fun ls hl => ?_)
  refine lv_aload_n hx hb dX1_strike_8 rfl (lv_at hl 1 rfl) ?_
  refine q_get (C := RX1) (T := TX1) (N := 12) (ci := 1) (v := .ref (h 3)) hx hb hts hin1 hown hK hV 0 rfl rfl 6 (by decide) (List.mem_of_getElem? (i := 2) rfl) rfl dX1_strike_9 ?_
  refine lv_iload hx hb dX1_strike_12 (lv_at hl 0 rfl) ?_
  refine q_iald (n := 12) (k := (tx ks)) (f := P) hx hb hK hV 2 rfl (by omega) (by omega) dX1_strike_14 ?_
  have f2 := hP12 (tx ks) (by omega)
  refine lv_istore (lv' := [(5, .int (nI (P (tx ks)))), (4, .int (nI (tx ks))), (0, .ref (h 0)), (1, .ref (g 0)), (2, .int (nI ks)), (3, .int (nI t))]) hx hb dX1_strike_15 hl (by decide) rfl (fun ls hl => ?_)
  refine lv_aload_n hx hb dX1_strike_17 rfl (lv_at hl 3 rfl) ?_
  refine lv_iload hx hb dX1_strike_18 (lv_at hl 0 rfl) ?_
  refine lv_iload_n hx hb dX1_strike_20 rfl (lv_at hl 5 rfl) ?_
  refine k_N_i (w0 := wB h ga gb cA n tx T C K P u) (wc := wT g cA pm jm lm du pr ja rt) (b := g 0) (As := [.int (nI (P (tx ks))), .int (nI t)]) (rest := []) hx hb hml hown hts hK hA hN hV hl.1 (c_X0_inMotion l D g cA pm jm lm du pr ja rt (P (tx ks)) t  (by first | omega | assumption) (by first | omega | assumption) (by first | omega | assumption)) gX1_strike_X0_inMotion_n156 rfl rfl rfl (List.mem_of_getElem? (i := 9) rfl) (List.mem_of_getElem? (i := 6) rfl) (List.mem_of_getElem? (i := 5) rfl) (List.mem_of_getElem? (i := 7) rfl) hdnX0_inMotion ⟨Nat.le_of_ble_eq_true rfl, Nat.le_of_ble_eq_true rfl⟩ 3 0 rfl rfl rfl rfl rfl (Nat.le_of_ble_eq_true rfl) dX1_strike_21 ⟨Nat.zero_le _, Nat.zero_le _⟩ (fun r W1 H locs hp hV => ?_)
  obtain ⟨hp1, hp2⟩ := hp
  replace hp1 := hp1.symm
  subst hp1
  replace hp2 := hp2.symm
  subst hp2
  have hV : qV D A s.heap ((wB h ga gb cA n tx T C K P u) ++ (wT g cA pm jm lm du pr ja rt)) H locs := hV
  have f3 := ite_le (t < rt (P (tx ks)))
  refine q_if_eq (x := (if t < rt (P (tx ks)) then 1 else 0)) (tgt := 39) hx hb dX1_strike_24 (by decide) (by omega) (fun c24 => ?_) (fun c24 => ?_)
  · have c24 := ite0 c24
    refine lv_aload_n hx hb dX1_strike_39 rfl (lv_at hl 3 rfl) ?_
    refine lv_iload hx hb dX1_strike_40 (lv_at hl 0 rfl) ?_
    refine lv_aload_n hx hb dX1_strike_42 rfl (lv_at hl 2 rfl) ?_
    refine q_get (C := RX1) (T := TX1) (N := 12) (ci := 1) (v := .int (nI C)) hx hb hts hin1 hown hK hV 0 rfl rfl 3 (by decide) (List.mem_of_getElem? (i := 3) rfl) rfl dX1_strike_43 ?_
    refine lv_iload_n hx hb dX1_strike_46 rfl (lv_at hl 5 rfl) ?_
    refine k_N_i (w0 := wB h ga gb cA n tx T C K P u) (wc := wT g cA pm jm lm du pr ja rt) (b := g 0) (As := [.int (nI (P (tx ks))), .int (nI C), .int (nI t)]) (rest := []) hx hb hml hown hts hK hA hN hV hl.1 (c_X0_stopAround l D g cA pm jm lm du pr ja rt (P (tx ks)) C t  (by first | omega | assumption) (by first | omega | assumption) (by first | omega | assumption) (by first | omega | assumption)) gX1_strike_X0_stopAround_n160 rfl rfl rfl (List.mem_of_getElem? (i := 10) rfl) (List.mem_of_getElem? (i := 6) rfl) (List.mem_of_getElem? (i := 10) rfl) (List.mem_of_getElem? (i := 11) rfl) hdnX0_stopAround ⟨Nat.le_of_ble_eq_true rfl, Nat.le_of_ble_eq_true rfl⟩ 3 0 rfl rfl rfl rfl rfl (Nat.le_of_ble_eq_true rfl) dX1_strike_47 ⟨Nat.zero_le _, Nat.zero_le _⟩ (fun r W1 H locs hp hV => ?_)
    obtain ⟨hp1, hp2⟩ := hp
    replace hp1 := hp1.symm
    subst hp1
    replace hp2 := hp2.symm
    subst hp2
    have hV : qV D A s.heap ((wB h ga gb cA n tx T C K P u) ++ (wT g cA pm jm lm du pr ja (stpR C (P (tx ks)) t rt))) H locs := hV
    have f4 := jamF_le C (P (tx ks)) t rt 12
    refine q_if_eq (x := (jamF C (P (tx ks)) t rt 12)) (tgt := 60) hx hb dX1_strike_50 (by decide) (by omega) (fun c50 => ?_) (fun c50 => ?_)
    · refine lv_aload_n hx hb dX1_strike_60 rfl (lv_at hl 3 rfl) ?_
      refine lv_iload hx hb dX1_strike_61 (lv_at hl 1 rfl) ?_
      refine k_N_v (w0 := wB h ga gb cA n tx T C K P u) (wc := wT g cA pm jm lm du pr ja (stpR C (P (tx ks)) t rt)) (b := g 0) (As := [.int (nI (tx ks))]) (rest := []) hx hb hml hown hts hK hA hN hV hl.1 (c_X0_addPrinted l D g cA pm jm lm du pr ja (stpR C (P (tx ks)) t rt) (tx ks)  (by first | omega | assumption)) gX1_strike_X0_addPrinted_n168 rfl rfl rfl (List.mem_of_getElem? (i := 12) rfl) (List.mem_of_getElem? (i := 6) rfl) (List.mem_of_getElem? (i := 26) rfl) (List.mem_of_getElem? (i := 27) rfl) hdnX0_addPrinted ⟨Nat.le_of_ble_eq_true rfl, Nat.le_of_ble_eq_true rfl⟩ 3 0 rfl rfl rfl rfl rfl (Nat.le_of_ble_eq_true rfl) dX1_strike_63 ⟨Nat.zero_le _, Nat.zero_le _⟩ (fun W1 H locs hp hV => ?_)
      subst hp
      have hV : qV D A s.heap ((wB h ga gb cA n tx T C K P u) ++ (wT g cA (pm + 1) jm lm du (up pr pm (tx ks)) ja (stpR C (P (tx ks)) t rt))) H locs := hV
      refine lv_aload_n hx hb dX1_strike_66 rfl (lv_at hl 3 rfl) ?_
      refine q_getN (C := RX0) (T := TX0) (N := 7) (ci := 0) (v := .ref (g 3)) hx hb hts hin0 hown hK hV 3 rfl rfl 6 (by decide) hN (List.mem_of_getElem? (i := 7) rfl) rfl dX1_strike_67 ?_
      refine lv_iload hx hb dX1_strike_70 (lv_at hl 0 rfl) ?_
      refine lv_iload_n hx hb dX1_strike_72 rfl (lv_at hl 5 rfl) ?_
      refine lv_aload_n hx hb dX1_strike_73 rfl (lv_at hl 2 rfl) ?_
      refine q_get (C := RX1) (T := TX1) (N := 12) (ci := 1) (v := .int (nI T)) hx hb hts hin1 hown hK hV 0 rfl rfl 2 (by decide) (List.mem_of_getElem? (i := 4) rfl) rfl dX1_strike_74 ?_
      refine q_iadd2 (x := t) (y := T) (z := t + T) hx hb (by omega) dX1_strike_77 ?_
      refine q_iast (n := 12) (k := (P (tx ks))) (v := t + T) (f := (stpR C (P (tx ks)) t rt)) ((wB h ga gb cA n tx T C K P u) ++ (wT g cA (pm + 1) jm lm du (up pr pm (tx ks)) ja (up (stpR C (P (tx ks)) t rt) (P (tx ks)) (t + T)))) hx hb hK hV 6 rfl (by omega) (by decide) rfl dX1_strike_78 (fun H locs hV => ?_)
      refine lv_iconst (v := nI 0) hx hb dX1_strike_79 (by decide) ?_
      have e1 : oc1 C t rt (P (tx ks)) = 0 := oc1_0 c24 (by omega)
      have e2 : rn1 C T t rt (P (tx ks)) = up (stpR C (P (tx ks)) t rt) (P (tx ks)) (t + T) := rn1_0 c24 (by omega)
      exact q_zret (W1 := (wB h ga gb cA n tx T C K P u) ++ (wT g cA (pm + 1) jm lm du (up pr pm (tx ks)) ja (up (stpR C (P (tx ks)) t rt) (P (tx ks)) (t + T)))) hx hb hr hlocks hV dX1_strike_80 (by first | rfl | exact nb01 (by omega)) ⟨by rw [e1]; rfl, by rw [e1, e2]; rfl⟩
    · refine lv_aload_n hx hb dX1_strike_53 rfl (lv_at hl 3 rfl) ?_
      refine lv_iload_n hx hb dX1_strike_54 rfl (lv_at hl 4 rfl) ?_
      refine k_N_v (w0 := wB h ga gb cA n tx T C K P u) (wc := wT g cA pm jm lm du pr ja (stpR C (P (tx ks)) t rt)) (b := g 0) (As := [.int (nI ks)]) (rest := []) hx hb hml hown hts hK hA hN hV hl.1 (c_X0_addJammed l D g cA pm jm lm du pr ja (stpR C (P (tx ks)) t rt) ks  (by first | omega | assumption)) gX1_strike_X0_addJammed_n164 rfl rfl rfl (List.mem_of_getElem? (i := 11) rfl) (List.mem_of_getElem? (i := 6) rfl) (List.mem_of_getElem? (i := 21) rfl) (List.mem_of_getElem? (i := 22) rfl) hdnX0_addJammed ⟨Nat.le_of_ble_eq_true rfl, Nat.le_of_ble_eq_true rfl⟩ 3 0 rfl rfl rfl rfl rfl (Nat.le_of_ble_eq_true rfl) dX1_strike_55 ⟨Nat.zero_le _, Nat.zero_le _⟩ (fun W1 H locs hp hV => ?_)
      subst hp
      have hV : qV D A s.heap ((wB h ga gb cA n tx T C K P u) ++ (wT g cA pm (jm + 1) lm du pr (up ja jm ks) (stpR C (P (tx ks)) t rt))) H locs := hV
      refine lv_iconst (v := nI 1) hx hb dX1_strike_58 (by decide) ?_
      have e1 : oc1 C t rt (P (tx ks)) = 1 := oc1_1 c24 (by omega)
      have e2 : rn1 C T t rt (P (tx ks)) = stpR C (P (tx ks)) t rt := rn1_1 c24 (by omega)
      exact q_zret (W1 := (wB h ga gb cA n tx T C K P u) ++ (wT g cA pm (jm + 1) lm du pr (up ja jm ks) (stpR C (P (tx ks)) t rt))) hx hb hr hlocks hV dX1_strike_59 (by first | rfl | exact nb01 (by omega)) ⟨by rw [e1]; rfl, by rw [e1, e2]; rfl⟩
  · have c24 := ite1 c24
    refine lv_aload_n hx hb dX1_strike_27 rfl (lv_at hl 3 rfl) ?_
    refine lv_dup hx hb dX1_strike_28 rfl ?_
    refine q_getN (C := RX0) (T := TX0) (N := 7) (ci := 0) (v := .int (nI lm)) hx hb hts hin0 hown hK hV 3 rfl rfl 4 (by decide) hN (List.mem_of_getElem? (i := 5) rfl) rfl dX1_strike_29 ?_
    refine lv_iconst (v := nI 1) hx hb dX1_strike_32 (by decide) ?_
    refine q_iadd2 (x := lm) (y := 1) (z := lm + 1) hx hb (by omega) dX1_strike_33 ?_
    refine q_putN (C := RX0) (T := TX0) (N := 7) (ci := 0) (v := .int (nI (lm + 1))) ((wB h ga gb cA n tx T C K P u) ++ (wT g cA pm jm (lm + 1) du pr ja rt)) hx hb hts hin0 tyX0 tyX0_ok nmX0 hown hK hV 3 rfl rfl 4 (by decide) hN (List.mem_of_getElem? (i := 5) rfl) rfl rfl rfl (Nat.le_of_ble_eq_true rfl) rfl dX1_strike_34 (fun H locs hV => ?_)
    refine lv_iconst (v := nI 0) hx hb dX1_strike_37 (by decide) ?_
    have e1 : oc1 C t rt (P (tx ks)) = 2 := oc1_2 c24
    have e2 : rn1 C T t rt (P (tx ks)) = rt := rn1_2 c24
    exact q_zret (W1 := (wB h ga gb cA n tx T C K P u) ++ (wT g cA pm jm (lm + 1) du pr ja rt)) hx hb hr hlocks hV dX1_strike_38 (by first | rfl | exact nb01 (by omega)) ⟨by rw [e1]; rfl, by rw [e1, e2]; rfl⟩
abbrev rm_X1_typeText : Room := { frames := 3, cells := 0, slots := 0, locals := 74 }
set_option maxHeartbeats 4000000 in
set_option maxRecDepth 100000 in
theorem c_X1_typeText (l : Launch) (D : va_G) (h : Nat → Nat) (ga : Nat) (gb : Nat) (cA : ClassId) (n : Nat) (tx : Nat → Nat) (T : Nat) (C : Nat) (K : Nat) (P : Nat → Nat) (u : Nat) (g : Nat → Nat) (pm : Nat) (jm : Nat) (lm : Nat) (du : Nat) (pr : Nat → Nat) (ja : Nat → Nat) (rt : Nat → Nat) (iv : Nat)  (hn : n ≤ 60) (htx : ∀ i, tx i < 12) (hP12 : ∀ i, i < 12 → P i < 12) (hC : C ≤ 5) (hT : T ≤ 20) (hK5 : K ≤ 50) (hiv : iv ≤ 30) : CTv l D cA yX1_typeText wsX1_typeText rm_X1_typeText [.ref (h 0), .ref (g 0), .int (nI iv)] ((wB h ga gb cA n tx T C K P u) ++ (wT g cA pm jm lm du pr ja rt)) (fun W1 => W1 = (wB h ga gb cA n tx T C K P u) ++ (wT g cA (pmF (oc tx P T C K iv) n) (jmF (oc tx P T C K iv) n) (lmF (oc tx P T C K iv) n) (duF tx P T C K iv n) (prF (oc tx P T C K iv) tx pr n) (jaF (oc tx P T C K iv) ja n) ((tyS tx P T C K iv n).1))) := by
  refine CTv.mk (cc := cX1_typeText) (maxL := 6) (ret := none) (by decide) rfl (Nat.le_of_ble_eq_true rfl) ?_
  intro p e s m below meth c A ls E hV hl
  obtain ⟨hx, hb, hml, hr, hown, hts, hlocks, hK, hA, hN⟩ := E
  have hown : s.vm.findClass RX1 = some m.cls := hown
  have hin1 : ∀ w ∈ wsX10, w ∈ wsX1_typeText := fun _ h => List.mem_cons_of_mem _ (List.mem_append_left _ (List.mem_append_right _ h))
  have hin0 : ∀ w ∈ wsX00, w ∈ wsX1_typeText := fun _ h => List.mem_cons_of_mem _ (List.mem_append_right _ h)
  have hl : lv_has ls 6 [(0, .ref (h 0)), (1, .ref (g 0)), (2, .int (nI iv))] := hl
  refine lv_aload_n hx hb dX1_typeText_0 rfl (lv_at hl 1 rfl) ?_
  refine k_N_v (w0 := wB h ga gb cA n tx T C K P u) (wc := wT g cA pm jm lm du pr ja rt) (b := g 0) (As := []) (rest := []) hx hb hml hown hts hK hA hN hV hl.1 (c_X0_begin l D g cA pm jm lm du pr ja rt   ) gX1_typeText_X0_begin_n149 rfl rfl rfl (List.mem_of_getElem? (i := 8) rfl) (List.mem_of_getElem? (i := 5) rfl) (List.mem_of_getElem? (i := 4) rfl) (List.mem_of_getElem? (i := 6) rfl) hdnX0_begin ⟨Nat.le_of_ble_eq_true rfl, Nat.le_of_ble_eq_true rfl⟩ 3 0 rfl rfl rfl rfl rfl (Nat.le_of_ble_eq_true rfl) dX1_typeText_1 ⟨Nat.zero_le _, Nat.zero_le _⟩ (fun W1 H locs hp hV => ?_)
  subst hp
  have hV : qV D A s.heap ((wB h ga gb cA n tx T C K P u) ++ (wT g cA 0 0 0 0 pr ja (fun _ => 0))) H locs := hV
  refine lv_iconst (v := nI 0) hx hb dX1_typeText_4 (by decide) ?_
  refine lv_istore_n (lv' := [(3, .int (nI 0)), (0, .ref (h 0)), (1, .ref (g 0)), (2, .int (nI iv))]) hx hb dX1_typeText_5 rfl hl (by decide) rfl (fun ls hl => ?_)
  refine lv_iconst (v := nI 0) hx hb dX1_typeText_6 (by decide) ?_
  refine lv_istore (lv' := [(4, .int (nI 0)), (3, .int (nI 0)), (0, .ref (h 0)), (1, .ref (g 0)), (2, .int (nI iv))]) hx hb dX1_typeText_7 hl (by decide) rfl (fun ls hl => ?_)
  have lp9 : ∀ (d9 : Nat) (j : Nat) (H : Heap) (locs : List Loc) (ls : Array Slot), (61 ≤ j + d9) → (j ≤ n) → qV D A s.heap ((wB h ga gb cA n tx T C K P u) ++ (wT g cA (pmF (oc tx P T C K iv) j) (jmF (oc tx P T C K iv) j) (lmF (oc tx P T C K iv) j) (duF tx P T C K iv j) (prF (oc tx P T C K iv) tx pr j) (jaF (oc tx P T C K iv) ja j) ((tyS tx P T C K iv j).1))) H locs → lv_has ls 6 [(0, .ref (h 0)), (1, .ref (g 0)), (2, .int (nI iv)), (3, .int (nI ((tyS tx P T C K iv j).2))), (4, .int (nI j))] → W p l e rm_X1_typeText s m ([.ref (h 0), .ref (g 0), .int (nI iv)] : List Value).toArray below meth c H locs 0 0 (MQ below (va_Qv (fun W1 => W1 = (wB h ga gb cA n tx T C K P u) ++ (wT g cA (pmF (oc tx P T C K iv) n) (jmF (oc tx P T C K iv) n) (lmF (oc tx P T C K iv) n) (duF tx P T C K iv n) (prF (oc tx P T C K iv) tx pr n) (jaF (oc tx P T C K iv) ja n) ((tyS tx P T C K iv n).1))) (cPost D A) A) ([.ref (h 0), .ref (g 0), .int (nI iv)] : List Value).toArray s 0 0 A) (F0 m 9 ls []) := by
    intro d9
    induction d9 with
    | zero => intro j H locs ls hm9 hj hV hl; exfalso; omega
    | succ d9 ih9 =>
      intro j H locs ls hm9 hj hV hl
      obtain ⟨g1, g2⟩ := tyS_le (tx := tx) (P := P) (C := C) hT hK5 hiv j
      have g3 := pmF_le (oc tx P T C K iv) j
      have g4 := jmF_le (oc tx P T C K iv) j
      have g5 := lmF_le (oc tx P T C K iv) j
      refine lv_iload hx hb dX1_typeText_9 (lv_at hl 4 rfl) ?_
      refine lv_aload_n hx hb dX1_typeText_11 rfl (lv_at hl 0 rfl) ?_
      refine q_get (C := RX1) (T := TX1) (N := 12) (ci := 1) (v := .int (nI n)) hx hb hts hin1 hown hK hV 0 rfl rfl 1 (by decide) (List.mem_of_getElem? (i := 1) rfl) rfl dX1_typeText_12 ?_
      refine q_icmp_ge (x := j) (y := n) (tgt := 62) hx hb dX1_typeText_15 (by decide) (by omega) (by omega) (fun c15 => ?_) (fun c15 => ?_)
      · have ej : n = j := by omega
        subst ej
        exact q_vret (W1 := (wB h ga gb cA n tx T C K P u) ++ (wT g cA (pmF (oc tx P T C K iv) n) (jmF (oc tx P T C K iv) n) (lmF (oc tx P T C K iv) n) (duF tx P T C K iv n) (prF (oc tx P T C K iv) tx pr n) (jaF (oc tx P T C K iv) ja n) ((tyS tx P T C K iv n).1))) hx hb hr hlocks hV dX1_typeText_62 rfl
      · refine lv_aload_n hx hb dX1_typeText_18 rfl (lv_at hl 0 rfl) ?_
        refine lv_aload_n hx hb dX1_typeText_19 rfl (lv_at hl 1 rfl) ?_
        refine lv_iload hx hb dX1_typeText_20 (lv_at hl 4 rfl) ?_
        refine lv_iload_n hx hb dX1_typeText_22 rfl (lv_at hl 3 rfl) ?_
        refine k_V_i (w0 := ([] : va_W)) (wc := (wB h ga gb cA n tx T C K P u) ++ (wT g cA (pmF (oc tx P T C K iv) j) (jmF (oc tx P T C K iv) j) (lmF (oc tx P T C K iv) j) (duF tx P T C K iv j) (prF (oc tx P T C K iv) tx pr j) (jaF (oc tx P T C K iv) ja j) ((tyS tx P T C K iv j).1))) (b := h 0) (As := [.ref (g 0), .int (nI j), .int (nI ((tyS tx P T C K iv j).2))]) (rest := []) hx hb hml hown hts hK hA hN hV hl.1 (c_X1_strike l D h ga gb cA n tx T C K P u g (pmF (oc tx P T C K iv) j) (jmF (oc tx P T C K iv) j) (lmF (oc tx P T C K iv) j) (duF tx P T C K iv j) (prF (oc tx P T C K iv) tx pr j) (jaF (oc tx P T C K iv) ja j) ((tyS tx P T C K iv j).1) j ((tyS tx P T C K iv j).2)  (by first | omega | assumption) (by first | omega | assumption) (by first | omega | assumption) (by first | omega | assumption) (by first | omega | assumption) (by first | omega | assumption) (fun q => by have := g2 q; omega) (by first | omega | assumption) (by first | omega | assumption) (by first | omega | assumption)) gX1_typeText_X1_strike rfl rfl rfl hdX1_strike ⟨Nat.le_of_ble_eq_true rfl, Nat.le_of_ble_eq_true rfl⟩ 0 1 rfl rfl rfl rfl rfl (Nat.le_of_ble_eq_true rfl) dX1_typeText_23 ⟨Nat.zero_le _, Nat.zero_le _⟩ (fun r W1 H locs hp hV => ?_)
        obtain ⟨hp1, hp2⟩ := hp
        replace hp1 := hp1.symm
        subst hp1
        replace hp2 := hp2.symm
        subst hp2
        have hV : qV D A s.heap ((wB h ga gb cA n tx T C K P u) ++ (wT g cA (if oc1 C ((tyS tx P T C K iv j).2) ((tyS tx P T C K iv j).1) (P (tx j)) = 0 then (pmF (oc tx P T C K iv) j) + 1 else (pmF (oc tx P T C K iv) j)) (if oc1 C ((tyS tx P T C K iv j).2) ((tyS tx P T C K iv j).1) (P (tx j)) = 1 then (jmF (oc tx P T C K iv) j) + 1 else (jmF (oc tx P T C K iv) j)) (if oc1 C ((tyS tx P T C K iv j).2) ((tyS tx P T C K iv j).1) (P (tx j)) = 0 ∨ oc1 C ((tyS tx P T C K iv j).2) ((tyS tx P T C K iv j).1) (P (tx j)) = 1 then (lmF (oc tx P T C K iv) j) else (lmF (oc tx P T C K iv) j) + 1) (duF tx P T C K iv j) (if oc1 C ((tyS tx P T C K iv j).2) ((tyS tx P T C K iv j).1) (P (tx j)) = 0 then up (prF (oc tx P T C K iv) tx pr j) (pmF (oc tx P T C K iv) j) (tx j) else (prF (oc tx P T C K iv) tx pr j)) (if oc1 C ((tyS tx P T C K iv j).2) ((tyS tx P T C K iv j).1) (P (tx j)) = 1 then up (jaF (oc tx P T C K iv) ja j) (jmF (oc tx P T C K iv) j) j else (jaF (oc tx P T C K iv) ja j)) (rn1 C T ((tyS tx P T C K iv j).2) ((tyS tx P T C K iv j).1) (P (tx j))))) H locs := hV
        have f1 := ite_le (oc1 C ((tyS tx P T C K iv j).2) ((tyS tx P T C K iv j).1) (P (tx j)) = 1)
        refine lv_istore (lv' := [(5, .int (nI (if oc1 C ((tyS tx P T C K iv j).2) ((tyS tx P T C K iv j).1) (P (tx j)) = 1 then 1 else 0))), (0, .ref (h 0)), (1, .ref (g 0)), (2, .int (nI iv)), (3, .int (nI ((tyS tx P T C K iv j).2))), (4, .int (nI j))]) hx hb dX1_typeText_26 hl (by decide) rfl (fun ls hl => ?_)
        refine lv_aload_n hx hb dX1_typeText_28 rfl (lv_at hl 2 rfl) ?_
        refine lv_iload_n hx hb dX1_typeText_29 rfl (lv_at hl 4 rfl) ?_
        refine lv_aload_n hx hb dX1_typeText_30 rfl (lv_at hl 1 rfl) ?_
        refine q_get (C := RX1) (T := TX1) (N := 12) (ci := 1) (v := .int (nI T)) hx hb hts hin1 hown hK hV 0 rfl rfl 2 (by decide) (List.mem_of_getElem? (i := 2) rfl) rfl dX1_typeText_31 ?_
        refine q_iadd2 (x := ((tyS tx P T C K iv j).2)) (y := T) (z := ((tyS tx P T C K iv j).2) + T) hx hb (by omega) dX1_typeText_34 ?_
        refine q_putN (C := RX0) (T := TX0) (N := 7) (ci := 0) (v := .int (nI (((tyS tx P T C K iv j).2) + T))) ((wB h ga gb cA n tx T C K P u) ++ (wT g cA (if oc1 C ((tyS tx P T C K iv j).2) ((tyS tx P T C K iv j).1) (P (tx j)) = 0 then (pmF (oc tx P T C K iv) j) + 1 else (pmF (oc tx P T C K iv) j)) (if oc1 C ((tyS tx P T C K iv j).2) ((tyS tx P T C K iv j).1) (P (tx j)) = 1 then (jmF (oc tx P T C K iv) j) + 1 else (jmF (oc tx P T C K iv) j)) (if oc1 C ((tyS tx P T C K iv j).2) ((tyS tx P T C K iv j).1) (P (tx j)) = 0 ∨ oc1 C ((tyS tx P T C K iv j).2) ((tyS tx P T C K iv j).1) (P (tx j)) = 1 then (lmF (oc tx P T C K iv) j) else (lmF (oc tx P T C K iv) j) + 1) (((tyS tx P T C K iv j).2) + T) (if oc1 C ((tyS tx P T C K iv j).2) ((tyS tx P T C K iv j).1) (P (tx j)) = 0 then up (prF (oc tx P T C K iv) tx pr j) (pmF (oc tx P T C K iv) j) (tx j) else (prF (oc tx P T C K iv) tx pr j)) (if oc1 C ((tyS tx P T C K iv j).2) ((tyS tx P T C K iv j).1) (P (tx j)) = 1 then up (jaF (oc tx P T C K iv) ja j) (jmF (oc tx P T C K iv) j) j else (jaF (oc tx P T C K iv) ja j)) (rn1 C T ((tyS tx P T C K iv j).2) ((tyS tx P T C K iv j).1) (P (tx j))))) hx hb hts hin0 tyX0 tyX0_ok nmX0 hown hK hV 3 rfl rfl 5 (by decide) hN (List.mem_of_getElem? (i := 6) rfl) rfl rfl rfl (Nat.le_of_ble_eq_true rfl) rfl dX1_typeText_35 (fun H locs hV => ?_)
        refine lv_iload_n hx hb dX1_typeText_38 rfl (lv_at hl 4 rfl) ?_
        refine lv_iload hx hb dX1_typeText_39 (lv_at hl 0 rfl) ?_
        refine q_if_eq (x := (if oc1 C ((tyS tx P T C K iv j).2) ((tyS tx P T C K iv j).1) (P (tx j)) = 1 then 1 else 0)) (tgt := 53) hx hb dX1_typeText_41 (by decide) (by omega) (fun c41 => ?_) (fun c41 => ?_)
        · have c41 := ite0 c41
          refine lv_iload_n hx hb dX1_typeText_53 rfl (lv_at hl 3 rfl) ?_
          refine q_iadd2 (x := ((tyS tx P T C K iv j).2)) (y := iv) (z := ((tyS tx P T C K iv j).2) + iv) hx hb (by omega) dX1_typeText_54 ?_
          refine lv_istore_n (lv' := [(3, .int (nI (((tyS tx P T C K iv j).2) + iv))), (5, .int (nI (if oc1 C ((tyS tx P T C K iv j).2) ((tyS tx P T C K iv j).1) (P (tx j)) = 1 then 1 else 0))), (0, .ref (h 0)), (1, .ref (g 0)), (2, .int (nI iv)), (4, .int (nI j))]) hx hb dX1_typeText_55 rfl hl (by decide) rfl (fun ls hl => ?_)
          refine q_iinc (x := j) (z := j + 1) (lv' := [(4, .int (nI (j + 1))), (3, .int (nI (((tyS tx P T C K iv j).2) + iv))), (5, .int (nI (if oc1 C ((tyS tx P T C K iv j).2) ((tyS tx P T C K iv j).1) (P (tx j)) = 1 then 1 else 0))), (0, .ref (h 0)), (1, .ref (g 0)), (2, .int (nI iv))]) hx hb dX1_typeText_56 hl (k := 5) rfl (dd := 1) rfl (by omega) (by decide) rfl (fun ls hl => ?_)
          refine lv_goto (tgt := 9) hx hb dX1_typeText_59 (by decide) ?_
          have e1 : (tyS tx P T C K iv (j + 1)).2 = ((tyS tx P T C K iv j).2) + iv := by have q := tyS_s0 c41; omega
          have e2 := duF_s tx P T C K iv j
          exact ih9  (j + 1) _ _ _ (by omega) (by first | omega | assumption) (by rw [e2]; exact hV) (by rw [e1]; exact lv_sub hl [3, 4, 5, 1, 0] rfl)
        · have c41 := ite1 c41
          refine lv_iload_n hx hb dX1_typeText_44 rfl (lv_at hl 3 rfl) ?_
          refine lv_aload_n hx hb dX1_typeText_45 rfl (lv_at hl 1 rfl) ?_
          refine q_get (C := RX1) (T := TX1) (N := 12) (ci := 1) (v := .int (nI K)) hx hb hts hin1 hown hK hV 0 rfl rfl 4 (by decide) (List.mem_of_getElem? (i := 3) rfl) rfl dX1_typeText_46 ?_
          refine q_iadd2 (x := iv) (y := K) (z := iv + K) hx hb (by omega) dX1_typeText_49 ?_
          refine lv_goto (tgt := 54) hx hb dX1_typeText_50 (by decide) ?_
          refine q_iadd2 (x := ((tyS tx P T C K iv j).2)) (y := iv + K) (z := ((tyS tx P T C K iv j).2) + iv + K) hx hb (by omega) dX1_typeText_54 ?_
          refine lv_istore_n (lv' := [(3, .int (nI (((tyS tx P T C K iv j).2) + iv + K))), (5, .int (nI (if oc1 C ((tyS tx P T C K iv j).2) ((tyS tx P T C K iv j).1) (P (tx j)) = 1 then 1 else 0))), (0, .ref (h 0)), (1, .ref (g 0)), (2, .int (nI iv)), (4, .int (nI j))]) hx hb dX1_typeText_55 rfl hl (by decide) rfl (fun ls hl => ?_)
          refine q_iinc (x := j) (z := j + 1) (lv' := [(4, .int (nI (j + 1))), (3, .int (nI (((tyS tx P T C K iv j).2) + iv + K))), (5, .int (nI (if oc1 C ((tyS tx P T C K iv j).2) ((tyS tx P T C K iv j).1) (P (tx j)) = 1 then 1 else 0))), (0, .ref (h 0)), (1, .ref (g 0)), (2, .int (nI iv))]) hx hb dX1_typeText_56 hl (k := 5) rfl (dd := 1) rfl (by omega) (by decide) rfl (fun ls hl => ?_)
          refine lv_goto (tgt := 9) hx hb dX1_typeText_59 (by decide) ?_
          have e1 : (tyS tx P T C K iv (j + 1)).2 = ((tyS tx P T C K iv j).2) + iv + K := by have q := tyS_s1 c41; omega
          have e2 := duF_s tx P T C K iv j
          exact ih9  (j + 1) _ _ _ (by omega) (by first | omega | assumption) (by rw [e2]; exact hV) (by rw [e1]; exact lv_sub hl [3, 4, 5, 1, 0] rfl)
  exact lp9 61 0 _ _ _ (by omega) (by first | omega | assumption) hV (lv_sub hl [2, 3, 4, 1, 0] rfl)
abbrev rm_X1_run : Room := { frames := 4, cells := 0, slots := 0, locals := 99 }
set_option maxHeartbeats 4000000 in
set_option maxRecDepth 100000 in
theorem c_X1_run (l : Launch) (D : va_G) (h : Nat → Nat) (gb : Nat) (cA : ClassId) (n : Nat) (tx : Nat → Nat) (T : Nat) (C : Nat) (K : Nat) (L : Nat → Nat) (P : Nat → Nat) (u : Nat) (ua : Nat → Nat) (ub : Nat → Nat) (g : Nat → Nat) (pm : Nat) (jm : Nat) (lm : Nat) (du : Nat) (pr : Nat → Nat) (ja : Nat → Nat) (rt : Nat → Nat) (v1 : Int32)  (hn : n ≤ 60) (htx : ∀ i, tx i < 12) (hC : C ≤ 5) (hp : perm L P) (hT : T ≤ 20) (hK5 : K ≤ 50) : CTi l D cA yX1_run wsX1_run rm_X1_run [.ref (h 0), .int v1] ((wC h (g 0) gb cA n tx T C K L P u ua ub) ++ (wT g cA pm jm lm du pr ja rt)) (fun r W1 => r = aRn tx P T C K n v1 ∧ ∃ rt1 : Nat → Nat, W1 = (wC h (g 0) gb cA n tx T C K L P u ua ub) ++ (wT g cA (((yRn tx P T C K n v1 (pm, jm, lm, du, pr, ja))).1) (((yRn tx P T C K n v1 (pm, jm, lm, du, pr, ja))).2.1) (((yRn tx P T C K n v1 (pm, jm, lm, du, pr, ja))).2.2.1) (((yRn tx P T C K n v1 (pm, jm, lm, du, pr, ja))).2.2.2.1) (((yRn tx P T C K n v1 (pm, jm, lm, du, pr, ja))).2.2.2.2.1) (((yRn tx P T C K n v1 (pm, jm, lm, du, pr, ja))).2.2.2.2.2) rt1)) := by
  refine CTi.mk (cc := cX1_run) (maxL := 2) (ret := some .int) (by decide) rfl (Nat.le_of_ble_eq_true rfl) ?_
  intro p e s m below meth c A ls E hV hl
  obtain ⟨hx, hb, hml, hr, hown, hts, hlocks, hK, hA, hN⟩ := E
  have hown : s.vm.findClass RX1 = some m.cls := hown
  have hin1 : ∀ w ∈ wsX10, w ∈ wsX1_run := fun _ h => List.mem_cons_of_mem _ (List.mem_append_left _ (List.mem_append_right _ h))
  have hin0 : ∀ w ∈ wsX00, w ∈ wsX1_run := fun _ h => List.mem_cons_of_mem _ (List.mem_append_right _ h)
  have hl : lv_has ls 2 [(0, .ref (h 0)), (1, .int v1)] := hl
  refine lv_iload_n hx hb dX1_run_0 rfl (lv_at hl 1 rfl) ?_
  refine lv_iconst (v := nI 1) hx hb dX1_run_1 (by decide) ?_
  refine z_icmp_lt (tgt := 11) hx hb dX1_run_2 (by decide) (fun c2 => ?_) (fun c2 => ?_)
  · rw [nI_toInt (n := 1) (by omega)] at c2
    refine lv_ldc (v := -1000003) hx hb hown (hts _ (List.mem_of_getElem? (i := 1) rfl)) dX1_run_11 ?_
    have e1 : okR 1 30 v1 = 0 := okR_no (by omega)
    exact q_iret (W1 := (wC h (g 0) gb cA n tx T C K L P u ua ub) ++ (wT g cA pm jm lm du pr ja rt)) hx hb hr hlocks hV dX1_run_13 ⟨(aRn_no e1).symm, rt, by rw [yRn_no e1]⟩
  · rw [nI_toInt (n := 1) (by omega)] at c2
    refine lv_iload_n hx hb dX1_run_5 rfl (lv_at hl 1 rfl) ?_
    refine lv_bipush (v := nI 30) hx hb dX1_run_6 (by decide) ?_
    refine z_icmp_le (tgt := 14) hx hb dX1_run_8 (by decide) (fun c8 => ?_) (fun c8 => ?_)
    · rw [nI_toInt (n := 30) (by omega)] at c8
      obtain ⟨k1, hk0, hk1, rfl⟩ := okR_g (lo := 1) (hi := 30) (by decide) (by omega) (by omega)
      refine lv_aload_n hx hb dX1_run_14 rfl (lv_at hl 0 rfl) ?_
      refine lv_aload_n hx hb dX1_run_15 rfl (lv_at hl 0 rfl) ?_
      refine q_get (C := RX1) (T := TX1) (N := 12) (ci := 1) (v := .ref (g 0)) hx hb hts hin1 hown hK hV 0 rfl rfl 10 (by decide) (List.mem_of_getElem? (i := 2) rfl) rfl dX1_run_16 ?_
      refine lv_iload_n hx hb dX1_run_19 rfl (lv_at hl 1 rfl) ?_
      have hV : qV D A s.heap ((wR h cA L ua ub) ++ (wB h (g 0) gb cA n tx T C K P u) ++ (wT g cA pm jm lm du pr ja rt)) s.heap [] := hV.sub [2, 4, 5, 0, 1, 3, 6, 7, 8, 9] rfl rfl
      refine k_V_v (w0 := wR h cA L ua ub) (wc := (wB h (g 0) gb cA n tx T C K P u) ++ (wT g cA pm jm lm du pr ja rt)) (b := h 0) (As := [.ref (g 0), .int (nI k1)]) (rest := []) hx hb hml hown hts hK hA hN hV hl.1 (c_X1_typeText l D h (g 0) gb cA n tx T C K P u g pm jm lm du pr ja rt k1  (by first | omega | assumption) (by first | omega | assumption) (fun i hi => hp.P hi) (by first | omega | assumption) (by first | omega | assumption) (by first | omega | assumption) (by first | omega | assumption)) gX1_run_X1_typeText rfl rfl rfl hdX1_typeText ⟨Nat.le_of_ble_eq_true rfl, Nat.le_of_ble_eq_true rfl⟩ 3 1 rfl rfl rfl rfl rfl (Nat.le_of_ble_eq_true rfl) dX1_run_20 ⟨Nat.zero_le _, Nat.zero_le _⟩ (fun W1 H locs hp hV => ?_)
      subst hp
      have hV : qV D A s.heap ((wR h cA L ua ub) ++ (wB h (g 0) gb cA n tx T C K P u) ++ (wT g cA (pmF (oc tx P T C K k1) n) (jmF (oc tx P T C K k1) n) (lmF (oc tx P T C K k1) n) (duF tx P T C K k1 n) (prF (oc tx P T C K k1) tx pr n) (jaF (oc tx P T C K k1) ja n) ((tyS tx P T C K k1 n).1))) H locs := hV
      have hV : qV D A s.heap ((wC h (g 0) gb cA n tx T C K L P u ua ub) ++ (wT g cA (pmF (oc tx P T C K k1) n) (jmF (oc tx P T C K k1) n) (lmF (oc tx P T C K k1) n) (duF tx P T C K k1 n) (prF (oc tx P T C K k1) tx pr n) (jaF (oc tx P T C K k1) ja n) ((tyS tx P T C K k1 n).1))) H locs := hV.sub [3, 4, 0, 5, 1, 2, 6, 7, 8, 9] rfl rfl
      refine lv_aload_n hx hb dX1_run_23 rfl (lv_at hl 0 rfl) ?_
      refine q_get (C := RX1) (T := TX1) (N := 12) (ci := 1) (v := .ref (g 0)) hx hb hts hin1 hown hK hV 0 rfl rfl 10 (by decide) (List.mem_of_getElem? (i := 2) rfl) rfl dX1_run_24 ?_
      refine q_getN (C := RX0) (T := TX0) (N := 7) (ci := 0) (v := .int (nI (pmF (oc tx P T C K k1) n))) hx hb hts hin0 hown hK hV 6 rfl rfl 1 (by decide) hN (List.mem_of_getElem? (i := 2) rfl) rfl dX1_run_27 ?_
      exact q_iret (W1 := (wC h (g 0) gb cA n tx T C K L P u ua ub) ++ (wT g cA (pmF (oc tx P T C K k1) n) (jmF (oc tx P T C K k1) n) (lmF (oc tx P T C K k1) n) (duF tx P T C K k1 n) (prF (oc tx P T C K k1) tx pr n) (jaF (oc tx P T C K k1) ja n) ((tyS tx P T C K k1 n).1))) hx hb hr hlocks hV dX1_run_30 ⟨(aRn_ok hk0 hk1).symm, _, by rw [yRn_ok hk0 hk1]; rfl⟩
    · rw [nI_toInt (n := 30) (by omega)] at c8
      refine lv_ldc (v := -1000003) hx hb hown (hts _ (List.mem_of_getElem? (i := 1) rfl)) dX1_run_11 ?_
      have e1 : okR 1 30 v1 = 0 := okR_no (by omega)
      exact q_iret (W1 := (wC h (g 0) gb cA n tx T C K L P u ua ub) ++ (wT g cA pm jm lm du pr ja rt)) hx hb hr hlocks hV dX1_run_13 ⟨(aRn_no e1).symm, rt, by rw [yRn_no e1]⟩
abbrev rm_X1_jams : Room := { frames := 0, cells := 0, slots := 0, locals := 0 }
set_option maxHeartbeats 4000000 in
set_option maxRecDepth 100000 in
theorem c_X1_jams (l : Launch) (D : va_G) (h : Nat → Nat) (gb : Nat) (cA : ClassId) (n : Nat) (tx : Nat → Nat) (T : Nat) (C : Nat) (K : Nat) (L : Nat → Nat) (P : Nat → Nat) (u : Nat) (ua : Nat → Nat) (ub : Nat → Nat) (g : Nat → Nat) (pm : Nat) (jm : Nat) (lm : Nat) (du : Nat) (pr : Nat → Nat) (ja : Nat → Nat) (rt : Nat → Nat)    : CTi l D cA yX1_jams wsX1_jams rm_X1_jams [.ref (h 0)] ((wC h (g 0) gb cA n tx T C K L P u ua ub) ++ (wT g cA pm jm lm du pr ja rt)) (fun r W1 => r = nI jm ∧ W1 = (wC h (g 0) gb cA n tx T C K L P u ua ub) ++ (wT g cA pm jm lm du pr ja rt)) := by
  refine CTi.mk (cc := cX1_jams) (maxL := 1) (ret := some .int) (by decide) rfl (Nat.le_of_ble_eq_true rfl) ?_
  intro p e s m below meth c A ls E hV hl
  obtain ⟨hx, hb, hml, hr, hown, hts, hlocks, hK, hA, hN⟩ := E
  have hown : s.vm.findClass RX1 = some m.cls := hown
  have hin1 : ∀ w ∈ wsX10, w ∈ wsX1_jams := fun _ h => List.mem_cons_of_mem _ (List.mem_append_left _ (List.mem_append_right _ h))
  have hin0 : ∀ w ∈ wsX00, w ∈ wsX1_jams := fun _ h => List.mem_cons_of_mem _ (List.mem_append_right _ h)
  have hl : lv_has ls 1 [(0, .ref (h 0))] := hl
  refine lv_aload_n hx hb dX1_jams_0 rfl (lv_at hl 0 rfl) ?_
  refine q_get (C := RX1) (T := TX1) (N := 12) (ci := 1) (v := .ref (g 0)) hx hb hts hin1 hown hK hV 0 rfl rfl 10 (by decide) (List.mem_of_getElem? (i := 1) rfl) rfl dX1_jams_1 ?_
  refine q_getN (C := RX0) (T := TX0) (N := 7) (ci := 0) (v := .int (nI jm)) hx hb hts hin0 hown hK hV 6 rfl rfl 3 (by decide) hN (List.mem_of_getElem? (i := 4) rfl) rfl dX1_jams_4 ?_
  exact q_iret (W1 := (wC h (g 0) gb cA n tx T C K L P u ua ub) ++ (wT g cA pm jm lm du pr ja rt)) hx hb hr hlocks hV dX1_jams_7 ⟨rfl, rfl⟩
abbrev rm_X1_lost : Room := { frames := 0, cells := 0, slots := 0, locals := 0 }
set_option maxHeartbeats 4000000 in
set_option maxRecDepth 100000 in
theorem c_X1_lost (l : Launch) (D : va_G) (h : Nat → Nat) (gb : Nat) (cA : ClassId) (n : Nat) (tx : Nat → Nat) (T : Nat) (C : Nat) (K : Nat) (L : Nat → Nat) (P : Nat → Nat) (u : Nat) (ua : Nat → Nat) (ub : Nat → Nat) (g : Nat → Nat) (pm : Nat) (jm : Nat) (lm : Nat) (du : Nat) (pr : Nat → Nat) (ja : Nat → Nat) (rt : Nat → Nat)    : CTi l D cA yX1_lost wsX1_lost rm_X1_lost [.ref (h 0)] ((wC h (g 0) gb cA n tx T C K L P u ua ub) ++ (wT g cA pm jm lm du pr ja rt)) (fun r W1 => r = nI lm ∧ W1 = (wC h (g 0) gb cA n tx T C K L P u ua ub) ++ (wT g cA pm jm lm du pr ja rt)) := by
  refine CTi.mk (cc := cX1_lost) (maxL := 1) (ret := some .int) (by decide) rfl (Nat.le_of_ble_eq_true rfl) ?_
  intro p e s m below meth c A ls E hV hl
  obtain ⟨hx, hb, hml, hr, hown, hts, hlocks, hK, hA, hN⟩ := E
  have hown : s.vm.findClass RX1 = some m.cls := hown
  have hin1 : ∀ w ∈ wsX10, w ∈ wsX1_lost := fun _ h => List.mem_cons_of_mem _ (List.mem_append_left _ (List.mem_append_right _ h))
  have hin0 : ∀ w ∈ wsX00, w ∈ wsX1_lost := fun _ h => List.mem_cons_of_mem _ (List.mem_append_right _ h)
  have hl : lv_has ls 1 [(0, .ref (h 0))] := hl
  refine lv_aload_n hx hb dX1_lost_0 rfl (lv_at hl 0 rfl) ?_
  refine q_get (C := RX1) (T := TX1) (N := 12) (ci := 1) (v := .ref (g 0)) hx hb hts hin1 hown hK hV 0 rfl rfl 10 (by decide) (List.mem_of_getElem? (i := 1) rfl) rfl dX1_lost_1 ?_
  refine q_getN (C := RX0) (T := TX0) (N := 7) (ci := 0) (v := .int (nI lm)) hx hb hts hin0 hown hK hV 6 rfl rfl 4 (by decide) hN (List.mem_of_getElem? (i := 5) rfl) rfl dX1_lost_4 ?_
  exact q_iret (W1 := (wC h (g 0) gb cA n tx T C K L P u ua ub) ++ (wT g cA pm jm lm du pr ja rt)) hx hb hr hlocks hV dX1_lost_7 ⟨rfl, rfl⟩
abbrev rm_X1_duration : Room := { frames := 0, cells := 0, slots := 0, locals := 0 }
set_option maxHeartbeats 4000000 in
set_option maxRecDepth 100000 in
theorem c_X1_duration (l : Launch) (D : va_G) (h : Nat → Nat) (gb : Nat) (cA : ClassId) (n : Nat) (tx : Nat → Nat) (T : Nat) (C : Nat) (K : Nat) (L : Nat → Nat) (P : Nat → Nat) (u : Nat) (ua : Nat → Nat) (ub : Nat → Nat) (g : Nat → Nat) (pm : Nat) (jm : Nat) (lm : Nat) (du : Nat) (pr : Nat → Nat) (ja : Nat → Nat) (rt : Nat → Nat)    : CTi l D cA yX1_duration wsX1_duration rm_X1_duration [.ref (h 0)] ((wC h (g 0) gb cA n tx T C K L P u ua ub) ++ (wT g cA pm jm lm du pr ja rt)) (fun r W1 => r = nI du ∧ W1 = (wC h (g 0) gb cA n tx T C K L P u ua ub) ++ (wT g cA pm jm lm du pr ja rt)) := by
  refine CTi.mk (cc := cX1_duration) (maxL := 1) (ret := some .int) (by decide) rfl (Nat.le_of_ble_eq_true rfl) ?_
  intro p e s m below meth c A ls E hV hl
  obtain ⟨hx, hb, hml, hr, hown, hts, hlocks, hK, hA, hN⟩ := E
  have hown : s.vm.findClass RX1 = some m.cls := hown
  have hin1 : ∀ w ∈ wsX10, w ∈ wsX1_duration := fun _ h => List.mem_cons_of_mem _ (List.mem_append_left _ (List.mem_append_right _ h))
  have hin0 : ∀ w ∈ wsX00, w ∈ wsX1_duration := fun _ h => List.mem_cons_of_mem _ (List.mem_append_right _ h)
  have hl : lv_has ls 1 [(0, .ref (h 0))] := hl
  refine lv_aload_n hx hb dX1_duration_0 rfl (lv_at hl 0 rfl) ?_
  refine q_get (C := RX1) (T := TX1) (N := 12) (ci := 1) (v := .ref (g 0)) hx hb hts hin1 hown hK hV 0 rfl rfl 10 (by decide) (List.mem_of_getElem? (i := 1) rfl) rfl dX1_duration_1 ?_
  refine q_getN (C := RX0) (T := TX0) (N := 7) (ci := 0) (v := .int (nI du)) hx hb hts hin0 hown hK hV 6 rfl rfl 5 (by decide) hN (List.mem_of_getElem? (i := 6) rfl) rfl dX1_duration_4 ?_
  exact q_iret (W1 := (wC h (g 0) gb cA n tx T C K L P u ua ub) ++ (wT g cA pm jm lm du pr ja rt)) hx hb hr hlocks hV dX1_duration_7 ⟨rfl, rfl⟩
abbrev rm_X1_printedLetter : Room := { frames := 0, cells := 0, slots := 0, locals := 0 }
set_option maxHeartbeats 4000000 in
set_option maxRecDepth 100000 in
theorem c_X1_printedLetter (l : Launch) (D : va_G) (h : Nat → Nat) (gb : Nat) (cA : ClassId) (n : Nat) (tx : Nat → Nat) (T : Nat) (C : Nat) (K : Nat) (L : Nat → Nat) (P : Nat → Nat) (u : Nat) (ua : Nat → Nat) (ub : Nat → Nat) (g : Nat → Nat) (pm : Nat) (jm : Nat) (lm : Nat) (du : Nat) (pr : Nat → Nat) (ja : Nat → Nat) (rt : Nat → Nat) (v1 : Int32)  (h_m : pm ≤ 60) : CTi l D cA yX1_printedLetter wsX1_printedLetter rm_X1_printedLetter [.ref (h 0), .int v1] ((wC h (g 0) gb cA n tx T C K L P u ua ub) ++ (wT g cA pm jm lm du pr ja rt)) (fun r W1 => r = aIx pm pr v1 ∧ W1 = (wC h (g 0) gb cA n tx T C K L P u ua ub) ++ (wT g cA pm jm lm du pr ja rt)) := by
  refine CTi.mk (cc := cX1_printedLetter) (maxL := 2) (ret := some .int) (by decide) rfl (Nat.le_of_ble_eq_true rfl) ?_
  intro p e s m below meth c A ls E hV hl
  obtain ⟨hx, hb, hml, hr, hown, hts, hlocks, hK, hA, hN⟩ := E
  have hown : s.vm.findClass RX1 = some m.cls := hown
  have hin1 : ∀ w ∈ wsX10, w ∈ wsX1_printedLetter := fun _ h => List.mem_cons_of_mem _ (List.mem_append_left _ (List.mem_append_right _ h))
  have hin0 : ∀ w ∈ wsX00, w ∈ wsX1_printedLetter := fun _ h => List.mem_cons_of_mem _ (List.mem_append_right _ h)
  have hl : lv_has ls 2 [(0, .ref (h 0)), (1, .int v1)] := hl
  refine lv_iload_n hx hb dX1_printedLetter_0 rfl (lv_at hl 1 rfl) ?_
  refine z_if_lt (tgt := 15) hx hb dX1_printedLetter_1 (by decide) (fun c1 => ?_) (fun c1 => ?_)
  · refine lv_ldc (v := -1000006) hx hb hown (hts _ (List.mem_of_getElem? (i := 2) rfl)) dX1_printedLetter_15 ?_
    exact q_iret (W1 := (wC h (g 0) gb cA n tx T C K L P u ua ub) ++ (wT g cA pm jm lm du pr ja rt)) hx hb hr hlocks hV dX1_printedLetter_17 ⟨(aIx_no (by omega)).symm, rfl⟩
  · refine lv_iload_n hx hb dX1_printedLetter_4 rfl (lv_at hl 1 rfl) ?_
    refine lv_aload_n hx hb dX1_printedLetter_5 rfl (lv_at hl 0 rfl) ?_
    refine q_get (C := RX1) (T := TX1) (N := 12) (ci := 1) (v := .ref (g 0)) hx hb hts hin1 hown hK hV 0 rfl rfl 10 (by decide) (List.mem_of_getElem? (i := 1) rfl) rfl dX1_printedLetter_6 ?_
    refine q_getN (C := RX0) (T := TX0) (N := 7) (ci := 0) (v := .int (nI pm)) hx hb hts hin0 hown hK hV 6 rfl rfl 1 (by decide) hN (List.mem_of_getElem? (i := 2) rfl) rfl dX1_printedLetter_9 ?_
    refine z_icmp_lt (tgt := 18) hx hb dX1_printedLetter_12 (by decide) (fun c12 => ?_) (fun c12 => ?_)
    · rw [nI_toInt (n := pm) (by omega)] at c12
      obtain ⟨k1, hk1, rfl⟩ := okI_g (by omega) c12
      refine lv_aload_n hx hb dX1_printedLetter_18 rfl (lv_at hl 0 rfl) ?_
      refine q_get (C := RX1) (T := TX1) (N := 12) (ci := 1) (v := .ref (g 0)) hx hb hts hin1 hown hK hV 0 rfl rfl 10 (by decide) (List.mem_of_getElem? (i := 1) rfl) rfl dX1_printedLetter_19 ?_
      refine q_getN (C := RX0) (T := TX0) (N := 7) (ci := 0) (v := .ref (g 1)) hx hb hts hin0 hown hK hV 6 rfl rfl 0 (by decide) hN (List.mem_of_getElem? (i := 1) rfl) rfl dX1_printedLetter_22 ?_
      refine lv_iload_n hx hb dX1_printedLetter_25 rfl (lv_at hl 1 rfl) ?_
      refine q_iald (n := 60) (k := k1) (f := pr) hx hb hK hV 7 rfl (by omega) (by omega) dX1_printedLetter_26 ?_
      exact q_iret (W1 := (wC h (g 0) gb cA n tx T C K L P u ua ub) ++ (wT g cA pm jm lm du pr ja rt)) hx hb hr hlocks hV dX1_printedLetter_27 ⟨(aIx_ok hk1 (by omega)).symm, rfl⟩
    · rw [nI_toInt (n := pm) (by omega)] at c12
      refine lv_ldc (v := -1000006) hx hb hown (hts _ (List.mem_of_getElem? (i := 2) rfl)) dX1_printedLetter_15 ?_
      exact q_iret (W1 := (wC h (g 0) gb cA n tx T C K L P u ua ub) ++ (wT g cA pm jm lm du pr ja rt)) hx hb hr hlocks hV dX1_printedLetter_17 ⟨(aIx_no (by omega)).symm, rfl⟩
abbrev rm_X1_jammedKeystroke : Room := { frames := 0, cells := 0, slots := 0, locals := 0 }
set_option maxHeartbeats 4000000 in
set_option maxRecDepth 100000 in
theorem c_X1_jammedKeystroke (l : Launch) (D : va_G) (h : Nat → Nat) (gb : Nat) (cA : ClassId) (n : Nat) (tx : Nat → Nat) (T : Nat) (C : Nat) (K : Nat) (L : Nat → Nat) (P : Nat → Nat) (u : Nat) (ua : Nat → Nat) (ub : Nat → Nat) (g : Nat → Nat) (pm : Nat) (jm : Nat) (lm : Nat) (du : Nat) (pr : Nat → Nat) (ja : Nat → Nat) (rt : Nat → Nat) (v1 : Int32)  (h_m : jm ≤ 60) : CTi l D cA yX1_jammedKeystroke wsX1_jammedKeystroke rm_X1_jammedKeystroke [.ref (h 0), .int v1] ((wC h (g 0) gb cA n tx T C K L P u ua ub) ++ (wT g cA pm jm lm du pr ja rt)) (fun r W1 => r = aIx jm ja v1 ∧ W1 = (wC h (g 0) gb cA n tx T C K L P u ua ub) ++ (wT g cA pm jm lm du pr ja rt)) := by
  refine CTi.mk (cc := cX1_jammedKeystroke) (maxL := 2) (ret := some .int) (by decide) rfl (Nat.le_of_ble_eq_true rfl) ?_
  intro p e s m below meth c A ls E hV hl
  obtain ⟨hx, hb, hml, hr, hown, hts, hlocks, hK, hA, hN⟩ := E
  have hown : s.vm.findClass RX1 = some m.cls := hown
  have hin1 : ∀ w ∈ wsX10, w ∈ wsX1_jammedKeystroke := fun _ h => List.mem_cons_of_mem _ (List.mem_append_left _ (List.mem_append_right _ h))
  have hin0 : ∀ w ∈ wsX00, w ∈ wsX1_jammedKeystroke := fun _ h => List.mem_cons_of_mem _ (List.mem_append_right _ h)
  have hl : lv_has ls 2 [(0, .ref (h 0)), (1, .int v1)] := hl
  refine lv_iload_n hx hb dX1_jammedKeystroke_0 rfl (lv_at hl 1 rfl) ?_
  refine z_if_lt (tgt := 15) hx hb dX1_jammedKeystroke_1 (by decide) (fun c1 => ?_) (fun c1 => ?_)
  · refine lv_ldc (v := -1000006) hx hb hown (hts _ (List.mem_of_getElem? (i := 2) rfl)) dX1_jammedKeystroke_15 ?_
    exact q_iret (W1 := (wC h (g 0) gb cA n tx T C K L P u ua ub) ++ (wT g cA pm jm lm du pr ja rt)) hx hb hr hlocks hV dX1_jammedKeystroke_17 ⟨(aIx_no (by omega)).symm, rfl⟩
  · refine lv_iload_n hx hb dX1_jammedKeystroke_4 rfl (lv_at hl 1 rfl) ?_
    refine lv_aload_n hx hb dX1_jammedKeystroke_5 rfl (lv_at hl 0 rfl) ?_
    refine q_get (C := RX1) (T := TX1) (N := 12) (ci := 1) (v := .ref (g 0)) hx hb hts hin1 hown hK hV 0 rfl rfl 10 (by decide) (List.mem_of_getElem? (i := 1) rfl) rfl dX1_jammedKeystroke_6 ?_
    refine q_getN (C := RX0) (T := TX0) (N := 7) (ci := 0) (v := .int (nI jm)) hx hb hts hin0 hown hK hV 6 rfl rfl 3 (by decide) hN (List.mem_of_getElem? (i := 4) rfl) rfl dX1_jammedKeystroke_9 ?_
    refine z_icmp_lt (tgt := 18) hx hb dX1_jammedKeystroke_12 (by decide) (fun c12 => ?_) (fun c12 => ?_)
    · rw [nI_toInt (n := jm) (by omega)] at c12
      obtain ⟨k1, hk1, rfl⟩ := okI_g (by omega) c12
      refine lv_aload_n hx hb dX1_jammedKeystroke_18 rfl (lv_at hl 0 rfl) ?_
      refine q_get (C := RX1) (T := TX1) (N := 12) (ci := 1) (v := .ref (g 0)) hx hb hts hin1 hown hK hV 0 rfl rfl 10 (by decide) (List.mem_of_getElem? (i := 1) rfl) rfl dX1_jammedKeystroke_19 ?_
      refine q_getN (C := RX0) (T := TX0) (N := 7) (ci := 0) (v := .ref (g 2)) hx hb hts hin0 hown hK hV 6 rfl rfl 2 (by decide) hN (List.mem_of_getElem? (i := 3) rfl) rfl dX1_jammedKeystroke_22 ?_
      refine lv_iload_n hx hb dX1_jammedKeystroke_25 rfl (lv_at hl 1 rfl) ?_
      refine q_iald (n := 60) (k := k1) (f := ja) hx hb hK hV 8 rfl (by omega) (by omega) dX1_jammedKeystroke_26 ?_
      exact q_iret (W1 := (wC h (g 0) gb cA n tx T C K L P u ua ub) ++ (wT g cA pm jm lm du pr ja rt)) hx hb hr hlocks hV dX1_jammedKeystroke_27 ⟨(aIx_ok hk1 (by omega)).symm, rfl⟩
    · rw [nI_toInt (n := jm) (by omega)] at c12
      refine lv_ldc (v := -1000006) hx hb hown (hts _ (List.mem_of_getElem? (i := 2) rfl)) dX1_jammedKeystroke_15 ?_
      exact q_iret (W1 := (wC h (g 0) gb cA n tx T C K L P u ua ub) ++ (wT g cA pm jm lm du pr ja rt)) hx hb hr hlocks hV dX1_jammedKeystroke_17 ⟨(aIx_no (by omega)).symm, rfl⟩
abbrev rm_X1_safeInterval : Room := { frames := 4, cells := 0, slots := 0, locals := 99 }
set_option maxHeartbeats 4000000 in
set_option maxRecDepth 100000 in
theorem c_X1_safeInterval (l : Launch) (D : va_G) (h : Nat → Nat) (ga : Nat) (cA : ClassId) (n : Nat) (tx : Nat → Nat) (T : Nat) (C : Nat) (K : Nat) (L : Nat → Nat) (P : Nat → Nat) (u : Nat) (ua : Nat → Nat) (ub : Nat → Nat) (g : Nat → Nat) (pm : Nat) (jm : Nat) (lm : Nat) (du : Nat) (pr : Nat → Nat) (ja : Nat → Nat) (rt : Nat → Nat)   (hn : n ≤ 60) (htx : ∀ i, tx i < 12) (hC : C ≤ 5) (hp : perm L P) (hT : T ≤ 20) (hK5 : K ≤ 50) : CTi l D cA yX1_safeInterval wsX1_safeInterval rm_X1_safeInterval [.ref (h 0)] ((wC h ga (g 0) cA n tx T C K L P u ua ub) ++ (wT g cA pm jm lm du pr ja rt)) (fun r W1 => r = bV (sfi tx P T C K n) ∧ ∃ (pm1 jm1 lm1 du1 : Nat) (pr1 ja1 rt1 : Nat → Nat), W1 = (wC h ga (g 0) cA n tx T C K L P u ua ub) ++ (wT g cA pm1 jm1 lm1 du1 pr1 ja1 rt1)) := by
  refine CTi.mk (cc := cX1_safeInterval) (maxL := 2) (ret := some .int) (by decide) rfl (Nat.le_of_ble_eq_true rfl) ?_
  intro p e s m below meth c A ls E hV hl
  obtain ⟨hx, hb, hml, hr, hown, hts, hlocks, hK, hA, hN⟩ := E
  have hown : s.vm.findClass RX1 = some m.cls := hown
  have hin1 : ∀ w ∈ wsX10, w ∈ wsX1_safeInterval := fun _ h => List.mem_cons_of_mem _ (List.mem_append_left _ (List.mem_append_right _ h))
  have hin0 : ∀ w ∈ wsX00, w ∈ wsX1_safeInterval := fun _ h => List.mem_cons_of_mem _ (List.mem_append_right _ h)
  have hl : lv_has ls 2 [(0, .ref (h 0))] := hl
  refine lv_iconst (v := nI 1) hx hb dX1_safeInterval_0 (by decide) ?_
  refine lv_istore_n (lv' := [(1, .int (nI 1)), (0, .ref (h 0))]) hx hb dX1_safeInterval_1 rfl hl (by decide) rfl (fun ls hl => ?_)
  have lp2 : ∀ (d2 : Nat) (i : Nat) (pm1 : Nat) (jm1 : Nat) (lm1 : Nat) (du1 : Nat) (pr1 : Nat → Nat) (ja1 : Nat → Nat) (rt1 : Nat → Nat) (H : Heap) (locs : List Loc) (ls : Array Slot), (32 ≤ i + d2) → (1 ≤ i) → (i ≤ 31) → (sfF (bad tx P T C K n) (31 - i) i = sfi tx P T C K n) → qV D A s.heap ((wC h ga (g 0) cA n tx T C K L P u ua ub) ++ (wT g cA pm1 jm1 lm1 du1 pr1 ja1 rt1)) H locs → lv_has ls 2 [(0, .ref (h 0)), (1, .int (nI i))] → W p l e rm_X1_safeInterval s m ([.ref (h 0)] : List Value).toArray below meth c H locs 0 0 (MQ below (va_Qi (fun r W1 => r = bV (sfi tx P T C K n) ∧ ∃ (pm1 jm1 lm1 du1 : Nat) (pr1 ja1 rt1 : Nat → Nat), W1 = (wC h ga (g 0) cA n tx T C K L P u ua ub) ++ (wT g cA pm1 jm1 lm1 du1 pr1 ja1 rt1)) (cPost D A) A) ([.ref (h 0)] : List Value).toArray s 0 0 A) (F0 m 2 ls []) := by
    intro d2
    induction d2 with
    | zero => intro i pm1 jm1 lm1 du1 pr1 ja1 rt1 H locs ls hm2 hi0 hi hI hV hl; exfalso; omega
    | succ d2 ih2 =>
      intro i pm1 jm1 lm1 du1 pr1 ja1 rt1 H locs ls hm2 hi0 hi hI hV hl
      refine lv_iload_n hx hb dX1_safeInterval_2 rfl (lv_at hl 1 rfl) ?_
      refine lv_bipush (v := nI 30) hx hb dX1_safeInterval_3 (by decide) ?_
      refine q_icmp_gt (x := i) (y := 30) (tgt := 45) hx hb dX1_safeInterval_5 (by decide) (by omega) (by omega) (fun c5 => ?_) (fun c5 => ?_)
      · refine lv_ldc (v := -1000006) hx hb hown (hts _ (List.mem_of_getElem? (i := 2) rfl)) dX1_safeInterval_45 ?_
        have ei : i = 31 := by omega
        have e1 : sfi tx P T C K n = 0 := by rw [← hI, ei]; rfl
        exact q_iret (W1 := (wC h ga (g 0) cA n tx T C K L P u ua ub) ++ (wT g cA pm1 jm1 lm1 du1 pr1 ja1 rt1)) hx hb hr hlocks hV dX1_safeInterval_47 ⟨by rw [e1]; rfl, _, _, _, _, _, _, _, rfl⟩
      · refine lv_aload_n hx hb dX1_safeInterval_8 rfl (lv_at hl 0 rfl) ?_
        refine lv_aload_n hx hb dX1_safeInterval_9 rfl (lv_at hl 0 rfl) ?_
        refine q_get (C := RX1) (T := TX1) (N := 12) (ci := 1) (v := .ref (g 0)) hx hb hts hin1 hown hK hV 0 rfl rfl 11 (by decide) (List.mem_of_getElem? (i := 1) rfl) rfl dX1_safeInterval_10 ?_
        refine lv_iload_n hx hb dX1_safeInterval_13 rfl (lv_at hl 1 rfl) ?_
        have hV : qV D A s.heap ((wR h cA L ua ub) ++ (wB h ga (g 0) cA n tx T C K P u) ++ (wT g cA pm1 jm1 lm1 du1 pr1 ja1 rt1)) H locs := hV.sub [2, 4, 5, 0, 1, 3, 6, 7, 8, 9] rfl rfl
        refine k_V_v (w0 := wR h cA L ua ub) (wc := (wB h ga (g 0) cA n tx T C K P u) ++ (wT g cA pm1 jm1 lm1 du1 pr1 ja1 rt1)) (b := h 0) (As := [.ref (g 0), .int (nI i)]) (rest := []) hx hb hml hown hts hK hA hN hV hl.1 (c_X1_typeText l D h ga (g 0) cA n tx T C K P u g pm1 jm1 lm1 du1 pr1 ja1 rt1 i  (by first | omega | assumption) (by first | omega | assumption) (fun i hi => hp.P hi) (by first | omega | assumption) (by first | omega | assumption) (by first | omega | assumption) (by first | omega | assumption)) gX1_safeInterval_X1_typeText rfl rfl rfl hdX1_typeText ⟨Nat.le_of_ble_eq_true rfl, Nat.le_of_ble_eq_true rfl⟩ 3 1 rfl rfl rfl rfl rfl (Nat.le_of_ble_eq_true rfl) dX1_safeInterval_14 ⟨Nat.zero_le _, Nat.zero_le _⟩ (fun W1 H locs hp hV => ?_)
        subst hp
        have hV : qV D A s.heap ((wR h cA L ua ub) ++ (wB h ga (g 0) cA n tx T C K P u) ++ (wT g cA (pmF (oc tx P T C K i) n) (jmF (oc tx P T C K i) n) (lmF (oc tx P T C K i) n) (duF tx P T C K i n) (prF (oc tx P T C K i) tx pr1 n) (jaF (oc tx P T C K i) ja1 n) ((tyS tx P T C K i n).1))) H locs := hV
        have hV : qV D A s.heap ((wC h ga (g 0) cA n tx T C K L P u ua ub) ++ (wT g cA (pmF (oc tx P T C K i) n) (jmF (oc tx P T C K i) n) (lmF (oc tx P T C K i) n) (duF tx P T C K i n) (prF (oc tx P T C K i) tx pr1 n) (jaF (oc tx P T C K i) ja1 n) ((tyS tx P T C K i n).1))) H locs := hV.sub [3, 4, 0, 5, 1, 2, 6, 7, 8, 9] rfl rfl
        have g4 := jmF_le (oc tx P T C K i) n
        have g5 := lmF_le (oc tx P T C K i) n
        refine lv_aload_n hx hb dX1_safeInterval_17 rfl (lv_at hl 0 rfl) ?_
        refine q_get (C := RX1) (T := TX1) (N := 12) (ci := 1) (v := .ref (g 0)) hx hb hts hin1 hown hK hV 0 rfl rfl 11 (by decide) (List.mem_of_getElem? (i := 1) rfl) rfl dX1_safeInterval_18 ?_
        refine q_getN (C := RX0) (T := TX0) (N := 7) (ci := 0) (v := .int (nI (jmF (oc tx P T C K i) n))) hx hb hts hin0 hown hK hV 6 rfl rfl 3 (by decide) hN (List.mem_of_getElem? (i := 4) rfl) rfl dX1_safeInterval_21 ?_
        refine q_if_ne (x := (jmF (oc tx P T C K i) n)) (tgt := 39) hx hb dX1_safeInterval_24 (by decide) (by omega) (fun c24 => ?_) (fun c24 => ?_)
        · refine q_iinc (x := i) (z := i + 1) (lv' := [(1, .int (nI (i + 1))), (0, .ref (h 0))]) hx hb dX1_safeInterval_39 hl (k := 1) rfl (dd := 1) rfl (by omega) (by decide) rfl (fun ls hl => ?_)
          refine lv_goto (tgt := 2) hx hb dX1_safeInterval_42 (by decide) ?_
          exact ih2  (i + 1) (pmF (oc tx P T C K i) n) (jmF (oc tx P T C K i) n) (lmF (oc tx P T C K i) n) (duF tx P T C K i n) (prF (oc tx P T C K i) tx pr1 n) (jaF (oc tx P T C K i) ja1 n) ((tyS tx P T C K i n).1) _ _ _ (by omega) (by first | omega | assumption) (by first | omega | assumption) (by have q := hI; rw [sfF_s (by omega), if_neg (show ¬ bad tx P T C K n i = 0 by unfold bad; omega)] at q; exact q) hV (lv_sub hl [1, 0] rfl)
        · refine lv_aload_n hx hb dX1_safeInterval_27 rfl (lv_at hl 0 rfl) ?_
          refine q_get (C := RX1) (T := TX1) (N := 12) (ci := 1) (v := .ref (g 0)) hx hb hts hin1 hown hK hV 0 rfl rfl 11 (by decide) (List.mem_of_getElem? (i := 1) rfl) rfl dX1_safeInterval_28 ?_
          refine q_getN (C := RX0) (T := TX0) (N := 7) (ci := 0) (v := .int (nI (lmF (oc tx P T C K i) n))) hx hb hts hin0 hown hK hV 6 rfl rfl 4 (by decide) hN (List.mem_of_getElem? (i := 5) rfl) rfl dX1_safeInterval_31 ?_
          refine q_if_ne (x := (lmF (oc tx P T C K i) n)) (tgt := 39) hx hb dX1_safeInterval_34 (by decide) (by omega) (fun c34 => ?_) (fun c34 => ?_)
          · refine q_iinc (x := i) (z := i + 1) (lv' := [(1, .int (nI (i + 1))), (0, .ref (h 0))]) hx hb dX1_safeInterval_39 hl (k := 1) rfl (dd := 1) rfl (by omega) (by decide) rfl (fun ls hl => ?_)
            refine lv_goto (tgt := 2) hx hb dX1_safeInterval_42 (by decide) ?_
            exact ih2  (i + 1) (pmF (oc tx P T C K i) n) (jmF (oc tx P T C K i) n) (lmF (oc tx P T C K i) n) (duF tx P T C K i n) (prF (oc tx P T C K i) tx pr1 n) (jaF (oc tx P T C K i) ja1 n) ((tyS tx P T C K i n).1) _ _ _ (by omega) (by first | omega | assumption) (by first | omega | assumption) (by have q := hI; rw [sfF_s (by omega), if_neg (show ¬ bad tx P T C K n i = 0 by unfold bad; omega)] at q; exact q) hV (lv_sub hl [1, 0] rfl)
          · refine lv_iload_n hx hb dX1_safeInterval_37 rfl (lv_at hl 1 rfl) ?_
            have e1 : sfi tx P T C K n = i := by rw [← hI, sfF_s (by omega), if_pos (show bad tx P T C K n i = 0 by unfold bad; omega)]
            exact q_iret (W1 := (wC h ga (g 0) cA n tx T C K L P u ua ub) ++ (wT g cA (pmF (oc tx P T C K i) n) (jmF (oc tx P T C K i) n) (lmF (oc tx P T C K i) n) (duF tx P T C K i n) (prF (oc tx P T C K i) tx pr1 n) (jaF (oc tx P T C K i) ja1 n) ((tyS tx P T C K i n).1))) hx hb hr hlocks hV dX1_safeInterval_38 ⟨by rw [e1, bV_nI (by omega)], _, _, _, _, _, _, _, rfl⟩
  exact lp2 31 1 pm jm lm du pr ja rt _ _ _ (by omega) (by first | omega | assumption) (by first | omega | assumption) rfl hV (lv_sub hl [1, 0] rfl)
abbrev rm_X1_mix : Room := { frames := 0, cells := 0, slots := 0, locals := 0 }
set_option maxHeartbeats 4000000 in
set_option maxRecDepth 100000 in
theorem c_X1_mix (l : Launch) (D : va_G) (cA : ClassId) (x1 : Int64) (x2 : Int64)   : CTl l D cA yX1_mix wsX1_mix rm_X1_mix [.long x1, .long x2] (([] : va_W)) (fun r W1 => r = mx x1 x2 ∧ W1 = ([] : va_W)) := by
  refine CTl.mk (cc := cX1_mix) (maxL := 4) (ret := some .long) (by decide) rfl (Nat.le_of_ble_eq_true rfl) ?_
  intro p e s m below meth c A ls E hV hl
  obtain ⟨hx, hb, hml, hr, hown, hts, hlocks, hK, hA, hN⟩ := E
  have hown : s.vm.findClass RX1 = some m.cls := hown
  have hl : lv_has ls 4 [(0, .long x1), (2, .long x2)] := hl
  refine lv_ldc2 (v := 31) hx hb hown (hts _ (List.mem_of_getElem? (i := 1) rfl)) dX1_mix_0 ?_
  refine lv_lload_n hx hb dX1_mix_3 rfl (lv_at hl 0 rfl) ?_
  refine lv_lmul hx hb dX1_mix_4 ?_
  refine lv_lload_n hx hb dX1_mix_5 rfl (lv_at hl 1 rfl) ?_
  refine lv_ladd hx hb dX1_mix_6 ?_
  exact q_lret (W1 := ([] : va_W)) hx hb hr hlocks hV dX1_mix_7 ⟨rfl, rfl⟩
abbrev rm_X1_mixAll : Room := { frames := 1, cells := 0, slots := 0, locals := 23 }
set_option maxHeartbeats 4000000 in
set_option maxRecDepth 100000 in
theorem c_X1_mixAll (l : Launch) (D : va_G) (aa : Nat) (nn : Nat) (cA : ClassId) (ff : Nat → Nat) (x1 : Int64) (q1 : Nat)  (h_q : q1 ≤ nn) (h_n : nn ≤ 60) : CTl l D cA yX1_mixAll wsX1_mixAll rm_X1_mixAll [.long x1, .ref aa, .int (nI q1)] (wA aa nn cA ff) (fun r W1 => r = mxF x1 ff q1 ∧ W1 = wA aa nn cA ff) := by
  refine CTl.mk (cc := cX1_mixAll) (maxL := 7) (ret := some .long) (by decide) rfl (Nat.le_of_ble_eq_true rfl) ?_
  intro p e s m below meth c A ls E hV hl
  obtain ⟨hx, hb, hml, hr, hown, hts, hlocks, hK, hA, hN⟩ := E
  have hown : s.vm.findClass RX1 = some m.cls := hown
  have hl : lv_has ls 7 [(0, .long x1), (2, .ref aa), (3, .int (nI q1))] := hl
  refine lv_lload_n hx hb dX1_mixAll_0 rfl (lv_at hl 0 rfl) ?_
  refine lv_lstore (lv' := [(4, .long x1), (0, .long x1), (2, .ref aa), (3, .int (nI q1))]) hx hb dX1_mixAll_1 hl (by decide) rfl (fun ls hl => ?_)
  refine lv_iconst (v := nI 0) hx hb dX1_mixAll_3 (by decide) ?_
  refine lv_istore (lv' := [(6, .int (nI 0)), (4, .long x1), (0, .long x1), (2, .ref aa), (3, .int (nI q1))]) hx hb dX1_mixAll_4 hl (by decide) rfl (fun ls hl => ?_)
  have lp6 : ∀ (d6 : Nat) (j : Nat) (H : Heap) (locs : List Loc) (ls : Array Slot), (61 ≤ j + d6) → (j ≤ q1) → qV D A s.heap (wA aa nn cA ff) H locs → lv_has ls 7 [(0, .long x1), (2, .ref aa), (3, .int (nI q1)), (4, .long (mxF x1 ff j)), (6, .int (nI j))] → W p l e rm_X1_mixAll s m ([.long x1, .ref aa, .int (nI q1)] : List Value).toArray below meth c H locs 0 0 (MQ below (va_Ql (fun r W1 => r = mxF x1 ff q1 ∧ W1 = wA aa nn cA ff) (cPost D A) A) ([.long x1, .ref aa, .int (nI q1)] : List Value).toArray s 0 0 A) (F0 m 6 ls []) := by
    intro d6
    induction d6 with
    | zero => intro j H locs ls hm6 hj hV hl; exfalso; omega
    | succ d6 ih6 =>
      intro j H locs ls hm6 hj hV hl
      refine lv_iload hx hb dX1_mixAll_6 (lv_at hl 4 rfl) ?_
      refine lv_iload_n hx hb dX1_mixAll_8 rfl (lv_at hl 2 rfl) ?_
      refine q_icmp_ge (x := j) (y := q1) (tgt := 37) hx hb dX1_mixAll_9 (by decide) (by omega) (by omega) (fun c9 => ?_) (fun c9 => ?_)
      · refine lv_lload hx hb dX1_mixAll_37 (lv_at hl 3 rfl) ?_
        have ej : j = q1 := by omega
        exact q_lret (W1 := wA aa nn cA ff) hx hb hr hlocks hV dX1_mixAll_39 ⟨by rw [ej], rfl⟩
      · refine lv_iload hx hb dX1_mixAll_12 (lv_at hl 4 rfl) ?_
        refine lv_aload_n hx hb dX1_mixAll_14 rfl (lv_at hl 1 rfl) ?_
        refine va_alen (v := nI nn) hx hb hK hV.1 0 0 rfl rfl rfl dX1_mixAll_15 ?_
        refine q_icmp_ge (x := j) (y := nn) (tgt := 37) hx hb dX1_mixAll_16 (by decide) (by omega) (by omega) (fun c16 => ?_) (fun c16 => ?_)
        · refine lv_lload hx hb dX1_mixAll_37 (lv_at hl 3 rfl) ?_
          have ej : j = q1 := by omega
          exact q_lret (W1 := wA aa nn cA ff) hx hb hr hlocks hV dX1_mixAll_39 ⟨by rw [ej], rfl⟩
        · refine lv_lload hx hb dX1_mixAll_19 (lv_at hl 3 rfl) ?_
          refine lv_aload_n hx hb dX1_mixAll_21 rfl (lv_at hl 1 rfl) ?_
          refine lv_iload hx hb dX1_mixAll_22 (lv_at hl 4 rfl) ?_
          refine q_iald (n := nn) (k := j) (f := ff) hx hb hK hV 0 rfl (by omega) (by omega) dX1_mixAll_24 ?_
          refine lv_i2l hx hb dX1_mixAll_25 rfl ?_
          refine k_S_l (w0 := wA aa nn cA ff) (wc := ([] : va_W)) (As := [.long (mxF x1 ff j), .long ((nI (ff j)).toInt64)]) (rest := []) hx hb hml hown hts hK hA hN hV hl.1 (c_X1_mix l D cA (mxF x1 ff j) ((nI (ff j)).toInt64)  ) gX1_mixAll_X1_mix rfl rfl rfl hdX1_mix ⟨Nat.le_of_ble_eq_true rfl, Nat.le_of_ble_eq_true rfl⟩ rfl rfl (Nat.le_of_ble_eq_true rfl) dX1_mixAll_26 ⟨Nat.zero_le _, Nat.zero_le _⟩ (fun r W1 H locs hp hV => ?_)
          obtain ⟨hp1, hp2⟩ := hp
          replace hp1 := hp1.symm
          subst hp1
          replace hp2 := hp2.symm
          subst hp2
          have hV : qV D A s.heap (wA aa nn cA ff) H locs := hV
          refine lv_lstore (lv' := [(4, .long (mx (mxF x1 ff j) ((nI (ff j)).toInt64))), (0, .long x1), (2, .ref aa), (3, .int (nI q1)), (6, .int (nI j))]) hx hb dX1_mixAll_29 hl (by decide) rfl (fun ls hl => ?_)
          refine q_iinc (x := j) (z := j + 1) (lv' := [(6, .int (nI (j + 1))), (4, .long (mx (mxF x1 ff j) ((nI (ff j)).toInt64))), (0, .long x1), (2, .ref aa), (3, .int (nI q1))]) hx hb dX1_mixAll_31 hl (k := 4) rfl (dd := 1) rfl (by omega) (by decide) rfl (fun ls hl => ?_)
          refine lv_goto (tgt := 6) hx hb dX1_mixAll_34 (by decide) ?_
          exact ih6  (j + 1) _ _ _ (by omega) (by first | omega | assumption) hV (lv_sub hl [2, 3, 4, 1, 0] rfl)
  exact lp6 61 0 _ _ _ (by omega) (by first | omega | assumption) hV (lv_sub hl [2, 3, 4, 1, 0] rfl)
abbrev rm_X1_digest : Room := { frames := 5, cells := 0, slots := 0, locals := 120 }
set_option maxHeartbeats 4000000 in
set_option maxRecDepth 100000 in
theorem c_X1_digest (l : Launch) (D : va_G) (h : Nat → Nat) (cA : ClassId) (n : Nat) (tx : Nat → Nat) (T : Nat) (C : Nat) (K : Nat) (L : Nat → Nat) (P : Nat → Nat) (u : Nat) (ua : Nat → Nat) (ub : Nat → Nat) (g : Nat → Nat) (pm : Nat) (jm : Nat) (lm : Nat) (du : Nat) (pr : Nat → Nat) (ja : Nat → Nat) (rt : Nat → Nat) (k : Nat → Nat) (pm2 : Nat) (jm2 : Nat) (lm2 : Nat) (du2 : Nat) (pr2 : Nat → Nat) (ja2 : Nat → Nat) (rt2 : Nat → Nat)   (hn : n ≤ 60) (htx : ∀ i, tx i < 12) (hC : C ≤ 5) (hp : perm L P) (hT : T ≤ 20) (hK5 : K ≤ 50) (h_pm : pm ≤ 60) (h_jm : jm ≤ 60) : CTl l D cA yX1_digest wsX1_digest rm_X1_digest [.ref (h 0)] ((wC h (g 0) (k 0) cA n tx T C K L P u ua ub) ++ (wT g cA pm jm lm du pr ja rt) ++ (wT k cA pm2 jm2 lm2 du2 pr2 ja2 rt2)) (fun r W1 => r = dgst tx P L n T C K u pm jm lm du pr ja ∧ ∃ (pm1 jm1 lm1 du1 : Nat) (pr1 ja1 rt1 : Nat → Nat), W1 = (wC h (g 0) (k 0) cA n tx T C K L P u ua ub) ++ (wT g cA pm jm lm du pr ja rt) ++ (wT k cA pm1 jm1 lm1 du1 pr1 ja1 rt1)) := by
  refine CTl.mk (cc := cX1_digest) (maxL := 3) (ret := some .long) (by decide) rfl (Nat.le_of_ble_eq_true rfl) ?_
  intro p e s m below meth c A ls E hV hl
  obtain ⟨hx, hb, hml, hr, hown, hts, hlocks, hK, hA, hN⟩ := E
  have hown : s.vm.findClass RX1 = some m.cls := hown
  have hin1 : ∀ w ∈ wsX10, w ∈ wsX1_digest := fun _ h => List.mem_cons_of_mem _ (List.mem_append_left _ (List.mem_append_right _ h))
  have hin0 : ∀ w ∈ wsX00, w ∈ wsX1_digest := fun _ h => List.mem_cons_of_mem _ (List.mem_append_right _ h)
  have hl : lv_has ls 3 [(0, .ref (h 0))] := hl
  refine lv_ldc2 (v := 1783) hx hb hown (hts _ (List.mem_of_getElem? (i := 1) rfl)) dX1_digest_0 ?_
  refine lv_aload_n hx hb dX1_digest_3 rfl (lv_at hl 0 rfl) ?_
  refine q_get (C := RX1) (T := TX1) (N := 12) (ci := 1) (v := .int (nI n)) hx hb hts hin1 hown hK hV 0 rfl rfl 1 (by decide) (List.mem_of_getElem? (i := 2) rfl) rfl dX1_digest_4 ?_
  refine lv_i2l hx hb dX1_digest_7 rfl ?_
  refine k_S_l (w0 := (wC h (g 0) (k 0) cA n tx T C K L P u ua ub) ++ (wT g cA pm jm lm du pr ja rt) ++ (wT k cA pm2 jm2 lm2 du2 pr2 ja2 rt2)) (wc := ([] : va_W)) (As := [.long 1783, .long ((nI n).toInt64)]) (rest := []) hx hb hml hown hts hK hA hN hV hl.1 (c_X1_mix l D cA 1783 ((nI n).toInt64)  ) gX1_digest_X1_mix rfl rfl rfl hdX1_mix ⟨Nat.le_of_ble_eq_true rfl, Nat.le_of_ble_eq_true rfl⟩ rfl rfl (Nat.le_of_ble_eq_true rfl) dX1_digest_8 ⟨Nat.zero_le _, Nat.zero_le _⟩ (fun r W1 H locs hp hV => ?_)
  obtain ⟨hp1, hp2⟩ := hp
  replace hp1 := hp1.symm
  subst hp1
  replace hp2 := hp2.symm
  subst hp2
  have hV : qV D A s.heap ((wC h (g 0) (k 0) cA n tx T C K L P u ua ub) ++ (wT g cA pm jm lm du pr ja rt) ++ (wT k cA pm2 jm2 lm2 du2 pr2 ja2 rt2)) H locs := hV
  refine lv_aload_n hx hb dX1_digest_11 rfl (lv_at hl 0 rfl) ?_
  refine q_get (C := RX1) (T := TX1) (N := 12) (ci := 1) (v := .ref (h 1)) hx hb hts hin1 hown hK hV 0 rfl rfl 0 (by decide) (List.mem_of_getElem? (i := 3) rfl) rfl dX1_digest_12 ?_
  refine lv_aload_n hx hb dX1_digest_15 rfl (lv_at hl 0 rfl) ?_
  refine q_get (C := RX1) (T := TX1) (N := 12) (ci := 1) (v := .int (nI n)) hx hb hts hin1 hown hK hV 0 rfl rfl 1 (by decide) (List.mem_of_getElem? (i := 2) rfl) rfl dX1_digest_16 ?_
  have hV : qV D A s.heap ((((wC h (g 0) (k 0) cA n tx T C K L P u ua ub) ++ (wT g cA pm jm lm du pr ja rt) ++ (wT k cA pm2 jm2 lm2 du2 pr2 ja2 rt2)).eraseIdx 1) ++ (wA (h 1) 60 cA tx)) H locs := hV.sub [0, 2, 3, 4, 5, 6, 7, 8, 9, 10, 11, 12, 13, 1] rfl rfl
  refine k_S_l (w0 := ((wC h (g 0) (k 0) cA n tx T C K L P u ua ub) ++ (wT g cA pm jm lm du pr ja rt) ++ (wT k cA pm2 jm2 lm2 du2 pr2 ja2 rt2)).eraseIdx 1) (wc := wA (h 1) 60 cA tx) (As := [.long (mx 1783 ((nI n).toInt64)), .ref (h 1), .int (nI n)]) (rest := []) hx hb hml hown hts hK hA hN hV hl.1 (c_X1_mixAll l D (h 1) 60 cA tx (mx 1783 ((nI n).toInt64)) n  (by first | omega | assumption) (by first | omega | assumption)) gX1_digest_X1_mixAll rfl rfl rfl hdX1_mixAll ⟨Nat.le_of_ble_eq_true rfl, Nat.le_of_ble_eq_true rfl⟩ rfl rfl (Nat.le_of_ble_eq_true rfl) dX1_digest_19 ⟨Nat.zero_le _, Nat.zero_le _⟩ (fun r W1 H locs hp hV => ?_)
  obtain ⟨hp1, hp2⟩ := hp
  replace hp1 := hp1.symm
  subst hp1
  replace hp2 := hp2.symm
  subst hp2
  have hV : qV D A s.heap ((((wC h (g 0) (k 0) cA n tx T C K L P u ua ub) ++ (wT g cA pm jm lm du pr ja rt) ++ (wT k cA pm2 jm2 lm2 du2 pr2 ja2 rt2)).eraseIdx 1) ++ (wA (h 1) 60 cA tx)) H locs := hV
  have hV : qV D A s.heap ((wC h (g 0) (k 0) cA n tx T C K L P u ua ub) ++ (wT g cA pm jm lm du pr ja rt) ++ (wT k cA pm2 jm2 lm2 du2 pr2 ja2 rt2)) H locs := hV.sub [0, 13, 1, 2, 3, 4, 5, 6, 7, 8, 9, 10, 11, 12] rfl rfl
  refine lv_lstore_n (lv' := [(1, .long (mxF (mx 1783 ((nI n).toInt64)) tx n)), (0, .ref (h 0))]) hx hb dX1_digest_22 rfl hl (by decide) rfl (fun ls hl => ?_)
  refine lv_lload_n hx hb dX1_digest_23 rfl (lv_at hl 0 rfl) ?_
  refine lv_aload_n hx hb dX1_digest_24 rfl (lv_at hl 1 rfl) ?_
  refine q_get (C := RX1) (T := TX1) (N := 12) (ci := 1) (v := .int (nI T)) hx hb hts hin1 hown hK hV 0 rfl rfl 2 (by decide) (List.mem_of_getElem? (i := 4) rfl) rfl dX1_digest_25 ?_
  refine lv_i2l hx hb dX1_digest_28 rfl ?_
  refine k_S_l (w0 := (wC h (g 0) (k 0) cA n tx T C K L P u ua ub) ++ (wT g cA pm jm lm du pr ja rt) ++ (wT k cA pm2 jm2 lm2 du2 pr2 ja2 rt2)) (wc := ([] : va_W)) (As := [.long (mxF (mx 1783 ((nI n).toInt64)) tx n), .long ((nI T).toInt64)]) (rest := []) hx hb hml hown hts hK hA hN hV hl.1 (c_X1_mix l D cA (mxF (mx 1783 ((nI n).toInt64)) tx n) ((nI T).toInt64)  ) gX1_digest_X1_mix rfl rfl rfl hdX1_mix ⟨Nat.le_of_ble_eq_true rfl, Nat.le_of_ble_eq_true rfl⟩ rfl rfl (Nat.le_of_ble_eq_true rfl) dX1_digest_29 ⟨Nat.zero_le _, Nat.zero_le _⟩ (fun r W1 H locs hp hV => ?_)
  obtain ⟨hp1, hp2⟩ := hp
  replace hp1 := hp1.symm
  subst hp1
  replace hp2 := hp2.symm
  subst hp2
  have hV : qV D A s.heap ((wC h (g 0) (k 0) cA n tx T C K L P u ua ub) ++ (wT g cA pm jm lm du pr ja rt) ++ (wT k cA pm2 jm2 lm2 du2 pr2 ja2 rt2)) H locs := hV
  refine lv_lstore_n (lv' := [(1, .long (mx (mxF (mx 1783 ((nI n).toInt64)) tx n) ((nI T).toInt64))), (0, .ref (h 0))]) hx hb dX1_digest_32 rfl hl (by decide) rfl (fun ls hl => ?_)
  refine lv_lload_n hx hb dX1_digest_33 rfl (lv_at hl 0 rfl) ?_
  refine lv_aload_n hx hb dX1_digest_34 rfl (lv_at hl 1 rfl) ?_
  refine q_get (C := RX1) (T := TX1) (N := 12) (ci := 1) (v := .int (nI C)) hx hb hts hin1 hown hK hV 0 rfl rfl 3 (by decide) (List.mem_of_getElem? (i := 5) rfl) rfl dX1_digest_35 ?_
  refine lv_i2l hx hb dX1_digest_38 rfl ?_
  refine k_S_l (w0 := (wC h (g 0) (k 0) cA n tx T C K L P u ua ub) ++ (wT g cA pm jm lm du pr ja rt) ++ (wT k cA pm2 jm2 lm2 du2 pr2 ja2 rt2)) (wc := ([] : va_W)) (As := [.long (mx (mxF (mx 1783 ((nI n).toInt64)) tx n) ((nI T).toInt64)), .long ((nI C).toInt64)]) (rest := []) hx hb hml hown hts hK hA hN hV hl.1 (c_X1_mix l D cA (mx (mxF (mx 1783 ((nI n).toInt64)) tx n) ((nI T).toInt64)) ((nI C).toInt64)  ) gX1_digest_X1_mix rfl rfl rfl hdX1_mix ⟨Nat.le_of_ble_eq_true rfl, Nat.le_of_ble_eq_true rfl⟩ rfl rfl (Nat.le_of_ble_eq_true rfl) dX1_digest_39 ⟨Nat.zero_le _, Nat.zero_le _⟩ (fun r W1 H locs hp hV => ?_)
  obtain ⟨hp1, hp2⟩ := hp
  replace hp1 := hp1.symm
  subst hp1
  replace hp2 := hp2.symm
  subst hp2
  have hV : qV D A s.heap ((wC h (g 0) (k 0) cA n tx T C K L P u ua ub) ++ (wT g cA pm jm lm du pr ja rt) ++ (wT k cA pm2 jm2 lm2 du2 pr2 ja2 rt2)) H locs := hV
  refine lv_lstore_n (lv' := [(1, .long (mx (mx (mxF (mx 1783 ((nI n).toInt64)) tx n) ((nI T).toInt64)) ((nI C).toInt64))), (0, .ref (h 0))]) hx hb dX1_digest_42 rfl hl (by decide) rfl (fun ls hl => ?_)
  refine lv_lload_n hx hb dX1_digest_43 rfl (lv_at hl 0 rfl) ?_
  refine lv_aload_n hx hb dX1_digest_44 rfl (lv_at hl 1 rfl) ?_
  refine q_get (C := RX1) (T := TX1) (N := 12) (ci := 1) (v := .int (nI K)) hx hb hts hin1 hown hK hV 0 rfl rfl 4 (by decide) (List.mem_of_getElem? (i := 6) rfl) rfl dX1_digest_45 ?_
  refine lv_i2l hx hb dX1_digest_48 rfl ?_
  refine k_S_l (w0 := (wC h (g 0) (k 0) cA n tx T C K L P u ua ub) ++ (wT g cA pm jm lm du pr ja rt) ++ (wT k cA pm2 jm2 lm2 du2 pr2 ja2 rt2)) (wc := ([] : va_W)) (As := [.long (mx (mx (mxF (mx 1783 ((nI n).toInt64)) tx n) ((nI T).toInt64)) ((nI C).toInt64)), .long ((nI K).toInt64)]) (rest := []) hx hb hml hown hts hK hA hN hV hl.1 (c_X1_mix l D cA (mx (mx (mxF (mx 1783 ((nI n).toInt64)) tx n) ((nI T).toInt64)) ((nI C).toInt64)) ((nI K).toInt64)  ) gX1_digest_X1_mix rfl rfl rfl hdX1_mix ⟨Nat.le_of_ble_eq_true rfl, Nat.le_of_ble_eq_true rfl⟩ rfl rfl (Nat.le_of_ble_eq_true rfl) dX1_digest_49 ⟨Nat.zero_le _, Nat.zero_le _⟩ (fun r W1 H locs hp hV => ?_)
  obtain ⟨hp1, hp2⟩ := hp
  replace hp1 := hp1.symm
  subst hp1
  replace hp2 := hp2.symm
  subst hp2
  have hV : qV D A s.heap ((wC h (g 0) (k 0) cA n tx T C K L P u ua ub) ++ (wT g cA pm jm lm du pr ja rt) ++ (wT k cA pm2 jm2 lm2 du2 pr2 ja2 rt2)) H locs := hV
  refine lv_lstore_n (lv' := [(1, .long (mx (mx (mx (mxF (mx 1783 ((nI n).toInt64)) tx n) ((nI T).toInt64)) ((nI C).toInt64)) ((nI K).toInt64))), (0, .ref (h 0))]) hx hb dX1_digest_52 rfl hl (by decide) rfl (fun ls hl => ?_)
  refine lv_lload_n hx hb dX1_digest_53 rfl (lv_at hl 0 rfl) ?_
  refine lv_aload_n hx hb dX1_digest_54 rfl (lv_at hl 1 rfl) ?_
  refine q_get (C := RX1) (T := TX1) (N := 12) (ci := 1) (v := .ref (h 2)) hx hb hts hin1 hown hK hV 0 rfl rfl 5 (by decide) (List.mem_of_getElem? (i := 7) rfl) rfl dX1_digest_55 ?_
  refine lv_bipush (v := nI 12) hx hb dX1_digest_58 (by decide) ?_
  have hV : qV D A s.heap ((((wC h (g 0) (k 0) cA n tx T C K L P u ua ub) ++ (wT g cA pm jm lm du pr ja rt) ++ (wT k cA pm2 jm2 lm2 du2 pr2 ja2 rt2)).eraseIdx 2) ++ (wA (h 2) 12 cA L)) H locs := hV.sub [0, 1, 3, 4, 5, 6, 7, 8, 9, 10, 11, 12, 13, 2] rfl rfl
  refine k_S_l (w0 := ((wC h (g 0) (k 0) cA n tx T C K L P u ua ub) ++ (wT g cA pm jm lm du pr ja rt) ++ (wT k cA pm2 jm2 lm2 du2 pr2 ja2 rt2)).eraseIdx 2) (wc := wA (h 2) 12 cA L) (As := [.long (mx (mx (mx (mxF (mx 1783 ((nI n).toInt64)) tx n) ((nI T).toInt64)) ((nI C).toInt64)) ((nI K).toInt64)), .ref (h 2), .int (nI 12)]) (rest := []) hx hb hml hown hts hK hA hN hV hl.1 (c_X1_mixAll l D (h 2) 12 cA L (mx (mx (mx (mxF (mx 1783 ((nI n).toInt64)) tx n) ((nI T).toInt64)) ((nI C).toInt64)) ((nI K).toInt64)) 12  (by first | omega | assumption) (by first | omega | assumption)) gX1_digest_X1_mixAll rfl rfl rfl hdX1_mixAll ⟨Nat.le_of_ble_eq_true rfl, Nat.le_of_ble_eq_true rfl⟩ rfl rfl (Nat.le_of_ble_eq_true rfl) dX1_digest_60 ⟨Nat.zero_le _, Nat.zero_le _⟩ (fun r W1 H locs hp hV => ?_)
  obtain ⟨hp1, hp2⟩ := hp
  replace hp1 := hp1.symm
  subst hp1
  replace hp2 := hp2.symm
  subst hp2
  have hV : qV D A s.heap ((((wC h (g 0) (k 0) cA n tx T C K L P u ua ub) ++ (wT g cA pm jm lm du pr ja rt) ++ (wT k cA pm2 jm2 lm2 du2 pr2 ja2 rt2)).eraseIdx 2) ++ (wA (h 2) 12 cA L)) H locs := hV
  have hV : qV D A s.heap ((wC h (g 0) (k 0) cA n tx T C K L P u ua ub) ++ (wT g cA pm jm lm du pr ja rt) ++ (wT k cA pm2 jm2 lm2 du2 pr2 ja2 rt2)) H locs := hV.sub [0, 1, 13, 2, 3, 4, 5, 6, 7, 8, 9, 10, 11, 12] rfl rfl
  refine lv_lstore_n (lv' := [(1, .long (mxF (mx (mx (mx (mxF (mx 1783 ((nI n).toInt64)) tx n) ((nI T).toInt64)) ((nI C).toInt64)) ((nI K).toInt64)) L 12)), (0, .ref (h 0))]) hx hb dX1_digest_63 rfl hl (by decide) rfl (fun ls hl => ?_)
  refine lv_lload_n hx hb dX1_digest_64 rfl (lv_at hl 0 rfl) ?_
  refine lv_aload_n hx hb dX1_digest_65 rfl (lv_at hl 1 rfl) ?_
  refine q_get (C := RX1) (T := TX1) (N := 12) (ci := 1) (v := .int (nI u)) hx hb hts hin1 hown hK hV 0 rfl rfl 9 (by decide) (List.mem_of_getElem? (i := 8) rfl) rfl dX1_digest_66 ?_
  refine lv_i2l hx hb dX1_digest_69 rfl ?_
  refine k_S_l (w0 := (wC h (g 0) (k 0) cA n tx T C K L P u ua ub) ++ (wT g cA pm jm lm du pr ja rt) ++ (wT k cA pm2 jm2 lm2 du2 pr2 ja2 rt2)) (wc := ([] : va_W)) (As := [.long (mxF (mx (mx (mx (mxF (mx 1783 ((nI n).toInt64)) tx n) ((nI T).toInt64)) ((nI C).toInt64)) ((nI K).toInt64)) L 12), .long ((nI u).toInt64)]) (rest := []) hx hb hml hown hts hK hA hN hV hl.1 (c_X1_mix l D cA (mxF (mx (mx (mx (mxF (mx 1783 ((nI n).toInt64)) tx n) ((nI T).toInt64)) ((nI C).toInt64)) ((nI K).toInt64)) L 12) ((nI u).toInt64)  ) gX1_digest_X1_mix rfl rfl rfl hdX1_mix ⟨Nat.le_of_ble_eq_true rfl, Nat.le_of_ble_eq_true rfl⟩ rfl rfl (Nat.le_of_ble_eq_true rfl) dX1_digest_70 ⟨Nat.zero_le _, Nat.zero_le _⟩ (fun r W1 H locs hp hV => ?_)
  obtain ⟨hp1, hp2⟩ := hp
  replace hp1 := hp1.symm
  subst hp1
  replace hp2 := hp2.symm
  subst hp2
  have hV : qV D A s.heap ((wC h (g 0) (k 0) cA n tx T C K L P u ua ub) ++ (wT g cA pm jm lm du pr ja rt) ++ (wT k cA pm2 jm2 lm2 du2 pr2 ja2 rt2)) H locs := hV
  refine lv_lstore_n (lv' := [(1, .long (mx (mxF (mx (mx (mx (mxF (mx 1783 ((nI n).toInt64)) tx n) ((nI T).toInt64)) ((nI C).toInt64)) ((nI K).toInt64)) L 12) ((nI u).toInt64))), (0, .ref (h 0))]) hx hb dX1_digest_73 rfl hl (by decide) rfl (fun ls hl => ?_)
  refine lv_lload_n hx hb dX1_digest_74 rfl (lv_at hl 0 rfl) ?_
  refine lv_aload_n hx hb dX1_digest_75 rfl (lv_at hl 1 rfl) ?_
  have hV : qV D A s.heap ((wT g cA pm jm lm du pr ja rt) ++ (wT k cA pm2 jm2 lm2 du2 pr2 ja2 rt2) ++ (wC h (g 0) (k 0) cA n tx T C K L P u ua ub)) H locs := hV.sub [6, 7, 8, 9, 10, 11, 12, 13, 0, 1, 2, 3, 4, 5] rfl rfl
  refine k_V_i (w0 := (wT g cA pm jm lm du pr ja rt) ++ (wT k cA pm2 jm2 lm2 du2 pr2 ja2 rt2)) (wc := wC h (g 0) (k 0) cA n tx T C K L P u ua ub) (b := h 0) (As := []) (rest := [.long (mx (mxF (mx (mx (mx (mxF (mx 1783 ((nI n).toInt64)) tx n) ((nI T).toInt64)) ((nI C).toInt64)) ((nI K).toInt64)) L 12) ((nI u).toInt64))]) hx hb hml hown hts hK hA hN hV hl.1 (c_X1_cost l D h (g 0) (k 0) cA n tx T C K L P u ua ub   (by first | omega | assumption) (by first | omega | assumption) (by first | omega | assumption) (by first | omega | assumption)) gX1_digest_X1_cost rfl rfl rfl hdX1_cost ⟨Nat.le_of_ble_eq_true rfl, Nat.le_of_ble_eq_true rfl⟩ 8 1 rfl rfl rfl rfl rfl (Nat.le_of_ble_eq_true rfl) dX1_digest_76 ⟨Nat.zero_le _, Nat.zero_le _⟩ (fun r W1 H locs hp hV => ?_)
  obtain ⟨hp1, hp2⟩ := hp
  replace hp1 := hp1.symm
  subst hp1
  replace hp2 := hp2.symm
  subst hp2
  have hV : qV D A s.heap ((wT g cA pm jm lm du pr ja rt) ++ (wT k cA pm2 jm2 lm2 du2 pr2 ja2 rt2) ++ (wC h (g 0) (k 0) cA n tx T C K L P u ua ub)) H locs := hV
  have hV : qV D A s.heap ((wC h (g 0) (k 0) cA n tx T C K L P u ua ub) ++ (wT g cA pm jm lm du pr ja rt) ++ (wT k cA pm2 jm2 lm2 du2 pr2 ja2 rt2)) H locs := hV.sub [8, 9, 10, 11, 12, 13, 0, 1, 2, 3, 4, 5, 6, 7] rfl rfl
  have f1 := cst_lt P tx (j := n - 1) hC (by omega)
  refine lv_i2l hx hb dX1_digest_79 rfl ?_
  refine k_S_l (w0 := (wC h (g 0) (k 0) cA n tx T C K L P u ua ub) ++ (wT g cA pm jm lm du pr ja rt) ++ (wT k cA pm2 jm2 lm2 du2 pr2 ja2 rt2)) (wc := ([] : va_W)) (As := [.long (mx (mxF (mx (mx (mx (mxF (mx 1783 ((nI n).toInt64)) tx n) ((nI T).toInt64)) ((nI C).toInt64)) ((nI K).toInt64)) L 12) ((nI u).toInt64)), .long ((nI (cst C P tx (n - 1))).toInt64)]) (rest := []) hx hb hml hown hts hK hA hN hV hl.1 (c_X1_mix l D cA (mx (mxF (mx (mx (mx (mxF (mx 1783 ((nI n).toInt64)) tx n) ((nI T).toInt64)) ((nI C).toInt64)) ((nI K).toInt64)) L 12) ((nI u).toInt64)) ((nI (cst C P tx (n - 1))).toInt64)  ) gX1_digest_X1_mix rfl rfl rfl hdX1_mix ⟨Nat.le_of_ble_eq_true rfl, Nat.le_of_ble_eq_true rfl⟩ rfl rfl (Nat.le_of_ble_eq_true rfl) dX1_digest_80 ⟨Nat.zero_le _, Nat.zero_le _⟩ (fun r W1 H locs hp hV => ?_)
  obtain ⟨hp1, hp2⟩ := hp
  replace hp1 := hp1.symm
  subst hp1
  replace hp2 := hp2.symm
  subst hp2
  have hV : qV D A s.heap ((wC h (g 0) (k 0) cA n tx T C K L P u ua ub) ++ (wT g cA pm jm lm du pr ja rt) ++ (wT k cA pm2 jm2 lm2 du2 pr2 ja2 rt2)) H locs := hV
  refine lv_lstore_n (lv' := [(1, .long (mx (mx (mxF (mx (mx (mx (mxF (mx 1783 ((nI n).toInt64)) tx n) ((nI T).toInt64)) ((nI C).toInt64)) ((nI K).toInt64)) L 12) ((nI u).toInt64)) ((nI (cst C P tx (n - 1))).toInt64))), (0, .ref (h 0))]) hx hb dX1_digest_83 rfl hl (by decide) rfl (fun ls hl => ?_)
  refine lv_lload_n hx hb dX1_digest_84 rfl (lv_at hl 0 rfl) ?_
  refine lv_aload_n hx hb dX1_digest_85 rfl (lv_at hl 1 rfl) ?_
  have hV : qV D A s.heap ((wT g cA pm jm lm du pr ja rt) ++ (wT k cA pm2 jm2 lm2 du2 pr2 ja2 rt2) ++ (wC h (g 0) (k 0) cA n tx T C K L P u ua ub)) H locs := hV.sub [6, 7, 8, 9, 10, 11, 12, 13, 0, 1, 2, 3, 4, 5] rfl rfl
  refine k_V_i (w0 := (wT g cA pm jm lm du pr ja rt) ++ (wT k cA pm2 jm2 lm2 du2 pr2 ja2 rt2)) (wc := wC h (g 0) (k 0) cA n tx T C K L P u ua ub) (b := h 0) (As := []) (rest := [.long (mx (mx (mxF (mx (mx (mx (mxF (mx 1783 ((nI n).toInt64)) tx n) ((nI T).toInt64)) ((nI C).toInt64)) ((nI K).toInt64)) L 12) ((nI u).toInt64)) ((nI (cst C P tx (n - 1))).toInt64))]) hx hb hml hown hts hK hA hN hV hl.1 (c_X1_bestSwap l D h (g 0) (k 0) cA n tx T C K L P u ua ub   (by first | omega | assumption) (by first | omega | assumption) (by first | omega | assumption) (by first | omega | assumption)) gX1_digest_X1_bestSwap rfl rfl rfl hdX1_bestSwap ⟨Nat.le_of_ble_eq_true rfl, Nat.le_of_ble_eq_true rfl⟩ 8 1 rfl rfl rfl rfl rfl (Nat.le_of_ble_eq_true rfl) dX1_digest_86 ⟨Nat.zero_le _, Nat.zero_le _⟩ (fun r W1 H locs hp hV => ?_)
  obtain ⟨hp1, hp2⟩ := hp
  replace hp1 := hp1.symm
  subst hp1
  replace hp2 := hp2.symm
  subst hp2
  have hV : qV D A s.heap ((wT g cA pm jm lm du pr ja rt) ++ (wT k cA pm2 jm2 lm2 du2 pr2 ja2 rt2) ++ (wC h (g 0) (k 0) cA n tx T C K L P u ua ub)) H locs := hV
  have hV : qV D A s.heap ((wC h (g 0) (k 0) cA n tx T C K L P u ua ub) ++ (wT g cA pm jm lm du pr ja rt) ++ (wT k cA pm2 jm2 lm2 du2 pr2 ja2 rt2)) H locs := hV.sub [8, 9, 10, 11, 12, 13, 0, 1, 2, 3, 4, 5, 6, 7] rfl rfl
  refine lv_i2l hx hb dX1_digest_89 rfl ?_
  refine k_S_l (w0 := (wC h (g 0) (k 0) cA n tx T C K L P u ua ub) ++ (wT g cA pm jm lm du pr ja rt) ++ (wT k cA pm2 jm2 lm2 du2 pr2 ja2 rt2)) (wc := ([] : va_W)) (As := [.long (mx (mx (mxF (mx (mx (mx (mxF (mx 1783 ((nI n).toInt64)) tx n) ((nI T).toInt64)) ((nI C).toInt64)) ((nI K).toInt64)) L 12) ((nI u).toInt64)) ((nI (cst C P tx (n - 1))).toInt64)), .long ((bV (bst C L P tx n)).toInt64)]) (rest := []) hx hb hml hown hts hK hA hN hV hl.1 (c_X1_mix l D cA (mx (mx (mxF (mx (mx (mx (mxF (mx 1783 ((nI n).toInt64)) tx n) ((nI T).toInt64)) ((nI C).toInt64)) ((nI K).toInt64)) L 12) ((nI u).toInt64)) ((nI (cst C P tx (n - 1))).toInt64)) ((bV (bst C L P tx n)).toInt64)  ) gX1_digest_X1_mix rfl rfl rfl hdX1_mix ⟨Nat.le_of_ble_eq_true rfl, Nat.le_of_ble_eq_true rfl⟩ rfl rfl (Nat.le_of_ble_eq_true rfl) dX1_digest_90 ⟨Nat.zero_le _, Nat.zero_le _⟩ (fun r W1 H locs hp hV => ?_)
  obtain ⟨hp1, hp2⟩ := hp
  replace hp1 := hp1.symm
  subst hp1
  replace hp2 := hp2.symm
  subst hp2
  have hV : qV D A s.heap ((wC h (g 0) (k 0) cA n tx T C K L P u ua ub) ++ (wT g cA pm jm lm du pr ja rt) ++ (wT k cA pm2 jm2 lm2 du2 pr2 ja2 rt2)) H locs := hV
  refine lv_lstore_n (lv' := [(1, .long (mx (mx (mx (mxF (mx (mx (mx (mxF (mx 1783 ((nI n).toInt64)) tx n) ((nI T).toInt64)) ((nI C).toInt64)) ((nI K).toInt64)) L 12) ((nI u).toInt64)) ((nI (cst C P tx (n - 1))).toInt64)) ((bV (bst C L P tx n)).toInt64))), (0, .ref (h 0))]) hx hb dX1_digest_93 rfl hl (by decide) rfl (fun ls hl => ?_)
  refine lv_lload_n hx hb dX1_digest_94 rfl (lv_at hl 0 rfl) ?_
  refine lv_aload_n hx hb dX1_digest_95 rfl (lv_at hl 1 rfl) ?_
  have hV : qV D A s.heap ((wT g cA pm jm lm du pr ja rt) ++ (wT k cA pm2 jm2 lm2 du2 pr2 ja2 rt2) ++ (wC h (g 0) (k 0) cA n tx T C K L P u ua ub)) H locs := hV.sub [6, 7, 8, 9, 10, 11, 12, 13, 0, 1, 2, 3, 4, 5] rfl rfl
  refine k_V_i (w0 := (wT g cA pm jm lm du pr ja rt) ++ (wT k cA pm2 jm2 lm2 du2 pr2 ja2 rt2)) (wc := wC h (g 0) (k 0) cA n tx T C K L P u ua ub) (b := h 0) (As := []) (rest := [.long (mx (mx (mx (mxF (mx (mx (mx (mxF (mx 1783 ((nI n).toInt64)) tx n) ((nI T).toInt64)) ((nI C).toInt64)) ((nI K).toInt64)) L 12) ((nI u).toInt64)) ((nI (cst C P tx (n - 1))).toInt64)) ((bV (bst C L P tx n)).toInt64))]) hx hb hml hown hts hK hA hN hV hl.1 (c_X1_worstLetter l D h (g 0) (k 0) cA n tx T C K L P u ua ub   (by first | omega | assumption) (by first | omega | assumption) (by first | omega | assumption) (by first | omega | assumption)) gX1_digest_X1_worstLetter rfl rfl rfl hdX1_worstLetter ⟨Nat.le_of_ble_eq_true rfl, Nat.le_of_ble_eq_true rfl⟩ 8 1 rfl rfl rfl rfl rfl (Nat.le_of_ble_eq_true rfl) dX1_digest_96 ⟨Nat.zero_le _, Nat.zero_le _⟩ (fun r W1 H locs hp hV => ?_)
  obtain ⟨hp1, hp2⟩ := hp
  replace hp1 := hp1.symm
  subst hp1
  replace hp2 := hp2.symm
  subst hp2
  have hV : qV D A s.heap ((wT g cA pm jm lm du pr ja rt) ++ (wT k cA pm2 jm2 lm2 du2 pr2 ja2 rt2) ++ (wC h (g 0) (k 0) cA n tx T C K L P u ua ub)) H locs := hV
  have hV : qV D A s.heap ((wC h (g 0) (k 0) cA n tx T C K L P u ua ub) ++ (wT g cA pm jm lm du pr ja rt) ++ (wT k cA pm2 jm2 lm2 du2 pr2 ja2 rt2)) H locs := hV.sub [8, 9, 10, 11, 12, 13, 0, 1, 2, 3, 4, 5, 6, 7] rfl rfl
  refine lv_i2l hx hb dX1_digest_99 rfl ?_
  refine k_S_l (w0 := (wC h (g 0) (k 0) cA n tx T C K L P u ua ub) ++ (wT g cA pm jm lm du pr ja rt) ++ (wT k cA pm2 jm2 lm2 du2 pr2 ja2 rt2)) (wc := ([] : va_W)) (As := [.long (mx (mx (mx (mxF (mx (mx (mx (mxF (mx 1783 ((nI n).toInt64)) tx n) ((nI T).toInt64)) ((nI C).toInt64)) ((nI K).toInt64)) L 12) ((nI u).toInt64)) ((nI (cst C P tx (n - 1))).toInt64)) ((bV (bst C L P tx n)).toInt64)), .long ((wV (wst C P tx n 12).2).toInt64)]) (rest := []) hx hb hml hown hts hK hA hN hV hl.1 (c_X1_mix l D cA (mx (mx (mx (mxF (mx (mx (mx (mxF (mx 1783 ((nI n).toInt64)) tx n) ((nI T).toInt64)) ((nI C).toInt64)) ((nI K).toInt64)) L 12) ((nI u).toInt64)) ((nI (cst C P tx (n - 1))).toInt64)) ((bV (bst C L P tx n)).toInt64)) ((wV (wst C P tx n 12).2).toInt64)  ) gX1_digest_X1_mix rfl rfl rfl hdX1_mix ⟨Nat.le_of_ble_eq_true rfl, Nat.le_of_ble_eq_true rfl⟩ rfl rfl (Nat.le_of_ble_eq_true rfl) dX1_digest_100 ⟨Nat.zero_le _, Nat.zero_le _⟩ (fun r W1 H locs hp hV => ?_)
  obtain ⟨hp1, hp2⟩ := hp
  replace hp1 := hp1.symm
  subst hp1
  replace hp2 := hp2.symm
  subst hp2
  have hV : qV D A s.heap ((wC h (g 0) (k 0) cA n tx T C K L P u ua ub) ++ (wT g cA pm jm lm du pr ja rt) ++ (wT k cA pm2 jm2 lm2 du2 pr2 ja2 rt2)) H locs := hV
  refine lv_lstore_n (lv' := [(1, .long (mx (mx (mx (mx (mxF (mx (mx (mx (mxF (mx 1783 ((nI n).toInt64)) tx n) ((nI T).toInt64)) ((nI C).toInt64)) ((nI K).toInt64)) L 12) ((nI u).toInt64)) ((nI (cst C P tx (n - 1))).toInt64)) ((bV (bst C L P tx n)).toInt64)) ((wV (wst C P tx n 12).2).toInt64))), (0, .ref (h 0))]) hx hb dX1_digest_103 rfl hl (by decide) rfl (fun ls hl => ?_)
  refine lv_lload_n hx hb dX1_digest_104 rfl (lv_at hl 0 rfl) ?_
  refine lv_aload_n hx hb dX1_digest_105 rfl (lv_at hl 1 rfl) ?_
  have hV : qV D A s.heap ((wT g cA pm jm lm du pr ja rt) ++ (wC h (g 0) (k 0) cA n tx T C K L P u ua ub) ++ (wT k cA pm2 jm2 lm2 du2 pr2 ja2 rt2)) H locs := hV.sub [6, 7, 8, 9, 0, 1, 2, 3, 4, 5, 10, 11, 12, 13] rfl rfl
  refine k_V_i (w0 := wT g cA pm jm lm du pr ja rt) (wc := (wC h (g 0) (k 0) cA n tx T C K L P u ua ub) ++ (wT k cA pm2 jm2 lm2 du2 pr2 ja2 rt2)) (b := h 0) (As := []) (rest := [.long (mx (mx (mx (mx (mxF (mx (mx (mx (mxF (mx 1783 ((nI n).toInt64)) tx n) ((nI T).toInt64)) ((nI C).toInt64)) ((nI K).toInt64)) L 12) ((nI u).toInt64)) ((nI (cst C P tx (n - 1))).toInt64)) ((bV (bst C L P tx n)).toInt64)) ((wV (wst C P tx n 12).2).toInt64))]) hx hb hml hown hts hK hA hN hV hl.1 (c_X1_safeInterval l D h (g 0) cA n tx T C K L P u ua ub k pm2 jm2 lm2 du2 pr2 ja2 rt2   (by first | omega | assumption) (by first | omega | assumption) (by first | omega | assumption) (by first | omega | assumption) (by first | omega | assumption) (by first | omega | assumption)) gX1_digest_X1_safeInterval rfl rfl rfl hdX1_safeInterval ⟨Nat.le_of_ble_eq_true rfl, Nat.le_of_ble_eq_true rfl⟩ 4 1 rfl rfl rfl rfl rfl (Nat.le_of_ble_eq_true rfl) dX1_digest_106 ⟨Nat.zero_le _, Nat.zero_le _⟩ (fun r W1 H locs hp hV => ?_)
  obtain ⟨hp1, pm3, jm3, lm3, du3, pr3, ja3, rt3, hp2⟩ := hp
  replace hp1 := hp1.symm
  subst hp1
  replace hp2 := hp2.symm
  subst hp2
  have hV : qV D A s.heap ((wT g cA pm jm lm du pr ja rt) ++ (wC h (g 0) (k 0) cA n tx T C K L P u ua ub) ++ (wT k cA pm3 jm3 lm3 du3 pr3 ja3 rt3)) H locs := hV
  have hV : qV D A s.heap ((wC h (g 0) (k 0) cA n tx T C K L P u ua ub) ++ (wT g cA pm jm lm du pr ja rt) ++ (wT k cA pm3 jm3 lm3 du3 pr3 ja3 rt3)) H locs := hV.sub [4, 5, 6, 7, 8, 9, 0, 1, 2, 3, 10, 11, 12, 13] rfl rfl
  refine lv_i2l hx hb dX1_digest_109 rfl ?_
  refine k_S_l (w0 := (wC h (g 0) (k 0) cA n tx T C K L P u ua ub) ++ (wT g cA pm jm lm du pr ja rt) ++ (wT k cA pm3 jm3 lm3 du3 pr3 ja3 rt3)) (wc := ([] : va_W)) (As := [.long (mx (mx (mx (mx (mxF (mx (mx (mx (mxF (mx 1783 ((nI n).toInt64)) tx n) ((nI T).toInt64)) ((nI C).toInt64)) ((nI K).toInt64)) L 12) ((nI u).toInt64)) ((nI (cst C P tx (n - 1))).toInt64)) ((bV (bst C L P tx n)).toInt64)) ((wV (wst C P tx n 12).2).toInt64)), .long ((bV (sfi tx P T C K n)).toInt64)]) (rest := []) hx hb hml hown hts hK hA hN hV hl.1 (c_X1_mix l D cA (mx (mx (mx (mx (mxF (mx (mx (mx (mxF (mx 1783 ((nI n).toInt64)) tx n) ((nI T).toInt64)) ((nI C).toInt64)) ((nI K).toInt64)) L 12) ((nI u).toInt64)) ((nI (cst C P tx (n - 1))).toInt64)) ((bV (bst C L P tx n)).toInt64)) ((wV (wst C P tx n 12).2).toInt64)) ((bV (sfi tx P T C K n)).toInt64)  ) gX1_digest_X1_mix rfl rfl rfl hdX1_mix ⟨Nat.le_of_ble_eq_true rfl, Nat.le_of_ble_eq_true rfl⟩ rfl rfl (Nat.le_of_ble_eq_true rfl) dX1_digest_110 ⟨Nat.zero_le _, Nat.zero_le _⟩ (fun r W1 H locs hp hV => ?_)
  obtain ⟨hp1, hp2⟩ := hp
  replace hp1 := hp1.symm
  subst hp1
  replace hp2 := hp2.symm
  subst hp2
  have hV : qV D A s.heap ((wC h (g 0) (k 0) cA n tx T C K L P u ua ub) ++ (wT g cA pm jm lm du pr ja rt) ++ (wT k cA pm3 jm3 lm3 du3 pr3 ja3 rt3)) H locs := hV
  refine lv_lstore_n (lv' := [(1, .long (mx (mx (mx (mx (mx (mxF (mx (mx (mx (mxF (mx 1783 ((nI n).toInt64)) tx n) ((nI T).toInt64)) ((nI C).toInt64)) ((nI K).toInt64)) L 12) ((nI u).toInt64)) ((nI (cst C P tx (n - 1))).toInt64)) ((bV (bst C L P tx n)).toInt64)) ((wV (wst C P tx n 12).2).toInt64)) ((bV (sfi tx P T C K n)).toInt64))), (0, .ref (h 0))]) hx hb dX1_digest_113 rfl hl (by decide) rfl (fun ls hl => ?_)
  refine lv_lload_n hx hb dX1_digest_114 rfl (lv_at hl 0 rfl) ?_
  refine lv_aload_n hx hb dX1_digest_115 rfl (lv_at hl 1 rfl) ?_
  refine q_get (C := RX1) (T := TX1) (N := 12) (ci := 1) (v := .ref (g 0)) hx hb hts hin1 hown hK hV 0 rfl rfl 10 (by decide) (List.mem_of_getElem? (i := 9) rfl) rfl dX1_digest_116 ?_
  refine q_getN (C := RX0) (T := TX0) (N := 7) (ci := 0) (v := .int (nI jm)) hx hb hts hin0 hown hK hV 6 rfl rfl 3 (by decide) hN (List.mem_of_getElem? (i := 4) rfl) rfl dX1_digest_119 ?_
  refine lv_i2l hx hb dX1_digest_122 rfl ?_
  refine k_S_l (w0 := (wC h (g 0) (k 0) cA n tx T C K L P u ua ub) ++ (wT g cA pm jm lm du pr ja rt) ++ (wT k cA pm3 jm3 lm3 du3 pr3 ja3 rt3)) (wc := ([] : va_W)) (As := [.long (mx (mx (mx (mx (mx (mxF (mx (mx (mx (mxF (mx 1783 ((nI n).toInt64)) tx n) ((nI T).toInt64)) ((nI C).toInt64)) ((nI K).toInt64)) L 12) ((nI u).toInt64)) ((nI (cst C P tx (n - 1))).toInt64)) ((bV (bst C L P tx n)).toInt64)) ((wV (wst C P tx n 12).2).toInt64)) ((bV (sfi tx P T C K n)).toInt64)), .long ((nI jm).toInt64)]) (rest := []) hx hb hml hown hts hK hA hN hV hl.1 (c_X1_mix l D cA (mx (mx (mx (mx (mx (mxF (mx (mx (mx (mxF (mx 1783 ((nI n).toInt64)) tx n) ((nI T).toInt64)) ((nI C).toInt64)) ((nI K).toInt64)) L 12) ((nI u).toInt64)) ((nI (cst C P tx (n - 1))).toInt64)) ((bV (bst C L P tx n)).toInt64)) ((wV (wst C P tx n 12).2).toInt64)) ((bV (sfi tx P T C K n)).toInt64)) ((nI jm).toInt64)  ) gX1_digest_X1_mix rfl rfl rfl hdX1_mix ⟨Nat.le_of_ble_eq_true rfl, Nat.le_of_ble_eq_true rfl⟩ rfl rfl (Nat.le_of_ble_eq_true rfl) dX1_digest_123 ⟨Nat.zero_le _, Nat.zero_le _⟩ (fun r W1 H locs hp hV => ?_)
  obtain ⟨hp1, hp2⟩ := hp
  replace hp1 := hp1.symm
  subst hp1
  replace hp2 := hp2.symm
  subst hp2
  have hV : qV D A s.heap ((wC h (g 0) (k 0) cA n tx T C K L P u ua ub) ++ (wT g cA pm jm lm du pr ja rt) ++ (wT k cA pm3 jm3 lm3 du3 pr3 ja3 rt3)) H locs := hV
  refine lv_lstore_n (lv' := [(1, .long (mx (mx (mx (mx (mx (mx (mxF (mx (mx (mx (mxF (mx 1783 ((nI n).toInt64)) tx n) ((nI T).toInt64)) ((nI C).toInt64)) ((nI K).toInt64)) L 12) ((nI u).toInt64)) ((nI (cst C P tx (n - 1))).toInt64)) ((bV (bst C L P tx n)).toInt64)) ((wV (wst C P tx n 12).2).toInt64)) ((bV (sfi tx P T C K n)).toInt64)) ((nI jm).toInt64))), (0, .ref (h 0))]) hx hb dX1_digest_126 rfl hl (by decide) rfl (fun ls hl => ?_)
  refine lv_lload_n hx hb dX1_digest_127 rfl (lv_at hl 0 rfl) ?_
  refine lv_aload_n hx hb dX1_digest_128 rfl (lv_at hl 1 rfl) ?_
  refine q_get (C := RX1) (T := TX1) (N := 12) (ci := 1) (v := .ref (g 0)) hx hb hts hin1 hown hK hV 0 rfl rfl 10 (by decide) (List.mem_of_getElem? (i := 9) rfl) rfl dX1_digest_129 ?_
  refine q_getN (C := RX0) (T := TX0) (N := 7) (ci := 0) (v := .int (nI lm)) hx hb hts hin0 hown hK hV 6 rfl rfl 4 (by decide) hN (List.mem_of_getElem? (i := 5) rfl) rfl dX1_digest_132 ?_
  refine lv_i2l hx hb dX1_digest_135 rfl ?_
  refine k_S_l (w0 := (wC h (g 0) (k 0) cA n tx T C K L P u ua ub) ++ (wT g cA pm jm lm du pr ja rt) ++ (wT k cA pm3 jm3 lm3 du3 pr3 ja3 rt3)) (wc := ([] : va_W)) (As := [.long (mx (mx (mx (mx (mx (mx (mxF (mx (mx (mx (mxF (mx 1783 ((nI n).toInt64)) tx n) ((nI T).toInt64)) ((nI C).toInt64)) ((nI K).toInt64)) L 12) ((nI u).toInt64)) ((nI (cst C P tx (n - 1))).toInt64)) ((bV (bst C L P tx n)).toInt64)) ((wV (wst C P tx n 12).2).toInt64)) ((bV (sfi tx P T C K n)).toInt64)) ((nI jm).toInt64)), .long ((nI lm).toInt64)]) (rest := []) hx hb hml hown hts hK hA hN hV hl.1 (c_X1_mix l D cA (mx (mx (mx (mx (mx (mx (mxF (mx (mx (mx (mxF (mx 1783 ((nI n).toInt64)) tx n) ((nI T).toInt64)) ((nI C).toInt64)) ((nI K).toInt64)) L 12) ((nI u).toInt64)) ((nI (cst C P tx (n - 1))).toInt64)) ((bV (bst C L P tx n)).toInt64)) ((wV (wst C P tx n 12).2).toInt64)) ((bV (sfi tx P T C K n)).toInt64)) ((nI jm).toInt64)) ((nI lm).toInt64)  ) gX1_digest_X1_mix rfl rfl rfl hdX1_mix ⟨Nat.le_of_ble_eq_true rfl, Nat.le_of_ble_eq_true rfl⟩ rfl rfl (Nat.le_of_ble_eq_true rfl) dX1_digest_136 ⟨Nat.zero_le _, Nat.zero_le _⟩ (fun r W1 H locs hp hV => ?_)
  obtain ⟨hp1, hp2⟩ := hp
  replace hp1 := hp1.symm
  subst hp1
  replace hp2 := hp2.symm
  subst hp2
  have hV : qV D A s.heap ((wC h (g 0) (k 0) cA n tx T C K L P u ua ub) ++ (wT g cA pm jm lm du pr ja rt) ++ (wT k cA pm3 jm3 lm3 du3 pr3 ja3 rt3)) H locs := hV
  refine lv_lstore_n (lv' := [(1, .long (mx (mx (mx (mx (mx (mx (mx (mxF (mx (mx (mx (mxF (mx 1783 ((nI n).toInt64)) tx n) ((nI T).toInt64)) ((nI C).toInt64)) ((nI K).toInt64)) L 12) ((nI u).toInt64)) ((nI (cst C P tx (n - 1))).toInt64)) ((bV (bst C L P tx n)).toInt64)) ((wV (wst C P tx n 12).2).toInt64)) ((bV (sfi tx P T C K n)).toInt64)) ((nI jm).toInt64)) ((nI lm).toInt64))), (0, .ref (h 0))]) hx hb dX1_digest_139 rfl hl (by decide) rfl (fun ls hl => ?_)
  refine lv_lload_n hx hb dX1_digest_140 rfl (lv_at hl 0 rfl) ?_
  refine lv_aload_n hx hb dX1_digest_141 rfl (lv_at hl 1 rfl) ?_
  refine q_get (C := RX1) (T := TX1) (N := 12) (ci := 1) (v := .ref (g 0)) hx hb hts hin1 hown hK hV 0 rfl rfl 10 (by decide) (List.mem_of_getElem? (i := 9) rfl) rfl dX1_digest_142 ?_
  refine q_getN (C := RX0) (T := TX0) (N := 7) (ci := 0) (v := .int (nI du)) hx hb hts hin0 hown hK hV 6 rfl rfl 5 (by decide) hN (List.mem_of_getElem? (i := 6) rfl) rfl dX1_digest_145 ?_
  refine lv_i2l hx hb dX1_digest_148 rfl ?_
  refine k_S_l (w0 := (wC h (g 0) (k 0) cA n tx T C K L P u ua ub) ++ (wT g cA pm jm lm du pr ja rt) ++ (wT k cA pm3 jm3 lm3 du3 pr3 ja3 rt3)) (wc := ([] : va_W)) (As := [.long (mx (mx (mx (mx (mx (mx (mx (mxF (mx (mx (mx (mxF (mx 1783 ((nI n).toInt64)) tx n) ((nI T).toInt64)) ((nI C).toInt64)) ((nI K).toInt64)) L 12) ((nI u).toInt64)) ((nI (cst C P tx (n - 1))).toInt64)) ((bV (bst C L P tx n)).toInt64)) ((wV (wst C P tx n 12).2).toInt64)) ((bV (sfi tx P T C K n)).toInt64)) ((nI jm).toInt64)) ((nI lm).toInt64)), .long ((nI du).toInt64)]) (rest := []) hx hb hml hown hts hK hA hN hV hl.1 (c_X1_mix l D cA (mx (mx (mx (mx (mx (mx (mx (mxF (mx (mx (mx (mxF (mx 1783 ((nI n).toInt64)) tx n) ((nI T).toInt64)) ((nI C).toInt64)) ((nI K).toInt64)) L 12) ((nI u).toInt64)) ((nI (cst C P tx (n - 1))).toInt64)) ((bV (bst C L P tx n)).toInt64)) ((wV (wst C P tx n 12).2).toInt64)) ((bV (sfi tx P T C K n)).toInt64)) ((nI jm).toInt64)) ((nI lm).toInt64)) ((nI du).toInt64)  ) gX1_digest_X1_mix rfl rfl rfl hdX1_mix ⟨Nat.le_of_ble_eq_true rfl, Nat.le_of_ble_eq_true rfl⟩ rfl rfl (Nat.le_of_ble_eq_true rfl) dX1_digest_149 ⟨Nat.zero_le _, Nat.zero_le _⟩ (fun r W1 H locs hp hV => ?_)
  obtain ⟨hp1, hp2⟩ := hp
  replace hp1 := hp1.symm
  subst hp1
  replace hp2 := hp2.symm
  subst hp2
  have hV : qV D A s.heap ((wC h (g 0) (k 0) cA n tx T C K L P u ua ub) ++ (wT g cA pm jm lm du pr ja rt) ++ (wT k cA pm3 jm3 lm3 du3 pr3 ja3 rt3)) H locs := hV
  refine lv_lstore_n (lv' := [(1, .long (mx (mx (mx (mx (mx (mx (mx (mx (mxF (mx (mx (mx (mxF (mx 1783 ((nI n).toInt64)) tx n) ((nI T).toInt64)) ((nI C).toInt64)) ((nI K).toInt64)) L 12) ((nI u).toInt64)) ((nI (cst C P tx (n - 1))).toInt64)) ((bV (bst C L P tx n)).toInt64)) ((wV (wst C P tx n 12).2).toInt64)) ((bV (sfi tx P T C K n)).toInt64)) ((nI jm).toInt64)) ((nI lm).toInt64)) ((nI du).toInt64))), (0, .ref (h 0))]) hx hb dX1_digest_152 rfl hl (by decide) rfl (fun ls hl => ?_)
  refine lv_lload_n hx hb dX1_digest_153 rfl (lv_at hl 0 rfl) ?_
  refine lv_aload_n hx hb dX1_digest_154 rfl (lv_at hl 1 rfl) ?_
  refine q_get (C := RX1) (T := TX1) (N := 12) (ci := 1) (v := .ref (g 0)) hx hb hts hin1 hown hK hV 0 rfl rfl 10 (by decide) (List.mem_of_getElem? (i := 9) rfl) rfl dX1_digest_155 ?_
  refine q_getN (C := RX0) (T := TX0) (N := 7) (ci := 0) (v := .int (nI pm)) hx hb hts hin0 hown hK hV 6 rfl rfl 1 (by decide) hN (List.mem_of_getElem? (i := 2) rfl) rfl dX1_digest_158 ?_
  refine lv_i2l hx hb dX1_digest_161 rfl ?_
  refine k_S_l (w0 := (wC h (g 0) (k 0) cA n tx T C K L P u ua ub) ++ (wT g cA pm jm lm du pr ja rt) ++ (wT k cA pm3 jm3 lm3 du3 pr3 ja3 rt3)) (wc := ([] : va_W)) (As := [.long (mx (mx (mx (mx (mx (mx (mx (mx (mxF (mx (mx (mx (mxF (mx 1783 ((nI n).toInt64)) tx n) ((nI T).toInt64)) ((nI C).toInt64)) ((nI K).toInt64)) L 12) ((nI u).toInt64)) ((nI (cst C P tx (n - 1))).toInt64)) ((bV (bst C L P tx n)).toInt64)) ((wV (wst C P tx n 12).2).toInt64)) ((bV (sfi tx P T C K n)).toInt64)) ((nI jm).toInt64)) ((nI lm).toInt64)) ((nI du).toInt64)), .long ((nI pm).toInt64)]) (rest := []) hx hb hml hown hts hK hA hN hV hl.1 (c_X1_mix l D cA (mx (mx (mx (mx (mx (mx (mx (mx (mxF (mx (mx (mx (mxF (mx 1783 ((nI n).toInt64)) tx n) ((nI T).toInt64)) ((nI C).toInt64)) ((nI K).toInt64)) L 12) ((nI u).toInt64)) ((nI (cst C P tx (n - 1))).toInt64)) ((bV (bst C L P tx n)).toInt64)) ((wV (wst C P tx n 12).2).toInt64)) ((bV (sfi tx P T C K n)).toInt64)) ((nI jm).toInt64)) ((nI lm).toInt64)) ((nI du).toInt64)) ((nI pm).toInt64)  ) gX1_digest_X1_mix rfl rfl rfl hdX1_mix ⟨Nat.le_of_ble_eq_true rfl, Nat.le_of_ble_eq_true rfl⟩ rfl rfl (Nat.le_of_ble_eq_true rfl) dX1_digest_162 ⟨Nat.zero_le _, Nat.zero_le _⟩ (fun r W1 H locs hp hV => ?_)
  obtain ⟨hp1, hp2⟩ := hp
  replace hp1 := hp1.symm
  subst hp1
  replace hp2 := hp2.symm
  subst hp2
  have hV : qV D A s.heap ((wC h (g 0) (k 0) cA n tx T C K L P u ua ub) ++ (wT g cA pm jm lm du pr ja rt) ++ (wT k cA pm3 jm3 lm3 du3 pr3 ja3 rt3)) H locs := hV
  refine lv_lstore_n (lv' := [(1, .long (mx (mx (mx (mx (mx (mx (mx (mx (mx (mxF (mx (mx (mx (mxF (mx 1783 ((nI n).toInt64)) tx n) ((nI T).toInt64)) ((nI C).toInt64)) ((nI K).toInt64)) L 12) ((nI u).toInt64)) ((nI (cst C P tx (n - 1))).toInt64)) ((bV (bst C L P tx n)).toInt64)) ((wV (wst C P tx n 12).2).toInt64)) ((bV (sfi tx P T C K n)).toInt64)) ((nI jm).toInt64)) ((nI lm).toInt64)) ((nI du).toInt64)) ((nI pm).toInt64))), (0, .ref (h 0))]) hx hb dX1_digest_165 rfl hl (by decide) rfl (fun ls hl => ?_)
  refine lv_lload_n hx hb dX1_digest_166 rfl (lv_at hl 0 rfl) ?_
  refine lv_aload_n hx hb dX1_digest_167 rfl (lv_at hl 1 rfl) ?_
  refine q_get (C := RX1) (T := TX1) (N := 12) (ci := 1) (v := .ref (g 0)) hx hb hts hin1 hown hK hV 0 rfl rfl 10 (by decide) (List.mem_of_getElem? (i := 9) rfl) rfl dX1_digest_168 ?_
  refine q_getN (C := RX0) (T := TX0) (N := 7) (ci := 0) (v := .ref (g 1)) hx hb hts hin0 hown hK hV 6 rfl rfl 0 (by decide) hN (List.mem_of_getElem? (i := 1) rfl) rfl dX1_digest_171 ?_
  refine lv_aload_n hx hb dX1_digest_174 rfl (lv_at hl 1 rfl) ?_
  refine q_get (C := RX1) (T := TX1) (N := 12) (ci := 1) (v := .ref (g 0)) hx hb hts hin1 hown hK hV 0 rfl rfl 10 (by decide) (List.mem_of_getElem? (i := 9) rfl) rfl dX1_digest_175 ?_
  refine q_getN (C := RX0) (T := TX0) (N := 7) (ci := 0) (v := .int (nI pm)) hx hb hts hin0 hown hK hV 6 rfl rfl 1 (by decide) hN (List.mem_of_getElem? (i := 2) rfl) rfl dX1_digest_178 ?_
  have hV : qV D A s.heap ((((wC h (g 0) (k 0) cA n tx T C K L P u ua ub) ++ (wT g cA pm jm lm du pr ja rt) ++ (wT k cA pm3 jm3 lm3 du3 pr3 ja3 rt3)).eraseIdx 7) ++ (wA (g 1) 60 cA pr)) H locs := hV.sub [0, 1, 2, 3, 4, 5, 6, 8, 9, 10, 11, 12, 13, 7] rfl rfl
  refine k_S_l (w0 := ((wC h (g 0) (k 0) cA n tx T C K L P u ua ub) ++ (wT g cA pm jm lm du pr ja rt) ++ (wT k cA pm3 jm3 lm3 du3 pr3 ja3 rt3)).eraseIdx 7) (wc := wA (g 1) 60 cA pr) (As := [.long (mx (mx (mx (mx (mx (mx (mx (mx (mx (mxF (mx (mx (mx (mxF (mx 1783 ((nI n).toInt64)) tx n) ((nI T).toInt64)) ((nI C).toInt64)) ((nI K).toInt64)) L 12) ((nI u).toInt64)) ((nI (cst C P tx (n - 1))).toInt64)) ((bV (bst C L P tx n)).toInt64)) ((wV (wst C P tx n 12).2).toInt64)) ((bV (sfi tx P T C K n)).toInt64)) ((nI jm).toInt64)) ((nI lm).toInt64)) ((nI du).toInt64)) ((nI pm).toInt64)), .ref (g 1), .int (nI pm)]) (rest := []) hx hb hml hown hts hK hA hN hV hl.1 (c_X1_mixAll l D (g 1) 60 cA pr (mx (mx (mx (mx (mx (mx (mx (mx (mx (mxF (mx (mx (mx (mxF (mx 1783 ((nI n).toInt64)) tx n) ((nI T).toInt64)) ((nI C).toInt64)) ((nI K).toInt64)) L 12) ((nI u).toInt64)) ((nI (cst C P tx (n - 1))).toInt64)) ((bV (bst C L P tx n)).toInt64)) ((wV (wst C P tx n 12).2).toInt64)) ((bV (sfi tx P T C K n)).toInt64)) ((nI jm).toInt64)) ((nI lm).toInt64)) ((nI du).toInt64)) ((nI pm).toInt64)) pm  (by first | omega | assumption) (by first | omega | assumption)) gX1_digest_X1_mixAll rfl rfl rfl hdX1_mixAll ⟨Nat.le_of_ble_eq_true rfl, Nat.le_of_ble_eq_true rfl⟩ rfl rfl (Nat.le_of_ble_eq_true rfl) dX1_digest_181 ⟨Nat.zero_le _, Nat.zero_le _⟩ (fun r W1 H locs hp hV => ?_)
  obtain ⟨hp1, hp2⟩ := hp
  replace hp1 := hp1.symm
  subst hp1
  replace hp2 := hp2.symm
  subst hp2
  have hV : qV D A s.heap ((((wC h (g 0) (k 0) cA n tx T C K L P u ua ub) ++ (wT g cA pm jm lm du pr ja rt) ++ (wT k cA pm3 jm3 lm3 du3 pr3 ja3 rt3)).eraseIdx 7) ++ (wA (g 1) 60 cA pr)) H locs := hV
  have hV : qV D A s.heap ((wC h (g 0) (k 0) cA n tx T C K L P u ua ub) ++ (wT g cA pm jm lm du pr ja rt) ++ (wT k cA pm3 jm3 lm3 du3 pr3 ja3 rt3)) H locs := hV.sub [0, 1, 2, 3, 4, 5, 6, 13, 7, 8, 9, 10, 11, 12] rfl rfl
  refine lv_lstore_n (lv' := [(1, .long (mxF (mx (mx (mx (mx (mx (mx (mx (mx (mx (mxF (mx (mx (mx (mxF (mx 1783 ((nI n).toInt64)) tx n) ((nI T).toInt64)) ((nI C).toInt64)) ((nI K).toInt64)) L 12) ((nI u).toInt64)) ((nI (cst C P tx (n - 1))).toInt64)) ((bV (bst C L P tx n)).toInt64)) ((wV (wst C P tx n 12).2).toInt64)) ((bV (sfi tx P T C K n)).toInt64)) ((nI jm).toInt64)) ((nI lm).toInt64)) ((nI du).toInt64)) ((nI pm).toInt64)) pr pm)), (0, .ref (h 0))]) hx hb dX1_digest_184 rfl hl (by decide) rfl (fun ls hl => ?_)
  refine lv_lload_n hx hb dX1_digest_185 rfl (lv_at hl 0 rfl) ?_
  refine lv_aload_n hx hb dX1_digest_186 rfl (lv_at hl 1 rfl) ?_
  refine q_get (C := RX1) (T := TX1) (N := 12) (ci := 1) (v := .ref (g 0)) hx hb hts hin1 hown hK hV 0 rfl rfl 10 (by decide) (List.mem_of_getElem? (i := 9) rfl) rfl dX1_digest_187 ?_
  refine q_getN (C := RX0) (T := TX0) (N := 7) (ci := 0) (v := .ref (g 2)) hx hb hts hin0 hown hK hV 6 rfl rfl 2 (by decide) hN (List.mem_of_getElem? (i := 3) rfl) rfl dX1_digest_190 ?_
  refine lv_aload_n hx hb dX1_digest_193 rfl (lv_at hl 1 rfl) ?_
  refine q_get (C := RX1) (T := TX1) (N := 12) (ci := 1) (v := .ref (g 0)) hx hb hts hin1 hown hK hV 0 rfl rfl 10 (by decide) (List.mem_of_getElem? (i := 9) rfl) rfl dX1_digest_194 ?_
  refine q_getN (C := RX0) (T := TX0) (N := 7) (ci := 0) (v := .int (nI jm)) hx hb hts hin0 hown hK hV 6 rfl rfl 3 (by decide) hN (List.mem_of_getElem? (i := 4) rfl) rfl dX1_digest_197 ?_
  have hV : qV D A s.heap ((((wC h (g 0) (k 0) cA n tx T C K L P u ua ub) ++ (wT g cA pm jm lm du pr ja rt) ++ (wT k cA pm3 jm3 lm3 du3 pr3 ja3 rt3)).eraseIdx 8) ++ (wA (g 2) 60 cA ja)) H locs := hV.sub [0, 1, 2, 3, 4, 5, 6, 7, 9, 10, 11, 12, 13, 8] rfl rfl
  refine k_S_l (w0 := ((wC h (g 0) (k 0) cA n tx T C K L P u ua ub) ++ (wT g cA pm jm lm du pr ja rt) ++ (wT k cA pm3 jm3 lm3 du3 pr3 ja3 rt3)).eraseIdx 8) (wc := wA (g 2) 60 cA ja) (As := [.long (mxF (mx (mx (mx (mx (mx (mx (mx (mx (mx (mxF (mx (mx (mx (mxF (mx 1783 ((nI n).toInt64)) tx n) ((nI T).toInt64)) ((nI C).toInt64)) ((nI K).toInt64)) L 12) ((nI u).toInt64)) ((nI (cst C P tx (n - 1))).toInt64)) ((bV (bst C L P tx n)).toInt64)) ((wV (wst C P tx n 12).2).toInt64)) ((bV (sfi tx P T C K n)).toInt64)) ((nI jm).toInt64)) ((nI lm).toInt64)) ((nI du).toInt64)) ((nI pm).toInt64)) pr pm), .ref (g 2), .int (nI jm)]) (rest := []) hx hb hml hown hts hK hA hN hV hl.1 (c_X1_mixAll l D (g 2) 60 cA ja (mxF (mx (mx (mx (mx (mx (mx (mx (mx (mx (mxF (mx (mx (mx (mxF (mx 1783 ((nI n).toInt64)) tx n) ((nI T).toInt64)) ((nI C).toInt64)) ((nI K).toInt64)) L 12) ((nI u).toInt64)) ((nI (cst C P tx (n - 1))).toInt64)) ((bV (bst C L P tx n)).toInt64)) ((wV (wst C P tx n 12).2).toInt64)) ((bV (sfi tx P T C K n)).toInt64)) ((nI jm).toInt64)) ((nI lm).toInt64)) ((nI du).toInt64)) ((nI pm).toInt64)) pr pm) jm  (by first | omega | assumption) (by first | omega | assumption)) gX1_digest_X1_mixAll rfl rfl rfl hdX1_mixAll ⟨Nat.le_of_ble_eq_true rfl, Nat.le_of_ble_eq_true rfl⟩ rfl rfl (Nat.le_of_ble_eq_true rfl) dX1_digest_200 ⟨Nat.zero_le _, Nat.zero_le _⟩ (fun r W1 H locs hp hV => ?_)
  obtain ⟨hp1, hp2⟩ := hp
  replace hp1 := hp1.symm
  subst hp1
  replace hp2 := hp2.symm
  subst hp2
  have hV : qV D A s.heap ((((wC h (g 0) (k 0) cA n tx T C K L P u ua ub) ++ (wT g cA pm jm lm du pr ja rt) ++ (wT k cA pm3 jm3 lm3 du3 pr3 ja3 rt3)).eraseIdx 8) ++ (wA (g 2) 60 cA ja)) H locs := hV
  have hV : qV D A s.heap ((wC h (g 0) (k 0) cA n tx T C K L P u ua ub) ++ (wT g cA pm jm lm du pr ja rt) ++ (wT k cA pm3 jm3 lm3 du3 pr3 ja3 rt3)) H locs := hV.sub [0, 1, 2, 3, 4, 5, 6, 7, 13, 8, 9, 10, 11, 12] rfl rfl
  exact q_lret (W1 := (wC h (g 0) (k 0) cA n tx T C K L P u ua ub) ++ (wT g cA pm jm lm du pr ja rt) ++ (wT k cA pm3 jm3 lm3 du3 pr3 ja3 rt3)) hx hb hr hlocks hV dX1_digest_203 ⟨rfl, _, _, _, _, _, _, _, rfl⟩
