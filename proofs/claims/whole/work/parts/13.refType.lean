abbrev rm_X2_stroke : Room := { frames := 1, cells := 0, slots := 0, locals := 21 }
set_option maxHeartbeats 4000000 in
set_option maxRecDepth 100000 in
theorem c_X2_stroke (l : Launch) (D : va_G) (h : Nat → Nat) (cA : ClassId) (n : Nat) (tx : Nat → Nat) (T : Nat) (C : Nat) (K : Nat) (P : Nat → Nat) (L : Nat → Nat) (u : Nat) (ua : Nat → Nat) (ub : Nat → Nat) (pm : Nat) (jm : Nat) (lm : Nat) (du : Nat) (lt : Nat) (hh : Int64) (pr : Nat → Nat) (ja : Nat → Nat) (os : Nat → Nat) (a : Nat) (t : Nat) (R : Nat → Nat) (h_a : a < 12) (hp : perm L P) (hC : C ≤ 5) (hT : T ≤ 20) (h_t : t < 536870912) (h_R : ∀ q, R q < 1073741824) : CTi l D cA yX2_stroke wsX2_stroke rm_X2_stroke [.ref (h 0), .int (nI a), .int (nI t)] ((wD h cA n tx T C K P L u ua ub pm jm lm du lt hh) ++ (wY h cA pr ja (rsP R P) os)) (fun r W1 => r = nI (oc1 C t R (P a)) ∧ W1 = (wD h cA n tx T C K P L u ua ub pm jm lm du lt hh) ++ (wY h cA pr ja (rsP (rn1 C T t R (P a)) P) os)) := by
  refine CTi.mk (cc := cX2_stroke) (maxL := 5) (ret := some .int) (by decide) rfl (Nat.le_of_ble_eq_true rfl) ?_
  intro p e s m below meth c A ls E hV hl
  obtain ⟨hx, hb, hml, hr, hown, hts, hlocks, hK, hA, hN⟩ := E
  have hown : s.vm.findClass RX2 = some m.cls := hown
  have hin2 : ∀ w ∈ wsX20, w ∈ wsX2_stroke := fun _ h => List.mem_cons_of_mem _ (List.mem_append_right _ h)
  have hl : lv_has ls 5 [(0, .ref (h 0)), (1, .int (nI a)), (2, .int (nI t))] := hl
  refine lv_aload_n hx hb dX2_stroke_0 rfl (lv_at hl 0 rfl) ?_
  refine q_get (C := RX2) (T := TX2) (N := 20) (ci := 2) (v := .ref (h 8)) hx hb hts hin2 hown hK hV 0 rfl rfl 16 (by decide) (List.mem_of_getElem? (i := 1) rfl) rfl dX2_stroke_1 ?_
  refine lv_iload_n hx hb dX2_stroke_4 rfl (lv_at hl 1 rfl) ?_
  refine q_iald (n := 12) (k := a) (f := rsP R P) hx hb hK hV 8 rfl (by omega) (by omega) dX2_stroke_5 ?_
  have f1 := rsP_at R P a
  have f2 := h_R (P a)
  refine lv_iload_n hx hb dX2_stroke_6 rfl (lv_at hl 2 rfl) ?_
  refine q_icmp_le (x := ((rsP R P) a)) (y := t) (tgt := 12) hx hb dX2_stroke_7 (by decide) (by omega) (by omega) (fun c7 => ?_) (fun c7 => ?_)
  · refine lv_iconst (v := nI 0) hx hb dX2_stroke_12 (by decide) ?_
    refine lv_istore_n (lv' := [(3, .int (nI 0)), (0, .ref (h 0)), (1, .int (nI a)), (2, .int (nI t))]) hx hb dX2_stroke_13 rfl hl (by decide) rfl (fun ls hl => ?_)
    refine lv_iconst (v := nI 0) hx hb dX2_stroke_14 (by decide) ?_
    refine lv_istore (lv' := [(4, .int (nI 0)), (3, .int (nI 0)), (0, .ref (h 0)), (1, .int (nI a)), (2, .int (nI t))]) hx hb dX2_stroke_15 hl (by decide) rfl (fun ls hl => ?_)
    have lp17 : ∀ (d17 : Nat) (j : Nat) (H : Heap) (locs : List Loc) (ls : Array Slot), (13 ≤ j + d17) → (j ≤ 12) → qV D A s.heap ((wD h cA n tx T C K P L u ua ub pm jm lm du lt hh) ++ (wY h cA pr ja (stpL C a t R P j) os)) H locs → lv_has ls 5 [(0, .ref (h 0)), (1, .int (nI a)), (2, .int (nI t)), (3, .int (nI (jamL C a t R P j))), (4, .int (nI j))] → W p l e rm_X2_stroke s m ([.ref (h 0), .int (nI a), .int (nI t)] : List Value).toArray below meth c H locs 0 0 (MQ below (va_Qi (fun r W1 => r = nI (oc1 C t R (P a)) ∧ W1 = (wD h cA n tx T C K P L u ua ub pm jm lm du lt hh) ++ (wY h cA pr ja (rsP (rn1 C T t R (P a)) P) os)) (cPost D A) A) ([.ref (h 0), .int (nI a), .int (nI t)] : List Value).toArray s 0 0 A) (F0 m 17 ls []) := by
      intro d17
      induction d17 with
      | zero => intro j H locs ls hm17 hj hV hl; exfalso; omega
      | succ d17 ih17 =>
        intro j H locs ls hm17 hj hV hl
        have f0 := jamL_le C a t R P j
        refine lv_iload hx hb dX2_stroke_17 (lv_at hl 4 rfl) ?_
        refine lv_bipush (v := nI 12) hx hb dX2_stroke_19 (by decide) ?_
        refine q_icmp_ge (x := j) (y := 12) (tgt := 74) hx hb dX2_stroke_21 (by decide) (by omega) (by omega) (fun c21 => ?_) (fun c21 => ?_)
        · have ej : j = 12 := by omega
          subst ej
          rw [jamL_F hp] at hl
          have hV := hV.arr 8 rfl (g := rsP (stpR C (P a) t R) P) (stpL_R hp)
          have f9 := jamF_le C (P a) t R 12
          refine lv_iload_n hx hb dX2_stroke_74 rfl (lv_at hl 3 rfl) ?_
          refine q_if_ne (x := (jamF C (P a) t R 12)) (tgt := 90) hx hb dX2_stroke_75 (by decide) (by omega) (fun c75 => ?_) (fun c75 => ?_)
          · refine lv_iload_n hx hb dX2_stroke_90 rfl (lv_at hl 3 rfl) ?_
            refine q_if_eq (x := (jamF C (P a) t R 12)) (tgt := 98) hx hb dX2_stroke_91 (by decide) (by omega) (fun c91 => ?_) (fun c91 => ?_)
            · exfalso; omega
            · refine lv_iconst (v := nI 1) hx hb dX2_stroke_94 (by decide) ?_
              refine lv_goto (tgt := 99) hx hb dX2_stroke_95 (by decide) ?_
              have e1 : oc1 C t R (P a) = 1 := oc1_1 (by omega) (by omega)
              have e2 : rn1 C T t R (P a) = stpR C (P a) t R := rn1_1 (by omega) (by omega)
              exact q_iret (W1 := (wD h cA n tx T C K P L u ua ub pm jm lm du lt hh) ++ (wY h cA pr ja (rsP (stpR C (P a) t R) P) os)) hx hb hr hlocks hV dX2_stroke_99 ⟨by rw [e1], by rw [e2]⟩
          · refine lv_aload_n hx hb dX2_stroke_78 rfl (lv_at hl 0 rfl) ?_
            refine q_get (C := RX2) (T := TX2) (N := 20) (ci := 2) (v := .ref (h 8)) hx hb hts hin2 hown hK hV 0 rfl rfl 16 (by decide) (List.mem_of_getElem? (i := 1) rfl) rfl dX2_stroke_79 ?_
            refine lv_iload_n hx hb dX2_stroke_82 rfl (lv_at hl 1 rfl) ?_
            refine lv_iload_n hx hb dX2_stroke_83 rfl (lv_at hl 2 rfl) ?_
            refine lv_aload_n hx hb dX2_stroke_84 rfl (lv_at hl 0 rfl) ?_
            refine q_get (C := RX2) (T := TX2) (N := 20) (ci := 2) (v := .int (nI T)) hx hb hts hin2 hown hK hV 0 rfl rfl 2 (by decide) (List.mem_of_getElem? (i := 4) rfl) rfl dX2_stroke_85 ?_
            refine q_iadd2 (x := t) (y := T) (z := t + T) hx hb (by omega) dX2_stroke_88 ?_
            refine q_iast (n := 12) (k := a) (v := t + T) (f := rsP (stpR C (P a) t R) P) ((wD h cA n tx T C K P L u ua ub pm jm lm du lt hh) ++ (wY h cA pr ja (up (rsP (stpR C (P a) t R) P) a (t + T)) os)) hx hb hK hV 8 rfl (by omega) (by decide) rfl dX2_stroke_89 (fun H locs hV => ?_)
            refine lv_iload_n hx hb dX2_stroke_90 rfl (lv_at hl 3 rfl) ?_
            refine q_if_eq (x := (jamF C (P a) t R 12)) (tgt := 98) hx hb dX2_stroke_91 (by decide) (by omega) (fun c91 => ?_) (fun c91 => ?_)
            · refine lv_iconst (v := nI 0) hx hb dX2_stroke_98 (by decide) ?_
              have e1 : oc1 C t R (P a) = 0 := oc1_0 (by omega) (by omega)
              have e2 : rn1 C T t R (P a) = up (stpR C (P a) t R) (P a) (t + T) := rn1_0 (by omega) (by omega)
              have hV := hV.arr 8 rfl (g := rsP (up (stpR C (P a) t R) (P a) (t + T)) P) (rsP_up hp h_a)
              exact q_iret (W1 := (wD h cA n tx T C K P L u ua ub pm jm lm du lt hh) ++ (wY h cA pr ja (rsP (up (stpR C (P a) t R) (P a) (t + T)) P) os)) hx hb hr hlocks hV dX2_stroke_99 ⟨by rw [e1], by rw [e2]⟩
            · exfalso; omega
        · refine lv_aload_n hx hb dX2_stroke_24 rfl (lv_at hl 0 rfl) ?_
          refine q_get (C := RX2) (T := TX2) (N := 20) (ci := 2) (v := .ref (h 8)) hx hb hts hin2 hown hK hV 0 rfl rfl 16 (by decide) (List.mem_of_getElem? (i := 1) rfl) rfl dX2_stroke_25 ?_
          refine lv_iload hx hb dX2_stroke_28 (lv_at hl 4 rfl) ?_
          refine q_iald (n := 12) (k := j) (f := stpL C a t R P j) hx hb hK hV 8 rfl (by omega) (by omega) dX2_stroke_30 ?_
          have f3 := (stpL_at : stpL C a t R P j j = R (P j))
          have f4 := h_R (P j)
          refine lv_iload_n hx hb dX2_stroke_31 rfl (lv_at hl 2 rfl) ?_
          refine q_icmp_le (x := ((stpL C a t R P j) j)) (y := t) (tgt := 68) hx hb dX2_stroke_32 (by decide) (by omega) (by omega) (fun c32 => ?_) (fun c32 => ?_)
          · refine q_iinc (x := j) (z := j + 1) (lv' := [(4, .int (nI (j + 1))), (0, .ref (h 0)), (1, .int (nI a)), (2, .int (nI t)), (3, .int (nI (jamL C a t R P j)))]) hx hb dX2_stroke_68 hl (k := 4) rfl (dd := 1) rfl (by omega) (by decide) rfl (fun ls hl => ?_)
            refine lv_goto (tgt := 17) hx hb dX2_stroke_71 (by decide) ?_
            have e1 : jamL C a t R P (j + 1) = jamL C a t R P j := if_neg (by omega)
            have e2 : stpL C a t R P (j + 1) = (stpL C a t R P j) := stpL_s0 (by omega)
            exact ih17  (j + 1) _ _ _ (by omega) (by first | omega | assumption) (by rw [e2]; exact hV) (by rw [e1]; exact lv_sub hl [1, 2, 3, 4, 0] rfl)
          · refine lv_aload_n hx hb dX2_stroke_35 rfl (lv_at hl 0 rfl) ?_
            refine q_get (C := RX2) (T := TX2) (N := 20) (ci := 2) (v := .ref (h 2)) hx hb hts hin2 hown hK hV 0 rfl rfl 5 (by decide) (List.mem_of_getElem? (i := 2) rfl) rfl dX2_stroke_36 ?_
            refine lv_iload hx hb dX2_stroke_39 (lv_at hl 4 rfl) ?_
            refine q_iald (n := 12) (k := j) (f := P) hx hb hK hV 2 rfl (by omega) (by omega) dX2_stroke_41 ?_
            have f5 := hp.P (i := j) (by omega)
            refine lv_aload_n hx hb dX2_stroke_42 rfl (lv_at hl 0 rfl) ?_
            refine q_get (C := RX2) (T := TX2) (N := 20) (ci := 2) (v := .ref (h 2)) hx hb hts hin2 hown hK hV 0 rfl rfl 5 (by decide) (List.mem_of_getElem? (i := 2) rfl) rfl dX2_stroke_43 ?_
            refine lv_iload_n hx hb dX2_stroke_46 rfl (lv_at hl 1 rfl) ?_
            refine q_iald (n := 12) (k := a) (f := P) hx hb hK hV 2 rfl (by omega) (by omega) dX2_stroke_47 ?_
            have f6 := hp.P (i := a) (by omega)
            refine k_S_i (w0 := (wD h cA n tx T C K P L u ua ub pm jm lm du lt hh) ++ (wY h cA pr ja (stpL C a t R P j) os)) (wc := ([] : va_W)) (As := [.int (nI (P j)), .int (nI (P a))]) (rest := []) hx hb hml hown hts hK hA hN hV hl.1 (c_X2_apart l D cA (P j) (P a)  (by first | omega | assumption) (by first | omega | assumption)) gX2_stroke_X2_apart rfl rfl rfl hdX2_apart ⟨Nat.le_of_ble_eq_true rfl, Nat.le_of_ble_eq_true rfl⟩ rfl rfl (Nat.le_of_ble_eq_true rfl) dX2_stroke_48 ⟨Nat.zero_le _, Nat.zero_le _⟩ (fun r W1 H locs hp hV => ?_)
            obtain ⟨hp1, hp2⟩ := hp
            replace hp1 := hp1.symm
            subst hp1
            replace hp2 := hp2.symm
            subst hp2
            have hV : qV D A s.heap ((wD h cA n tx T C K P L u ua ub pm jm lm du lt hh) ++ (wY h cA pr ja (stpL C a t R P j) os)) H locs := hV
            refine lv_aload_n hx hb dX2_stroke_51 rfl (lv_at hl 0 rfl) ?_
            refine q_get (C := RX2) (T := TX2) (N := 20) (ci := 2) (v := .int (nI C)) hx hb hts hin2 hown hK hV 0 rfl rfl 3 (by decide) (List.mem_of_getElem? (i := 3) rfl) rfl dX2_stroke_52 ?_
            refine q_icmp_gt (x := (((P j) - (P a)) + ((P a) - (P j)))) (y := C) (tgt := 68) hx hb dX2_stroke_55 (by decide) (by omega) (by omega) (fun c55 => ?_) (fun c55 => ?_)
            · refine q_iinc (x := j) (z := j + 1) (lv' := [(4, .int (nI (j + 1))), (0, .ref (h 0)), (1, .int (nI a)), (2, .int (nI t)), (3, .int (nI (jamL C a t R P j)))]) hx hb dX2_stroke_68 hl (k := 4) rfl (dd := 1) rfl (by omega) (by decide) rfl (fun ls hl => ?_)
              refine lv_goto (tgt := 17) hx hb dX2_stroke_71 (by decide) ?_
              have e1 : jamL C a t R P (j + 1) = jamL C a t R P j := if_neg (by omega)
              have e2 : stpL C a t R P (j + 1) = (stpL C a t R P j) := stpL_s0 (by omega)
              exact ih17  (j + 1) _ _ _ (by omega) (by first | omega | assumption) (by rw [e2]; exact hV) (by rw [e1]; exact lv_sub hl [1, 2, 3, 4, 0] rfl)
            · refine lv_aload_n hx hb dX2_stroke_58 rfl (lv_at hl 0 rfl) ?_
              refine q_get (C := RX2) (T := TX2) (N := 20) (ci := 2) (v := .ref (h 8)) hx hb hts hin2 hown hK hV 0 rfl rfl 16 (by decide) (List.mem_of_getElem? (i := 1) rfl) rfl dX2_stroke_59 ?_
              refine lv_iload hx hb dX2_stroke_62 (lv_at hl 4 rfl) ?_
              refine lv_iload_n hx hb dX2_stroke_64 rfl (lv_at hl 2 rfl) ?_
              refine q_iast (n := 12) (k := j) (v := t) (f := stpL C a t R P j) ((wD h cA n tx T C K P L u ua ub pm jm lm du lt hh) ++ (wY h cA pr ja (up (stpL C a t R P j) j t) os)) hx hb hK hV 8 rfl (by omega) (by decide) rfl dX2_stroke_65 (fun H locs hV => ?_)
              refine lv_iconst (v := nI 1) hx hb dX2_stroke_66 (by decide) ?_
              refine lv_istore_n (lv' := [(3, .int (nI 1)), (0, .ref (h 0)), (1, .int (nI a)), (2, .int (nI t)), (4, .int (nI j))]) hx hb dX2_stroke_67 rfl hl (by decide) rfl (fun ls hl => ?_)
              refine q_iinc (x := j) (z := j + 1) (lv' := [(4, .int (nI (j + 1))), (3, .int (nI 1)), (0, .ref (h 0)), (1, .int (nI a)), (2, .int (nI t))]) hx hb dX2_stroke_68 hl (k := 4) rfl (dd := 1) rfl (by omega) (by decide) rfl (fun ls hl => ?_)
              refine lv_goto (tgt := 17) hx hb dX2_stroke_71 (by decide) ?_
              have e1 : jamL C a t R P (j + 1) = 1 := if_pos ⟨by omega, by omega⟩
              have e2 : stpL C a t R P (j + 1) = up (stpL C a t R P j) j t := stpL_s1 ⟨by omega, by omega⟩
              exact ih17  (j + 1) _ _ _ (by omega) (by first | omega | assumption) (by rw [e2]; exact hV) (by rw [e1]; exact lv_sub hl [2, 3, 4, 1, 0] rfl)
    exact lp17 13 0 _ _ _ (by omega) (by first | omega | assumption) (by rw [stpL_0]; exact hV) (lv_sub hl [2, 3, 4, 1, 0] rfl)
  · refine lv_iconst (v := nI 2) hx hb dX2_stroke_10 (by decide) ?_
    have e1 : oc1 C t R (P a) = 2 := oc1_2 (by omega)
    have e2 : rn1 C T t R (P a) = R := rn1_2 (by omega)
    exact q_iret (W1 := (wD h cA n tx T C K P L u ua ub pm jm lm du lt hh) ++ (wY h cA pr ja (rsP R P) os)) hx hb hr hlocks hV dX2_stroke_11 ⟨by rw [e1], by rw [e2]⟩
abbrev rm_X2_type : Room := { frames := 2, cells := 0, slots := 0, locals := 45 }
set_option maxHeartbeats 4000000 in
set_option maxRecDepth 100000 in
theorem c_X2_type (l : Launch) (D : va_G) (h : Nat → Nat) (cA : ClassId) (n : Nat) (tx : Nat → Nat) (T : Nat) (C : Nat) (K : Nat) (P : Nat → Nat) (L : Nat → Nat) (u : Nat) (ua : Nat → Nat) (ub : Nat → Nat) (pm : Nat) (jm : Nat) (lm : Nat) (du : Nat) (lt : Nat) (hh : Int64) (pr : Nat → Nat) (ja : Nat → Nat) (rs : Nat → Nat) (os : Nat → Nat) (iv : Nat)  (hn : n ≤ 60) (htx : ∀ i, tx i < 12) (hC : C ≤ 5) (hp : perm L P) (hT : T ≤ 20) (hK5 : K ≤ 50) (hiv : iv ≤ 30) : CTv l D cA yX2_type wsX2_type rm_X2_type [.ref (h 0), .int (nI iv)] ((wD h cA n tx T C K P L u ua ub pm jm lm du lt hh) ++ (wY h cA pr ja rs os)) (fun W1 => W1 = (wD h cA n tx T C K P L u ua ub pm jm lm du ((tyS tx P T C K iv (n - 1)).2) hh) ++ (wY h cA pr ja (rsP (tyS tx P T C K iv n).1 P) (osF (oc tx P T C K iv) os n))) := by
  refine CTv.mk (cc := cX2_type) (maxL := 4) (ret := none) (by decide) rfl (Nat.le_of_ble_eq_true rfl) ?_
  intro p e s m below meth c A ls E hV hl
  obtain ⟨hx, hb, hml, hr, hown, hts, hlocks, hK, hA, hN⟩ := E
  have hown : s.vm.findClass RX2 = some m.cls := hown
  have hin2 : ∀ w ∈ wsX20, w ∈ wsX2_type := fun _ h => List.mem_cons_of_mem _ (List.mem_append_right _ h)
  have hl : lv_has ls 4 [(0, .ref (h 0)), (1, .int (nI iv))] := hl
  refine lv_iconst (v := nI 0) hx hb dX2_type_0 (by decide) ?_
  refine lv_istore_n (lv' := [(2, .int (nI 0)), (0, .ref (h 0)), (1, .int (nI iv))]) hx hb dX2_type_1 rfl hl (by decide) rfl (fun ls hl => ?_)
  have lp2 : ∀ (d2 : Nat) (j : Nat) (H : Heap) (locs : List Loc) (ls : Array Slot), (13 ≤ j + d2) → (j ≤ 12) → qV D A s.heap ((wD h cA n tx T C K P L u ua ub pm jm lm du lt hh) ++ (wY h cA pr ja (zr rs j) os)) H locs → lv_has ls 4 [(0, .ref (h 0)), (1, .int (nI iv)), (2, .int (nI j))] → W p l e rm_X2_type s m ([.ref (h 0), .int (nI iv)] : List Value).toArray below meth c H locs 0 0 (MQ below (va_Qv (fun W1 => W1 = (wD h cA n tx T C K P L u ua ub pm jm lm du ((tyS tx P T C K iv (n - 1)).2) hh) ++ (wY h cA pr ja (rsP (tyS tx P T C K iv n).1 P) (osF (oc tx P T C K iv) os n))) (cPost D A) A) ([.ref (h 0), .int (nI iv)] : List Value).toArray s 0 0 A) (F0 m 2 ls []) := by
    intro d2
    induction d2 with
    | zero => intro j H locs ls hm2 hj hV hl; exfalso; omega
    | succ d2 ih2 =>
      intro j H locs ls hm2 hj hV hl
      refine lv_iload_n hx hb dX2_type_2 rfl (lv_at hl 2 rfl) ?_
      refine lv_bipush (v := nI 12) hx hb dX2_type_3 (by decide) ?_
      refine q_icmp_ge (x := j) (y := 12) (tgt := 21) hx hb dX2_type_5 (by decide) (by omega) (by omega) (fun c5 => ?_) (fun c5 => ?_)
      · have ej : j = 12 := by omega
        subst ej
        have hV := hV.arr 8 rfl (g := rsP (tyS tx P T C K iv 0).1 P) (fun k hk => zr_at rs 12 k hk)
        refine lv_iconst (v := nI 0) hx hb dX2_type_21 (by decide) ?_
        refine lv_istore_n (lv' := [(2, .int (nI 0)), (0, .ref (h 0)), (1, .int (nI iv))]) hx hb dX2_type_22 rfl hl (by decide) rfl (fun ls hl => ?_)
        refine lv_iconst (v := nI 0) hx hb dX2_type_23 (by decide) ?_
        refine lv_istore_n (lv' := [(3, .int (nI 0)), (2, .int (nI 0)), (0, .ref (h 0)), (1, .int (nI iv))]) hx hb dX2_type_24 rfl hl (by decide) rfl (fun ls hl => ?_)
        have lp25 : ∀ (d25 : Nat) (j : Nat) (H : Heap) (locs : List Loc) (ls : Array Slot), (61 ≤ j + d25) → (j ≤ n) → qV D A s.heap ((wD h cA n tx T C K P L u ua ub pm jm lm du lt hh) ++ (wY h cA pr ja (rsP (tyS tx P T C K iv j).1 P) (osF (oc tx P T C K iv) os j))) H locs → lv_has ls 4 [(0, .ref (h 0)), (1, .int (nI iv)), (2, .int (nI ((tyS tx P T C K iv (j - 1)).2))), (3, .int (nI j))] → W p l e rm_X2_type s m ([.ref (h 0), .int (nI iv)] : List Value).toArray below meth c H locs 0 0 (MQ below (va_Qv (fun W1 => W1 = (wD h cA n tx T C K P L u ua ub pm jm lm du ((tyS tx P T C K iv (n - 1)).2) hh) ++ (wY h cA pr ja (rsP (tyS tx P T C K iv n).1 P) (osF (oc tx P T C K iv) os n))) (cPost D A) A) ([.ref (h 0), .int (nI iv)] : List Value).toArray s 0 0 A) (F0 m 25 ls []) := by
          intro d25
          induction d25 with
          | zero => intro j H locs ls hm25 hj hV hl; exfalso; omega
          | succ d25 ih25 =>
            intro j H locs ls hm25 hj hV hl
            obtain ⟨g1, g2⟩ := tyS_le (tx := tx) (P := P) (C := C) hT hK5 hiv j
            obtain ⟨g3, g4⟩ := tyS_le (tx := tx) (P := P) (C := C) hT hK5 hiv (j - 1)
            have g5 := fun i => oc_le tx P T C K iv i
            have g6 := g5 (j - 1)
            refine lv_iload_n hx hb dX2_type_25 rfl (lv_at hl 3 rfl) ?_
            refine lv_aload_n hx hb dX2_type_26 rfl (lv_at hl 0 rfl) ?_
            refine q_get (C := RX2) (T := TX2) (N := 20) (ci := 2) (v := .int (nI n)) hx hb hts hin2 hown hK hV 0 rfl rfl 0 (by decide) (List.mem_of_getElem? (i := 2) rfl) rfl dX2_type_27 ?_
            refine q_icmp_ge (x := j) (y := n) (tgt := 89) hx hb dX2_type_30 (by decide) (by omega) (by omega) (fun c30 => ?_) (fun c30 => ?_)
            · have ej : n = j := by omega
              subst ej
              refine lv_aload_n hx hb dX2_type_89 rfl (lv_at hl 0 rfl) ?_
              refine lv_iload_n hx hb dX2_type_90 rfl (lv_at hl 2 rfl) ?_
              refine q_put (C := RX2) (T := TX2) (N := 20) (ci := 2) (v := .int (nI ((tyS tx P T C K iv (n - 1)).2))) ((wD h cA n tx T C K P L u ua ub pm jm lm du ((tyS tx P T C K iv (n - 1)).2) hh) ++ (wY h cA pr ja (rsP (tyS tx P T C K iv n).1 P) (osF (oc tx P T C K iv) os n))) hx hb hts hin2 tyX2 tyX2_ok nmX2 hown hK hV 0 rfl rfl 18 (by decide) (List.mem_of_getElem? (i := 6) rfl) rfl rfl rfl (Nat.le_of_ble_eq_true rfl) rfl dX2_type_91 (fun H locs hV => ?_)
              exact q_vret (W1 := (wD h cA n tx T C K P L u ua ub pm jm lm du ((tyS tx P T C K iv (n - 1)).2) hh) ++ (wY h cA pr ja (rsP (tyS tx P T C K iv n).1 P) (osF (oc tx P T C K iv) os n))) hx hb hr hlocks hV dX2_type_94 rfl
            · refine lv_iload_n hx hb dX2_type_33 rfl (lv_at hl 2 rfl) ?_
              refine lv_iload_n hx hb dX2_type_34 rfl (lv_at hl 3 rfl) ?_
              refine q_if_ne (x := j) (tgt := 42) hx hb dX2_type_35 (by decide) (by omega) (fun c35 => ?_) (fun c35 => ?_)
              · refine lv_iload_n hx hb dX2_type_42 rfl (lv_at hl 1 rfl) ?_
                refine lv_aload_n hx hb dX2_type_43 rfl (lv_at hl 0 rfl) ?_
                refine q_get (C := RX2) (T := TX2) (N := 20) (ci := 2) (v := .ref (h 9)) hx hb hts hin2 hown hK hV 0 rfl rfl 17 (by decide) (List.mem_of_getElem? (i := 3) rfl) rfl dX2_type_44 ?_
                refine lv_iload_n hx hb dX2_type_47 rfl (lv_at hl 3 rfl) ?_
                refine lv_iconst (v := nI 1) hx hb dX2_type_48 (by decide) ?_
                refine q_isub2 (x := j) (y := 1) (z := (j - 1)) hx hb (by omega) dX2_type_49 ?_
                refine q_iald (n := 60) (k := (j - 1)) (f := osF (oc tx P T C K iv) os j) hx hb hK hV 9 rfl (by omega) (by omega) dX2_type_50 ?_
                have f1 := osF_at (oc tx P T C K iv) os j (j - 1) (by omega)
                refine lv_iconst (v := nI 1) hx hb dX2_type_51 (by decide) ?_
                refine q_icmp_ne (x := ((osF (oc tx P T C K iv) os j) (j - 1))) (y := 1) (tgt := 62) hx hb dX2_type_52 (by decide) (by omega) (by omega) (fun c52 => ?_) (fun c52 => ?_)
                · refine lv_iconst (v := nI 0) hx hb dX2_type_62 (by decide) ?_
                  refine q_iadd2 (x := iv) (y := 0) (z := iv) hx hb (by omega) dX2_type_63 ?_
                  refine q_iadd2 (x := ((tyS tx P T C K iv (j - 1)).2)) (y := iv) (z := ((tyS tx P T C K iv (j - 1)).2) + iv) hx hb (by omega) dX2_type_64 ?_
                  refine lv_istore_n (lv' := [(2, .int (nI (((tyS tx P T C K iv (j - 1)).2) + iv))), (0, .ref (h 0)), (1, .int (nI iv)), (3, .int (nI j))]) hx hb dX2_type_65 rfl hl (by decide) rfl (fun ls hl => ?_)
                  have e7 : ((tyS tx P T C K iv (j - 1)).2) + iv = (tyS tx P T C K iv j).2 := by have q := tyS_oc0 (tx := tx) (P := P) (T := T) (C := C) (K := K) (iv := iv) c35 (by omega); omega
                  rw [e7] at hl
                  refine lv_aload_n hx hb dX2_type_66 rfl (lv_at hl 1 rfl) ?_
                  refine q_get (C := RX2) (T := TX2) (N := 20) (ci := 2) (v := .ref (h 9)) hx hb hts hin2 hown hK hV 0 rfl rfl 17 (by decide) (List.mem_of_getElem? (i := 3) rfl) rfl dX2_type_67 ?_
                  refine lv_iload_n hx hb dX2_type_70 rfl (lv_at hl 3 rfl) ?_
                  refine lv_aload_n hx hb dX2_type_71 rfl (lv_at hl 1 rfl) ?_
                  refine lv_aload_n hx hb dX2_type_72 rfl (lv_at hl 1 rfl) ?_
                  refine q_get (C := RX2) (T := TX2) (N := 20) (ci := 2) (v := .ref (h 1)) hx hb hts hin2 hown hK hV 0 rfl rfl 1 (by decide) (List.mem_of_getElem? (i := 5) rfl) rfl dX2_type_73 ?_
                  refine lv_iload_n hx hb dX2_type_76 rfl (lv_at hl 3 rfl) ?_
                  refine q_iald (n := 60) (k := j) (f := tx) hx hb hK hV 1 rfl (by omega) (by omega) dX2_type_77 ?_
                  have f2 := htx j
                  refine lv_iload_n hx hb dX2_type_78 rfl (lv_at hl 0 rfl) ?_
                  refine k_V_i (w0 := ([] : va_W)) (wc := (wD h cA n tx T C K P L u ua ub pm jm lm du lt hh) ++ (wY h cA pr ja (rsP (tyS tx P T C K iv j).1 P) (osF (oc tx P T C K iv) os j))) (b := h 0) (As := [.int (nI (tx j)), .int (nI ((tyS tx P T C K iv j).2))]) (rest := [.int (nI j), .ref (h 9)]) hx hb hml hown hts hK hA hN hV hl.1 (c_X2_stroke l D h cA n tx T C K P L u ua ub pm jm lm du lt hh pr ja (osF (oc tx P T C K iv) os j) (tx j) ((tyS tx P T C K iv j).2) ((tyS tx P T C K iv j).1) (by first | omega | assumption) (by first | omega | assumption) (by first | omega | assumption) (by first | omega | assumption) (by first | omega | assumption) (fun q => by have := g2 q; omega)) gX2_type_X2_stroke rfl rfl rfl hdX2_stroke ⟨Nat.le_of_ble_eq_true rfl, Nat.le_of_ble_eq_true rfl⟩ 0 2 rfl rfl rfl rfl rfl (Nat.le_of_ble_eq_true rfl) dX2_type_79 ⟨Nat.zero_le _, Nat.zero_le _⟩ (fun r W1 H locs hp hV => ?_)
                  obtain ⟨hp1, hp2⟩ := hp
                  replace hp1 := hp1.symm
                  subst hp1
                  replace hp2 := hp2.symm
                  subst hp2
                  have hV : qV D A s.heap ((wD h cA n tx T C K P L u ua ub pm jm lm du lt hh) ++ (wY h cA pr ja (rsP (rn1 C T ((tyS tx P T C K iv j).2) ((tyS tx P T C K iv j).1) (P (tx j))) P) (osF (oc tx P T C K iv) os j))) H locs := hV
                  have f8 : oc1 C (tyS tx P T C K iv j).2 (tyS tx P T C K iv j).1 (P (tx j)) ≤ 2 := g5 j
                  refine q_iast (n := 60) (k := j) (v := (oc1 C ((tyS tx P T C K iv j).2) ((tyS tx P T C K iv j).1) (P (tx j)))) (f := (osF (oc tx P T C K iv) os j)) ((wD h cA n tx T C K P L u ua ub pm jm lm du lt hh) ++ (wY h cA pr ja (rsP (rn1 C T ((tyS tx P T C K iv j).2) ((tyS tx P T C K iv j).1) (P (tx j))) P) (up (osF (oc tx P T C K iv) os j) j (oc1 C ((tyS tx P T C K iv j).2) ((tyS tx P T C K iv j).1) (P (tx j)))))) hx hb hK hV 9 rfl (by omega) (by decide) rfl dX2_type_82 (fun H locs hV => ?_)
                  refine q_iinc (x := j) (z := j + 1) (lv' := [(3, .int (nI (j + 1))), (2, .int (nI ((tyS tx P T C K iv j).2))), (0, .ref (h 0)), (1, .int (nI iv))]) hx hb dX2_type_83 hl (k := 3) rfl (dd := 1) rfl (by omega) (by decide) rfl (fun ls hl => ?_)
                  refine lv_goto (tgt := 25) hx hb dX2_type_86 (by decide) ?_
                  exact ih25  (j + 1) _ _ _ (by omega) (by first | omega | assumption) hV (lv_sub hl [2, 3, 1, 0] rfl)
                · refine lv_aload_n hx hb dX2_type_55 rfl (lv_at hl 0 rfl) ?_
                  refine q_get (C := RX2) (T := TX2) (N := 20) (ci := 2) (v := .int (nI K)) hx hb hts hin2 hown hK hV 0 rfl rfl 4 (by decide) (List.mem_of_getElem? (i := 4) rfl) rfl dX2_type_56 ?_
                  refine lv_goto (tgt := 63) hx hb dX2_type_59 (by decide) ?_
                  refine q_iadd2 (x := iv) (y := K) (z := iv + K) hx hb (by omega) dX2_type_63 ?_
                  refine q_iadd2 (x := ((tyS tx P T C K iv (j - 1)).2)) (y := iv + K) (z := ((tyS tx P T C K iv (j - 1)).2) + iv + K) hx hb (by omega) dX2_type_64 ?_
                  refine lv_istore_n (lv' := [(2, .int (nI (((tyS tx P T C K iv (j - 1)).2) + iv + K))), (0, .ref (h 0)), (1, .int (nI iv)), (3, .int (nI j))]) hx hb dX2_type_65 rfl hl (by decide) rfl (fun ls hl => ?_)
                  have e7 : ((tyS tx P T C K iv (j - 1)).2) + iv + K = (tyS tx P T C K iv j).2 := by have q := tyS_oc1 (tx := tx) (P := P) (T := T) (C := C) (K := K) (iv := iv) c35 (by omega); omega
                  rw [e7] at hl
                  refine lv_aload_n hx hb dX2_type_66 rfl (lv_at hl 1 rfl) ?_
                  refine q_get (C := RX2) (T := TX2) (N := 20) (ci := 2) (v := .ref (h 9)) hx hb hts hin2 hown hK hV 0 rfl rfl 17 (by decide) (List.mem_of_getElem? (i := 3) rfl) rfl dX2_type_67 ?_
                  refine lv_iload_n hx hb dX2_type_70 rfl (lv_at hl 3 rfl) ?_
                  refine lv_aload_n hx hb dX2_type_71 rfl (lv_at hl 1 rfl) ?_
                  refine lv_aload_n hx hb dX2_type_72 rfl (lv_at hl 1 rfl) ?_
                  refine q_get (C := RX2) (T := TX2) (N := 20) (ci := 2) (v := .ref (h 1)) hx hb hts hin2 hown hK hV 0 rfl rfl 1 (by decide) (List.mem_of_getElem? (i := 5) rfl) rfl dX2_type_73 ?_
                  refine lv_iload_n hx hb dX2_type_76 rfl (lv_at hl 3 rfl) ?_
                  refine q_iald (n := 60) (k := j) (f := tx) hx hb hK hV 1 rfl (by omega) (by omega) dX2_type_77 ?_
                  have f3 := htx j
                  refine lv_iload_n hx hb dX2_type_78 rfl (lv_at hl 0 rfl) ?_
                  refine k_V_i (w0 := ([] : va_W)) (wc := (wD h cA n tx T C K P L u ua ub pm jm lm du lt hh) ++ (wY h cA pr ja (rsP (tyS tx P T C K iv j).1 P) (osF (oc tx P T C K iv) os j))) (b := h 0) (As := [.int (nI (tx j)), .int (nI ((tyS tx P T C K iv j).2))]) (rest := [.int (nI j), .ref (h 9)]) hx hb hml hown hts hK hA hN hV hl.1 (c_X2_stroke l D h cA n tx T C K P L u ua ub pm jm lm du lt hh pr ja (osF (oc tx P T C K iv) os j) (tx j) ((tyS tx P T C K iv j).2) ((tyS tx P T C K iv j).1) (by first | omega | assumption) (by first | omega | assumption) (by first | omega | assumption) (by first | omega | assumption) (by first | omega | assumption) (fun q => by have := g2 q; omega)) gX2_type_X2_stroke rfl rfl rfl hdX2_stroke ⟨Nat.le_of_ble_eq_true rfl, Nat.le_of_ble_eq_true rfl⟩ 0 2 rfl rfl rfl rfl rfl (Nat.le_of_ble_eq_true rfl) dX2_type_79 ⟨Nat.zero_le _, Nat.zero_le _⟩ (fun r W1 H locs hp hV => ?_)
                  obtain ⟨hp1, hp2⟩ := hp
                  replace hp1 := hp1.symm
                  subst hp1
                  replace hp2 := hp2.symm
                  subst hp2
                  have hV : qV D A s.heap ((wD h cA n tx T C K P L u ua ub pm jm lm du lt hh) ++ (wY h cA pr ja (rsP (rn1 C T ((tyS tx P T C K iv j).2) ((tyS tx P T C K iv j).1) (P (tx j))) P) (osF (oc tx P T C K iv) os j))) H locs := hV
                  have f8 : oc1 C (tyS tx P T C K iv j).2 (tyS tx P T C K iv j).1 (P (tx j)) ≤ 2 := g5 j
                  refine q_iast (n := 60) (k := j) (v := (oc1 C ((tyS tx P T C K iv j).2) ((tyS tx P T C K iv j).1) (P (tx j)))) (f := (osF (oc tx P T C K iv) os j)) ((wD h cA n tx T C K P L u ua ub pm jm lm du lt hh) ++ (wY h cA pr ja (rsP (rn1 C T ((tyS tx P T C K iv j).2) ((tyS tx P T C K iv j).1) (P (tx j))) P) (up (osF (oc tx P T C K iv) os j) j (oc1 C ((tyS tx P T C K iv j).2) ((tyS tx P T C K iv j).1) (P (tx j)))))) hx hb hK hV 9 rfl (by omega) (by decide) rfl dX2_type_82 (fun H locs hV => ?_)
                  refine q_iinc (x := j) (z := j + 1) (lv' := [(3, .int (nI (j + 1))), (2, .int (nI ((tyS tx P T C K iv j).2))), (0, .ref (h 0)), (1, .int (nI iv))]) hx hb dX2_type_83 hl (k := 3) rfl (dd := 1) rfl (by omega) (by decide) rfl (fun ls hl => ?_)
                  refine lv_goto (tgt := 25) hx hb dX2_type_86 (by decide) ?_
                  exact ih25  (j + 1) _ _ _ (by omega) (by first | omega | assumption) hV (lv_sub hl [2, 3, 1, 0] rfl)
              · refine lv_iconst (v := nI 0) hx hb dX2_type_38 (by decide) ?_
                refine lv_goto (tgt := 64) hx hb dX2_type_39 (by decide) ?_
                refine q_iadd2 (x := ((tyS tx P T C K iv (j - 1)).2)) (y := 0) (z := ((tyS tx P T C K iv (j - 1)).2)) hx hb (by omega) dX2_type_64 ?_
                refine lv_istore_n (lv' := [(2, .int (nI ((tyS tx P T C K iv (j - 1)).2))), (0, .ref (h 0)), (1, .int (nI iv)), (3, .int (nI j))]) hx hb dX2_type_65 rfl hl (by decide) rfl (fun ls hl => ?_)
                have e7 : ((tyS tx P T C K iv (j - 1)).2) = (tyS tx P T C K iv j).2 := by rw [c35]
                rw [e7] at hl
                refine lv_aload_n hx hb dX2_type_66 rfl (lv_at hl 1 rfl) ?_
                refine q_get (C := RX2) (T := TX2) (N := 20) (ci := 2) (v := .ref (h 9)) hx hb hts hin2 hown hK hV 0 rfl rfl 17 (by decide) (List.mem_of_getElem? (i := 3) rfl) rfl dX2_type_67 ?_
                refine lv_iload_n hx hb dX2_type_70 rfl (lv_at hl 3 rfl) ?_
                refine lv_aload_n hx hb dX2_type_71 rfl (lv_at hl 1 rfl) ?_
                refine lv_aload_n hx hb dX2_type_72 rfl (lv_at hl 1 rfl) ?_
                refine q_get (C := RX2) (T := TX2) (N := 20) (ci := 2) (v := .ref (h 1)) hx hb hts hin2 hown hK hV 0 rfl rfl 1 (by decide) (List.mem_of_getElem? (i := 5) rfl) rfl dX2_type_73 ?_
                refine lv_iload_n hx hb dX2_type_76 rfl (lv_at hl 3 rfl) ?_
                refine q_iald (n := 60) (k := j) (f := tx) hx hb hK hV 1 rfl (by omega) (by omega) dX2_type_77 ?_
                have f4 := htx j
                refine lv_iload_n hx hb dX2_type_78 rfl (lv_at hl 0 rfl) ?_
                refine k_V_i (w0 := ([] : va_W)) (wc := (wD h cA n tx T C K P L u ua ub pm jm lm du lt hh) ++ (wY h cA pr ja (rsP (tyS tx P T C K iv j).1 P) (osF (oc tx P T C K iv) os j))) (b := h 0) (As := [.int (nI (tx j)), .int (nI ((tyS tx P T C K iv j).2))]) (rest := [.int (nI j), .ref (h 9)]) hx hb hml hown hts hK hA hN hV hl.1 (c_X2_stroke l D h cA n tx T C K P L u ua ub pm jm lm du lt hh pr ja (osF (oc tx P T C K iv) os j) (tx j) ((tyS tx P T C K iv j).2) ((tyS tx P T C K iv j).1) (by first | omega | assumption) (by first | omega | assumption) (by first | omega | assumption) (by first | omega | assumption) (by first | omega | assumption) (fun q => by have := g2 q; omega)) gX2_type_X2_stroke rfl rfl rfl hdX2_stroke ⟨Nat.le_of_ble_eq_true rfl, Nat.le_of_ble_eq_true rfl⟩ 0 2 rfl rfl rfl rfl rfl (Nat.le_of_ble_eq_true rfl) dX2_type_79 ⟨Nat.zero_le _, Nat.zero_le _⟩ (fun r W1 H locs hp hV => ?_)
                obtain ⟨hp1, hp2⟩ := hp
                replace hp1 := hp1.symm
                subst hp1
                replace hp2 := hp2.symm
                subst hp2
                have hV : qV D A s.heap ((wD h cA n tx T C K P L u ua ub pm jm lm du lt hh) ++ (wY h cA pr ja (rsP (rn1 C T ((tyS tx P T C K iv j).2) ((tyS tx P T C K iv j).1) (P (tx j))) P) (osF (oc tx P T C K iv) os j))) H locs := hV
                have f8 : oc1 C (tyS tx P T C K iv j).2 (tyS tx P T C K iv j).1 (P (tx j)) ≤ 2 := g5 j
                refine q_iast (n := 60) (k := j) (v := (oc1 C ((tyS tx P T C K iv j).2) ((tyS tx P T C K iv j).1) (P (tx j)))) (f := (osF (oc tx P T C K iv) os j)) ((wD h cA n tx T C K P L u ua ub pm jm lm du lt hh) ++ (wY h cA pr ja (rsP (rn1 C T ((tyS tx P T C K iv j).2) ((tyS tx P T C K iv j).1) (P (tx j))) P) (up (osF (oc tx P T C K iv) os j) j (oc1 C ((tyS tx P T C K iv j).2) ((tyS tx P T C K iv j).1) (P (tx j)))))) hx hb hK hV 9 rfl (by omega) (by decide) rfl dX2_type_82 (fun H locs hV => ?_)
                refine q_iinc (x := j) (z := j + 1) (lv' := [(3, .int (nI (j + 1))), (2, .int (nI ((tyS tx P T C K iv j).2))), (0, .ref (h 0)), (1, .int (nI iv))]) hx hb dX2_type_83 hl (k := 3) rfl (dd := 1) rfl (by omega) (by decide) rfl (fun ls hl => ?_)
                refine lv_goto (tgt := 25) hx hb dX2_type_86 (by decide) ?_
                exact ih25  (j + 1) _ _ _ (by omega) (by first | omega | assumption) hV (lv_sub hl [2, 3, 1, 0] rfl)
        exact lp25 61 0 _ _ _ (by omega) (by first | omega | assumption) hV (lv_sub hl [2, 3, 1, 0] rfl)
      · refine lv_aload_n hx hb dX2_type_8 rfl (lv_at hl 0 rfl) ?_
        refine q_get (C := RX2) (T := TX2) (N := 20) (ci := 2) (v := .ref (h 8)) hx hb hts hin2 hown hK hV 0 rfl rfl 16 (by decide) (List.mem_of_getElem? (i := 1) rfl) rfl dX2_type_9 ?_
        refine lv_iload_n hx hb dX2_type_12 rfl (lv_at hl 2 rfl) ?_
        refine lv_iconst (v := nI 0) hx hb dX2_type_13 (by decide) ?_
        refine q_iast (n := 12) (k := j) (v := 0) (f := zr rs j) ((wD h cA n tx T C K P L u ua ub pm jm lm du lt hh) ++ (wY h cA pr ja (up (zr rs j) j 0) os)) hx hb hK hV 8 rfl (by omega) (by decide) rfl dX2_type_14 (fun H locs hV => ?_)
        refine q_iinc (x := j) (z := j + 1) (lv' := [(2, .int (nI (j + 1))), (0, .ref (h 0)), (1, .int (nI iv))]) hx hb dX2_type_15 hl (k := 2) rfl (dd := 1) rfl (by omega) (by decide) rfl (fun ls hl => ?_)
        refine lv_goto (tgt := 2) hx hb dX2_type_18 (by decide) ?_
        exact ih2  (j + 1) _ _ _ (by omega) (by first | omega | assumption) hV (lv_sub hl [1, 2, 0] rfl)
  exact lp2 13 0 _ _ _ (by omega) (by first | omega | assumption) hV (lv_sub hl [1, 2, 0] rfl)
abbrev rm_X2_run : Room := { frames := 3, cells := 0, slots := 0, locals := 68 }
set_option maxHeartbeats 4000000 in
set_option maxRecDepth 100000 in
theorem c_X2_run (l : Launch) (D : va_G) (h : Nat → Nat) (cA : ClassId) (n : Nat) (tx : Nat → Nat) (T : Nat) (C : Nat) (K : Nat) (P : Nat → Nat) (L : Nat → Nat) (u : Nat) (ua : Nat → Nat) (ub : Nat → Nat) (pm : Nat) (jm : Nat) (lm : Nat) (du : Nat) (lt : Nat) (hh : Int64) (pr : Nat → Nat) (ja : Nat → Nat) (rs : Nat → Nat) (os : Nat → Nat) (v1 : Int32)  (hn : n ≤ 60) (htx : ∀ i, tx i < 12) (hC : C ≤ 5) (hp : perm L P) (hT : T ≤ 20) (hK5 : K ≤ 50) : CTi l D cA yX2_run wsX2_run rm_X2_run [.ref (h 0), .int v1] ((wD h cA n tx T C K P L u ua ub pm jm lm du lt hh) ++ (wY h cA pr ja rs os)) (fun r W1 => r = aRn tx P T C K n v1 ∧ ∃ (rs1 os1 : Nat → Nat) (lt1 : Nat), W1 = (wD h cA n tx T C K P L u ua ub (((yRn tx P T C K n v1 (pm, jm, lm, du, pr, ja))).1) (((yRn tx P T C K n v1 (pm, jm, lm, du, pr, ja))).2.1) (((yRn tx P T C K n v1 (pm, jm, lm, du, pr, ja))).2.2.1) (((yRn tx P T C K n v1 (pm, jm, lm, du, pr, ja))).2.2.2.1) lt1 hh) ++ (wY h cA (((yRn tx P T C K n v1 (pm, jm, lm, du, pr, ja))).2.2.2.2.1) (((yRn tx P T C K n v1 (pm, jm, lm, du, pr, ja))).2.2.2.2.2) rs1 os1)) := by
  refine CTi.mk (cc := cX2_run) (maxL := 3) (ret := some .int) (by decide) rfl (Nat.le_of_ble_eq_true rfl) ?_
  intro p e s m below meth c A ls E hV hl
  obtain ⟨hx, hb, hml, hr, hown, hts, hlocks, hK, hA, hN⟩ := E
  have hown : s.vm.findClass RX2 = some m.cls := hown
  have hin2 : ∀ w ∈ wsX20, w ∈ wsX2_run := fun _ h => List.mem_cons_of_mem _ (List.mem_append_right _ h)
  have hl : lv_has ls 3 [(0, .ref (h 0)), (1, .int v1)] := hl
  refine lv_iload_n hx hb dX2_run_0 rfl (lv_at hl 1 rfl) ?_
  refine lv_iconst (v := nI 1) hx hb dX2_run_1 (by decide) ?_
  refine lv_bipush (v := nI 30) hx hb dX2_run_2 (by decide) ?_
  refine k_S_i (w0 := (wD h cA n tx T C K P L u ua ub pm jm lm du lt hh) ++ (wY h cA pr ja rs os)) (wc := ([] : va_W)) (As := [.int v1, .int (nI 1), .int (nI 30)]) (rest := []) hx hb hml hown hts hK hA hN hV hl.1 (c_X2_within l D cA v1 (nI 1) (nI 30)  ) gX2_run_X2_within rfl rfl rfl hdX2_within ⟨Nat.le_of_ble_eq_true rfl, Nat.le_of_ble_eq_true rfl⟩ rfl rfl (Nat.le_of_ble_eq_true rfl) dX2_run_4 ⟨Nat.zero_le _, Nat.zero_le _⟩ (fun r W1 H locs hp hV => ?_)
  obtain ⟨hp1, hp2⟩ := hp
  replace hp1 := hp1.symm
  subst hp1
  replace hp2 := hp2.symm
  subst hp2
  have hV : qV D A s.heap ((wD h cA n tx T C K P L u ua ub pm jm lm du lt hh) ++ (wY h cA pr ja rs os)) H locs := hV
  have f1 := wi_le v1 (nI 1) (nI 30)
  refine q_top (congrArg nI (wi_ok (lo := 1) (hi := 30) (by decide) (by decide))) ?_
  have := okR_le 1 30 v1
  refine q_if_ne (x := (okR 1 30 v1)) (tgt := 13) hx hb dX2_run_7 (by decide) (by omega) (fun c7 => ?_) (fun c7 => ?_)
  · obtain ⟨k1, hk0, hk1, rfl⟩ := okR_1 (lo := 1) (hi := 30) (by decide) c7
    refine lv_aload_n hx hb dX2_run_13 rfl (lv_at hl 0 rfl) ?_
    refine lv_iload_n hx hb dX2_run_14 rfl (lv_at hl 1 rfl) ?_
    refine k_V_v (w0 := ([] : va_W)) (wc := (wD h cA n tx T C K P L u ua ub pm jm lm du lt hh) ++ (wY h cA pr ja rs os)) (b := h 0) (As := [.int (nI k1)]) (rest := []) hx hb hml hown hts hK hA hN hV hl.1 (c_X2_type l D h cA n tx T C K P L u ua ub pm jm lm du lt hh pr ja rs os k1  (by first | omega | assumption) (by first | omega | assumption) (by first | omega | assumption) (by first | omega | assumption) (by first | omega | assumption) (by first | omega | assumption) (by first | omega | assumption)) gX2_run_X2_type rfl rfl rfl hdX2_type ⟨Nat.le_of_ble_eq_true rfl, Nat.le_of_ble_eq_true rfl⟩ 0 2 rfl rfl rfl rfl rfl (Nat.le_of_ble_eq_true rfl) dX2_run_15 ⟨Nat.zero_le _, Nat.zero_le _⟩ (fun W1 H locs hp hV => ?_)
    subst hp
    have hV : qV D A s.heap ((wD h cA n tx T C K P L u ua ub pm jm lm du ((tyS tx P T C K k1 (n - 1)).2) hh) ++ (wY h cA pr ja (rsP (tyS tx P T C K k1 n).1 P) (osF (oc tx P T C K k1) os n))) H locs := hV
    refine lv_aload_n hx hb dX2_run_18 rfl (lv_at hl 0 rfl) ?_
    refine lv_iconst (v := nI 0) hx hb dX2_run_19 (by decide) ?_
    refine q_put (C := RX2) (T := TX2) (N := 20) (ci := 2) (v := .int (nI 0)) ((wD h cA n tx T C K P L u ua ub 0 jm lm du ((tyS tx P T C K k1 (n - 1)).2) hh) ++ (wY h cA pr ja (rsP (tyS tx P T C K k1 n).1 P) (osF (oc tx P T C K k1) os n))) hx hb hts hin2 tyX2 tyX2_ok nmX2 hown hK hV 0 rfl rfl 10 (by decide) (List.mem_of_getElem? (i := 2) rfl) rfl rfl rfl (Nat.le_of_ble_eq_true rfl) rfl dX2_run_20 (fun H locs hV => ?_)
    refine lv_aload_n hx hb dX2_run_23 rfl (lv_at hl 0 rfl) ?_
    refine lv_iconst (v := nI 0) hx hb dX2_run_24 (by decide) ?_
    refine q_put (C := RX2) (T := TX2) (N := 20) (ci := 2) (v := .int (nI 0)) ((wD h cA n tx T C K P L u ua ub 0 0 lm du ((tyS tx P T C K k1 (n - 1)).2) hh) ++ (wY h cA pr ja (rsP (tyS tx P T C K k1 n).1 P) (osF (oc tx P T C K k1) os n))) hx hb hts hin2 tyX2 tyX2_ok nmX2 hown hK hV 0 rfl rfl 11 (by decide) (List.mem_of_getElem? (i := 3) rfl) rfl rfl rfl (Nat.le_of_ble_eq_true rfl) rfl dX2_run_25 (fun H locs hV => ?_)
    refine lv_aload_n hx hb dX2_run_28 rfl (lv_at hl 0 rfl) ?_
    refine lv_iconst (v := nI 0) hx hb dX2_run_29 (by decide) ?_
    refine q_put (C := RX2) (T := TX2) (N := 20) (ci := 2) (v := .int (nI 0)) ((wD h cA n tx T C K P L u ua ub 0 0 0 du ((tyS tx P T C K k1 (n - 1)).2) hh) ++ (wY h cA pr ja (rsP (tyS tx P T C K k1 n).1 P) (osF (oc tx P T C K k1) os n))) hx hb hts hin2 tyX2 tyX2_ok nmX2 hown hK hV 0 rfl rfl 12 (by decide) (List.mem_of_getElem? (i := 4) rfl) rfl rfl rfl (Nat.le_of_ble_eq_true rfl) rfl dX2_run_30 (fun H locs hV => ?_)
    refine lv_iconst (v := nI 0) hx hb dX2_run_33 (by decide) ?_
    refine lv_istore_n (lv' := [(2, .int (nI 0)), (0, .ref (h 0)), (1, .int (nI k1))]) hx hb dX2_run_34 rfl hl (by decide) rfl (fun ls hl => ?_)
    have lp35 : ∀ (d35 : Nat) (j : Nat) (H : Heap) (locs : List Loc) (ls : Array Slot), (61 ≤ j + d35) → (j ≤ n) → qV D A s.heap ((wD h cA n tx T C K P L u ua ub (pmF (oc tx P T C K k1) j) (jmF (oc tx P T C K k1) j) (lmF (oc tx P T C K k1) j) du ((tyS tx P T C K k1 (n - 1)).2) hh) ++ (wY h cA (prF (oc tx P T C K k1) tx pr j) (jaF (oc tx P T C K k1) ja j) (rsP (tyS tx P T C K k1 n).1 P) (osF (oc tx P T C K k1) os n))) H locs → lv_has ls 3 [(0, .ref (h 0)), (1, .int (nI k1)), (2, .int (nI j))] → W p l e rm_X2_run s m ([.ref (h 0), .int (nI k1)] : List Value).toArray below meth c H locs 0 0 (MQ below (va_Qi (fun r W1 => r = aRn tx P T C K n (nI k1) ∧ ∃ (rs1 os1 : Nat → Nat) (lt1 : Nat), W1 = (wD h cA n tx T C K P L u ua ub (((yRn tx P T C K n (nI k1) (pm, jm, lm, du, pr, ja))).1) (((yRn tx P T C K n (nI k1) (pm, jm, lm, du, pr, ja))).2.1) (((yRn tx P T C K n (nI k1) (pm, jm, lm, du, pr, ja))).2.2.1) (((yRn tx P T C K n (nI k1) (pm, jm, lm, du, pr, ja))).2.2.2.1) lt1 hh) ++ (wY h cA (((yRn tx P T C K n (nI k1) (pm, jm, lm, du, pr, ja))).2.2.2.2.1) (((yRn tx P T C K n (nI k1) (pm, jm, lm, du, pr, ja))).2.2.2.2.2) rs1 os1)) (cPost D A) A) ([.ref (h 0), .int (nI k1)] : List Value).toArray s 0 0 A) (F0 m 35 ls []) := by
      intro d35
      induction d35 with
      | zero => intro j H locs ls hm35 hj hV hl; exfalso; omega
      | succ d35 ih35 =>
        intro j H locs ls hm35 hj hV hl
        have g3 := pmF_le (oc tx P T C K k1) j
        have g4 := jmF_le (oc tx P T C K k1) j
        have g5 := lmF_le (oc tx P T C K k1) j
        have g6 := oc_le tx P T C K k1 j
        refine lv_iload_n hx hb dX2_run_35 rfl (lv_at hl 2 rfl) ?_
        refine lv_aload_n hx hb dX2_run_36 rfl (lv_at hl 0 rfl) ?_
        refine q_get (C := RX2) (T := TX2) (N := 20) (ci := 2) (v := .int (nI n)) hx hb hts hin2 hown hK hV 0 rfl rfl 0 (by decide) (List.mem_of_getElem? (i := 5) rfl) rfl dX2_run_37 ?_
        refine q_icmp_ge (x := j) (y := n) (tgt := 129) hx hb dX2_run_40 (by decide) (by omega) (by omega) (fun c40 => ?_) (fun c40 => ?_)
        · have ej : n = j := by omega
          subst ej
          refine lv_aload_n hx hb dX2_run_129 rfl (lv_at hl 0 rfl) ?_
          refine lv_aload_n hx hb dX2_run_130 rfl (lv_at hl 0 rfl) ?_
          refine q_get (C := RX2) (T := TX2) (N := 20) (ci := 2) (v := .int (nI n)) hx hb hts hin2 hown hK hV 0 rfl rfl 0 (by decide) (List.mem_of_getElem? (i := 5) rfl) rfl dX2_run_131 ?_
          refine q_if_ne (x := n) (tgt := 141) hx hb dX2_run_134 (by decide) (by omega) (fun c134 => ?_) (fun c134 => ?_)
          · refine lv_aload_n hx hb dX2_run_141 rfl (lv_at hl 0 rfl) ?_
            refine q_get (C := RX2) (T := TX2) (N := 20) (ci := 2) (v := .int (nI ((tyS tx P T C K k1 (n - 1)).2))) hx hb hts hin2 hown hK hV 0 rfl rfl 18 (by decide) (List.mem_of_getElem? (i := 10) rfl) rfl dX2_run_142 ?_
            refine lv_aload_n hx hb dX2_run_145 rfl (lv_at hl 0 rfl) ?_
            refine q_get (C := RX2) (T := TX2) (N := 20) (ci := 2) (v := .int (nI T)) hx hb hts hin2 hown hK hV 0 rfl rfl 2 (by decide) (List.mem_of_getElem? (i := 11) rfl) rfl dX2_run_146 ?_
            refine q_iadd2 (x := ((tyS tx P T C K k1 (n - 1)).2)) (y := T) (z := ((tyS tx P T C K k1 (n - 1)).2) + T) hx hb (by omega) dX2_run_149 ?_
            refine q_put (C := RX2) (T := TX2) (N := 20) (ci := 2) (v := .int (nI (((tyS tx P T C K k1 (n - 1)).2) + T))) ((wD h cA n tx T C K P L u ua ub (pmF (oc tx P T C K k1) n) (jmF (oc tx P T C K k1) n) (lmF (oc tx P T C K k1) n) (((tyS tx P T C K k1 (n - 1)).2) + T) ((tyS tx P T C K k1 (n - 1)).2) hh) ++ (wY h cA (prF (oc tx P T C K k1) tx pr n) (jaF (oc tx P T C K k1) ja n) (rsP (tyS tx P T C K k1 n).1 P) (osF (oc tx P T C K k1) os n))) hx hb hts hin2 tyX2 tyX2_ok nmX2 hown hK hV 0 rfl rfl 13 (by decide) (List.mem_of_getElem? (i := 12) rfl) rfl rfl rfl (Nat.le_of_ble_eq_true rfl) rfl dX2_run_150 (fun H locs hV => ?_)
            refine lv_aload_n hx hb dX2_run_153 rfl (lv_at hl 0 rfl) ?_
            refine q_get (C := RX2) (T := TX2) (N := 20) (ci := 2) (v := .int (nI (pmF (oc tx P T C K k1) n))) hx hb hts hin2 hown hK hV 0 rfl rfl 10 (by decide) (List.mem_of_getElem? (i := 2) rfl) rfl dX2_run_154 ?_
            have e9 : duF tx P T C K k1 n = ((tyS tx P T C K k1 (n - 1)).2) + T := by unfold duF; rw [if_neg c134]
            exact q_iret (W1 := (wD h cA n tx T C K P L u ua ub (pmF (oc tx P T C K k1) n) (jmF (oc tx P T C K k1) n) (lmF (oc tx P T C K k1) n) (((tyS tx P T C K k1 (n - 1)).2) + T) ((tyS tx P T C K k1 (n - 1)).2) hh) ++ (wY h cA (prF (oc tx P T C K k1) tx pr n) (jaF (oc tx P T C K k1) ja n) (rsP (tyS tx P T C K k1 n).1 P) (osF (oc tx P T C K k1) os n))) hx hb hr hlocks hV dX2_run_157 ⟨(aRn_ok hk0 hk1).symm, _, _, _, by rw [yRn_ok hk0 hk1]; unfold rnF; rw [e9]⟩
          · refine lv_iconst (v := nI 0) hx hb dX2_run_137 (by decide) ?_
            refine lv_goto (tgt := 150) hx hb dX2_run_138 (by decide) ?_
            refine q_put (C := RX2) (T := TX2) (N := 20) (ci := 2) (v := .int (nI 0)) ((wD h cA n tx T C K P L u ua ub (pmF (oc tx P T C K k1) n) (jmF (oc tx P T C K k1) n) (lmF (oc tx P T C K k1) n) 0 ((tyS tx P T C K k1 (n - 1)).2) hh) ++ (wY h cA (prF (oc tx P T C K k1) tx pr n) (jaF (oc tx P T C K k1) ja n) (rsP (tyS tx P T C K k1 n).1 P) (osF (oc tx P T C K k1) os n))) hx hb hts hin2 tyX2 tyX2_ok nmX2 hown hK hV 0 rfl rfl 13 (by decide) (List.mem_of_getElem? (i := 12) rfl) rfl rfl rfl (Nat.le_of_ble_eq_true rfl) rfl dX2_run_150 (fun H locs hV => ?_)
            refine lv_aload_n hx hb dX2_run_153 rfl (lv_at hl 0 rfl) ?_
            refine q_get (C := RX2) (T := TX2) (N := 20) (ci := 2) (v := .int (nI (pmF (oc tx P T C K k1) n))) hx hb hts hin2 hown hK hV 0 rfl rfl 10 (by decide) (List.mem_of_getElem? (i := 2) rfl) rfl dX2_run_154 ?_
            have e9 : duF tx P T C K k1 n = 0 := by unfold duF; rw [if_pos c134]
            exact q_iret (W1 := (wD h cA n tx T C K P L u ua ub (pmF (oc tx P T C K k1) n) (jmF (oc tx P T C K k1) n) (lmF (oc tx P T C K k1) n) 0 ((tyS tx P T C K k1 (n - 1)).2) hh) ++ (wY h cA (prF (oc tx P T C K k1) tx pr n) (jaF (oc tx P T C K k1) ja n) (rsP (tyS tx P T C K k1 n).1 P) (osF (oc tx P T C K k1) os n))) hx hb hr hlocks hV dX2_run_157 ⟨(aRn_ok hk0 hk1).symm, _, _, _, by rw [yRn_ok hk0 hk1]; unfold rnF; rw [e9]⟩
        · refine lv_aload_n hx hb dX2_run_43 rfl (lv_at hl 0 rfl) ?_
          refine q_get (C := RX2) (T := TX2) (N := 20) (ci := 2) (v := .ref (h 9)) hx hb hts hin2 hown hK hV 0 rfl rfl 17 (by decide) (List.mem_of_getElem? (i := 6) rfl) rfl dX2_run_44 ?_
          refine lv_iload_n hx hb dX2_run_47 rfl (lv_at hl 2 rfl) ?_
          refine q_iald (n := 60) (k := j) (f := osF (oc tx P T C K k1) os n) hx hb hK hV 9 rfl (by omega) (by omega) dX2_run_48 ?_
          have f2 := osF_at (oc tx P T C K k1) os n j (by omega)
          refine q_if_ne (x := ((osF (oc tx P T C K k1) os n) j)) (tgt := 80) hx hb dX2_run_49 (by decide) (by omega) (fun c49 => ?_) (fun c49 => ?_)
          · refine lv_aload_n hx hb dX2_run_80 rfl (lv_at hl 0 rfl) ?_
            refine q_get (C := RX2) (T := TX2) (N := 20) (ci := 2) (v := .ref (h 9)) hx hb hts hin2 hown hK hV 0 rfl rfl 17 (by decide) (List.mem_of_getElem? (i := 6) rfl) rfl dX2_run_81 ?_
            refine lv_iload_n hx hb dX2_run_84 rfl (lv_at hl 2 rfl) ?_
            refine q_iald (n := 60) (k := j) (f := osF (oc tx P T C K k1) os n) hx hb hK hV 9 rfl (by omega) (by omega) dX2_run_85 ?_
            have f3 := osF_at (oc tx P T C K k1) os n j (by omega)
            refine lv_iconst (v := nI 1) hx hb dX2_run_86 (by decide) ?_
            refine q_icmp_ne (x := ((osF (oc tx P T C K k1) os n) j)) (y := 1) (tgt := 113) hx hb dX2_run_87 (by decide) (by omega) (by omega) (fun c87 => ?_) (fun c87 => ?_)
            · refine lv_aload_n hx hb dX2_run_113 rfl (lv_at hl 0 rfl) ?_
              refine lv_dup hx hb dX2_run_114 rfl ?_
              refine q_get (C := RX2) (T := TX2) (N := 20) (ci := 2) (v := .int (nI (lmF (oc tx P T C K k1) j))) hx hb hts hin2 hown hK hV 0 rfl rfl 12 (by decide) (List.mem_of_getElem? (i := 4) rfl) rfl dX2_run_115 ?_
              refine lv_iconst (v := nI 1) hx hb dX2_run_118 (by decide) ?_
              refine q_iadd2 (x := (lmF (oc tx P T C K k1) j)) (y := 1) (z := (lmF (oc tx P T C K k1) j) + 1) hx hb (by omega) dX2_run_119 ?_
              refine q_put (C := RX2) (T := TX2) (N := 20) (ci := 2) (v := .int (nI ((lmF (oc tx P T C K k1) j) + 1))) ((wD h cA n tx T C K P L u ua ub (pmF (oc tx P T C K k1) j) (jmF (oc tx P T C K k1) j) ((lmF (oc tx P T C K k1) j) + 1) du ((tyS tx P T C K k1 (n - 1)).2) hh) ++ (wY h cA (prF (oc tx P T C K k1) tx pr j) (jaF (oc tx P T C K k1) ja j) (rsP (tyS tx P T C K k1 n).1 P) (osF (oc tx P T C K k1) os n))) hx hb hts hin2 tyX2 tyX2_ok nmX2 hown hK hV 0 rfl rfl 12 (by decide) (List.mem_of_getElem? (i := 4) rfl) rfl rfl rfl (Nat.le_of_ble_eq_true rfl) rfl dX2_run_120 (fun H locs hV => ?_)
              refine q_iinc (x := j) (z := j + 1) (lv' := [(2, .int (nI (j + 1))), (0, .ref (h 0)), (1, .int (nI k1))]) hx hb dX2_run_123 hl (k := 2) rfl (dd := 1) rfl (by omega) (by decide) rfl (fun ls hl => ?_)
              refine lv_goto (tgt := 35) hx hb dX2_run_126 (by decide) ?_
              have e1 := pmF_n (o := (oc tx P T C K k1)) (j := j) (by omega)
              have e2 := jmF_n (o := (oc tx P T C K k1)) (j := j) (by omega)
              have e3 := lmF_n (o := (oc tx P T C K k1)) (j := j) (by omega)
              have e4 := prF_n (o := (oc tx P T C K k1)) (tx := tx) (pr := pr) (j := j) (by omega)
              have e5 := jaF_n (o := (oc tx P T C K k1)) (ja := ja) (j := j) (by omega)
              exact ih35  (j + 1) _ _ _ (by omega) (by first | omega | assumption) (by rw [e1, e2, e3, e4, e5]; exact hV) (lv_sub hl [1, 2, 0] rfl)
            · refine lv_aload_n hx hb dX2_run_90 rfl (lv_at hl 0 rfl) ?_
              refine q_get (C := RX2) (T := TX2) (N := 20) (ci := 2) (v := .ref (h 7)) hx hb hts hin2 hown hK hV 0 rfl rfl 15 (by decide) (List.mem_of_getElem? (i := 9) rfl) rfl dX2_run_91 ?_
              refine lv_aload_n hx hb dX2_run_94 rfl (lv_at hl 0 rfl) ?_
              refine q_get (C := RX2) (T := TX2) (N := 20) (ci := 2) (v := .int (nI (jmF (oc tx P T C K k1) j))) hx hb hts hin2 hown hK hV 0 rfl rfl 11 (by decide) (List.mem_of_getElem? (i := 3) rfl) rfl dX2_run_95 ?_
              refine lv_iload_n hx hb dX2_run_98 rfl (lv_at hl 2 rfl) ?_
              refine q_iast (n := 60) (k := (jmF (oc tx P T C K k1) j)) (v := j) (f := jaF (oc tx P T C K k1) ja j) ((wD h cA n tx T C K P L u ua ub (pmF (oc tx P T C K k1) j) (jmF (oc tx P T C K k1) j) (lmF (oc tx P T C K k1) j) du ((tyS tx P T C K k1 (n - 1)).2) hh) ++ (wY h cA (prF (oc tx P T C K k1) tx pr j) (up (jaF (oc tx P T C K k1) ja j) (jmF (oc tx P T C K k1) j) j) (rsP (tyS tx P T C K k1 n).1 P) (osF (oc tx P T C K k1) os n))) hx hb hK hV 7 rfl (by omega) (by decide) rfl dX2_run_99 (fun H locs hV => ?_)
              refine lv_aload_n hx hb dX2_run_100 rfl (lv_at hl 0 rfl) ?_
              refine lv_dup hx hb dX2_run_101 rfl ?_
              refine q_get (C := RX2) (T := TX2) (N := 20) (ci := 2) (v := .int (nI (jmF (oc tx P T C K k1) j))) hx hb hts hin2 hown hK hV 0 rfl rfl 11 (by decide) (List.mem_of_getElem? (i := 3) rfl) rfl dX2_run_102 ?_
              refine lv_iconst (v := nI 1) hx hb dX2_run_105 (by decide) ?_
              refine q_iadd2 (x := (jmF (oc tx P T C K k1) j)) (y := 1) (z := (jmF (oc tx P T C K k1) j) + 1) hx hb (by omega) dX2_run_106 ?_
              refine q_put (C := RX2) (T := TX2) (N := 20) (ci := 2) (v := .int (nI ((jmF (oc tx P T C K k1) j) + 1))) ((wD h cA n tx T C K P L u ua ub (pmF (oc tx P T C K k1) j) ((jmF (oc tx P T C K k1) j) + 1) (lmF (oc tx P T C K k1) j) du ((tyS tx P T C K k1 (n - 1)).2) hh) ++ (wY h cA (prF (oc tx P T C K k1) tx pr j) (up (jaF (oc tx P T C K k1) ja j) (jmF (oc tx P T C K k1) j) j) (rsP (tyS tx P T C K k1 n).1 P) (osF (oc tx P T C K k1) os n))) hx hb hts hin2 tyX2 tyX2_ok nmX2 hown hK hV 0 rfl rfl 11 (by decide) (List.mem_of_getElem? (i := 3) rfl) rfl rfl rfl (Nat.le_of_ble_eq_true rfl) rfl dX2_run_107 (fun H locs hV => ?_)
              refine lv_goto (tgt := 123) hx hb dX2_run_110 (by decide) ?_
              refine q_iinc (x := j) (z := j + 1) (lv' := [(2, .int (nI (j + 1))), (0, .ref (h 0)), (1, .int (nI k1))]) hx hb dX2_run_123 hl (k := 2) rfl (dd := 1) rfl (by omega) (by decide) rfl (fun ls hl => ?_)
              refine lv_goto (tgt := 35) hx hb dX2_run_126 (by decide) ?_
              have e0 : (oc tx P T C K k1) j = 1 := by omega
              have e1 := pmF_n (o := (oc tx P T C K k1)) (j := j) (by omega)
              have e2 := jmF_1 e0
              have e3 := lmF_01 (o := (oc tx P T C K k1)) (j := j) (by omega)
              have e4 := prF_n (o := (oc tx P T C K k1)) (tx := tx) (pr := pr) (j := j) (by omega)
              have e5 := jaF_1 (ja := ja) e0
              exact ih35  (j + 1) _ _ _ (by omega) (by first | omega | assumption) (by rw [e1, e2, e3, e4, e5]; exact hV) (lv_sub hl [1, 2, 0] rfl)
          · refine lv_aload_n hx hb dX2_run_52 rfl (lv_at hl 0 rfl) ?_
            refine q_get (C := RX2) (T := TX2) (N := 20) (ci := 2) (v := .ref (h 6)) hx hb hts hin2 hown hK hV 0 rfl rfl 14 (by decide) (List.mem_of_getElem? (i := 7) rfl) rfl dX2_run_53 ?_
            refine lv_aload_n hx hb dX2_run_56 rfl (lv_at hl 0 rfl) ?_
            refine q_get (C := RX2) (T := TX2) (N := 20) (ci := 2) (v := .int (nI (pmF (oc tx P T C K k1) j))) hx hb hts hin2 hown hK hV 0 rfl rfl 10 (by decide) (List.mem_of_getElem? (i := 2) rfl) rfl dX2_run_57 ?_
            refine lv_aload_n hx hb dX2_run_60 rfl (lv_at hl 0 rfl) ?_
            refine q_get (C := RX2) (T := TX2) (N := 20) (ci := 2) (v := .ref (h 1)) hx hb hts hin2 hown hK hV 0 rfl rfl 1 (by decide) (List.mem_of_getElem? (i := 8) rfl) rfl dX2_run_61 ?_
            refine lv_iload_n hx hb dX2_run_64 rfl (lv_at hl 2 rfl) ?_
            refine q_iald (n := 60) (k := j) (f := tx) hx hb hK hV 1 rfl (by omega) (by omega) dX2_run_65 ?_
            have f4 := htx j
            refine q_iast (n := 60) (k := (pmF (oc tx P T C K k1) j)) (v := (tx j)) (f := prF (oc tx P T C K k1) tx pr j) ((wD h cA n tx T C K P L u ua ub (pmF (oc tx P T C K k1) j) (jmF (oc tx P T C K k1) j) (lmF (oc tx P T C K k1) j) du ((tyS tx P T C K k1 (n - 1)).2) hh) ++ (wY h cA (up (prF (oc tx P T C K k1) tx pr j) (pmF (oc tx P T C K k1) j) (tx j)) (jaF (oc tx P T C K k1) ja j) (rsP (tyS tx P T C K k1 n).1 P) (osF (oc tx P T C K k1) os n))) hx hb hK hV 6 rfl (by omega) (by decide) rfl dX2_run_66 (fun H locs hV => ?_)
            refine lv_aload_n hx hb dX2_run_67 rfl (lv_at hl 0 rfl) ?_
            refine lv_dup hx hb dX2_run_68 rfl ?_
            refine q_get (C := RX2) (T := TX2) (N := 20) (ci := 2) (v := .int (nI (pmF (oc tx P T C K k1) j))) hx hb hts hin2 hown hK hV 0 rfl rfl 10 (by decide) (List.mem_of_getElem? (i := 2) rfl) rfl dX2_run_69 ?_
            refine lv_iconst (v := nI 1) hx hb dX2_run_72 (by decide) ?_
            refine q_iadd2 (x := (pmF (oc tx P T C K k1) j)) (y := 1) (z := (pmF (oc tx P T C K k1) j) + 1) hx hb (by omega) dX2_run_73 ?_
            refine q_put (C := RX2) (T := TX2) (N := 20) (ci := 2) (v := .int (nI ((pmF (oc tx P T C K k1) j) + 1))) ((wD h cA n tx T C K P L u ua ub ((pmF (oc tx P T C K k1) j) + 1) (jmF (oc tx P T C K k1) j) (lmF (oc tx P T C K k1) j) du ((tyS tx P T C K k1 (n - 1)).2) hh) ++ (wY h cA (up (prF (oc tx P T C K k1) tx pr j) (pmF (oc tx P T C K k1) j) (tx j)) (jaF (oc tx P T C K k1) ja j) (rsP (tyS tx P T C K k1 n).1 P) (osF (oc tx P T C K k1) os n))) hx hb hts hin2 tyX2 tyX2_ok nmX2 hown hK hV 0 rfl rfl 10 (by decide) (List.mem_of_getElem? (i := 2) rfl) rfl rfl rfl (Nat.le_of_ble_eq_true rfl) rfl dX2_run_74 (fun H locs hV => ?_)
            refine lv_goto (tgt := 123) hx hb dX2_run_77 (by decide) ?_
            refine q_iinc (x := j) (z := j + 1) (lv' := [(2, .int (nI (j + 1))), (0, .ref (h 0)), (1, .int (nI k1))]) hx hb dX2_run_123 hl (k := 2) rfl (dd := 1) rfl (by omega) (by decide) rfl (fun ls hl => ?_)
            refine lv_goto (tgt := 35) hx hb dX2_run_126 (by decide) ?_
            have e0 : (oc tx P T C K k1) j = 0 := by omega
            have e1 := pmF_0 e0
            have e2 := jmF_n (o := (oc tx P T C K k1)) (j := j) (by omega)
            have e3 := lmF_01 (o := (oc tx P T C K k1)) (j := j) (by omega)
            have e4 := prF_0 (tx := tx) (pr := pr) e0
            have e5 := jaF_n (o := (oc tx P T C K k1)) (ja := ja) (j := j) (by omega)
            exact ih35  (j + 1) _ _ _ (by omega) (by first | omega | assumption) (by rw [e1, e2, e3, e4, e5]; exact hV) (lv_sub hl [1, 2, 0] rfl)
    exact lp35 61 0 _ _ _ (by omega) (by first | omega | assumption) hV (lv_sub hl [1, 2, 0] rfl)
  · refine lv_ldc (v := -1000003) hx hb hown (hts _ (List.mem_of_getElem? (i := 1) rfl)) dX2_run_10 ?_
    have e1 : okR 1 30 v1 = 0 := c7
    exact q_iret (W1 := (wD h cA n tx T C K P L u ua ub pm jm lm du lt hh) ++ (wY h cA pr ja rs os)) hx hb hr hlocks hV dX2_run_12 ⟨(aRn_no e1).symm, _, _, _, by rw [yRn_no e1]⟩
abbrev rm_X2_jams : Room := { frames := 0, cells := 0, slots := 0, locals := 0 }
set_option maxHeartbeats 4000000 in
set_option maxRecDepth 100000 in
theorem c_X2_jams (l : Launch) (D : va_G) (h : Nat → Nat) (cA : ClassId) (n : Nat) (tx : Nat → Nat) (T : Nat) (C : Nat) (K : Nat) (P : Nat → Nat) (L : Nat → Nat) (u : Nat) (ua : Nat → Nat) (ub : Nat → Nat) (pm : Nat) (jm : Nat) (lm : Nat) (du : Nat) (lt : Nat) (hh : Int64)    : CTi l D cA yX2_jams wsX2_jams rm_X2_jams [.ref (h 0)] (wD h cA n tx T C K P L u ua ub pm jm lm du lt hh) (fun r W1 => r = nI jm ∧ W1 = wD h cA n tx T C K P L u ua ub pm jm lm du lt hh) := by
  refine CTi.mk (cc := cX2_jams) (maxL := 1) (ret := some .int) (by decide) rfl (Nat.le_of_ble_eq_true rfl) ?_
  intro p e s m below meth c A ls E hV hl
  obtain ⟨hx, hb, hml, hr, hown, hts, hlocks, hK, hA, hN⟩ := E
  have hown : s.vm.findClass RX2 = some m.cls := hown
  have hin2 : ∀ w ∈ wsX20, w ∈ wsX2_jams := fun _ h => List.mem_cons_of_mem _ (List.mem_append_right _ h)
  have hl : lv_has ls 1 [(0, .ref (h 0))] := hl
  refine lv_aload_n hx hb dX2_jams_0 rfl (lv_at hl 0 rfl) ?_
  refine q_get (C := RX2) (T := TX2) (N := 20) (ci := 2) (v := .int (nI jm)) hx hb hts hin2 hown hK hV 0 rfl rfl 11 (by decide) (List.mem_of_getElem? (i := 1) rfl) rfl dX2_jams_1 ?_
  exact q_iret (W1 := wD h cA n tx T C K P L u ua ub pm jm lm du lt hh) hx hb hr hlocks hV dX2_jams_4 ⟨rfl, rfl⟩
abbrev rm_X2_lost : Room := { frames := 0, cells := 0, slots := 0, locals := 0 }
set_option maxHeartbeats 4000000 in
set_option maxRecDepth 100000 in
theorem c_X2_lost (l : Launch) (D : va_G) (h : Nat → Nat) (cA : ClassId) (n : Nat) (tx : Nat → Nat) (T : Nat) (C : Nat) (K : Nat) (P : Nat → Nat) (L : Nat → Nat) (u : Nat) (ua : Nat → Nat) (ub : Nat → Nat) (pm : Nat) (jm : Nat) (lm : Nat) (du : Nat) (lt : Nat) (hh : Int64)    : CTi l D cA yX2_lost wsX2_lost rm_X2_lost [.ref (h 0)] (wD h cA n tx T C K P L u ua ub pm jm lm du lt hh) (fun r W1 => r = nI lm ∧ W1 = wD h cA n tx T C K P L u ua ub pm jm lm du lt hh) := by
  refine CTi.mk (cc := cX2_lost) (maxL := 1) (ret := some .int) (by decide) rfl (Nat.le_of_ble_eq_true rfl) ?_
  intro p e s m below meth c A ls E hV hl
  obtain ⟨hx, hb, hml, hr, hown, hts, hlocks, hK, hA, hN⟩ := E
  have hown : s.vm.findClass RX2 = some m.cls := hown
  have hin2 : ∀ w ∈ wsX20, w ∈ wsX2_lost := fun _ h => List.mem_cons_of_mem _ (List.mem_append_right _ h)
  have hl : lv_has ls 1 [(0, .ref (h 0))] := hl
  refine lv_aload_n hx hb dX2_lost_0 rfl (lv_at hl 0 rfl) ?_
  refine q_get (C := RX2) (T := TX2) (N := 20) (ci := 2) (v := .int (nI lm)) hx hb hts hin2 hown hK hV 0 rfl rfl 12 (by decide) (List.mem_of_getElem? (i := 1) rfl) rfl dX2_lost_1 ?_
  exact q_iret (W1 := wD h cA n tx T C K P L u ua ub pm jm lm du lt hh) hx hb hr hlocks hV dX2_lost_4 ⟨rfl, rfl⟩
abbrev rm_X2_duration : Room := { frames := 0, cells := 0, slots := 0, locals := 0 }
set_option maxHeartbeats 4000000 in
set_option maxRecDepth 100000 in
theorem c_X2_duration (l : Launch) (D : va_G) (h : Nat → Nat) (cA : ClassId) (n : Nat) (tx : Nat → Nat) (T : Nat) (C : Nat) (K : Nat) (P : Nat → Nat) (L : Nat → Nat) (u : Nat) (ua : Nat → Nat) (ub : Nat → Nat) (pm : Nat) (jm : Nat) (lm : Nat) (du : Nat) (lt : Nat) (hh : Int64)    : CTi l D cA yX2_duration wsX2_duration rm_X2_duration [.ref (h 0)] (wD h cA n tx T C K P L u ua ub pm jm lm du lt hh) (fun r W1 => r = nI du ∧ W1 = wD h cA n tx T C K P L u ua ub pm jm lm du lt hh) := by
  refine CTi.mk (cc := cX2_duration) (maxL := 1) (ret := some .int) (by decide) rfl (Nat.le_of_ble_eq_true rfl) ?_
  intro p e s m below meth c A ls E hV hl
  obtain ⟨hx, hb, hml, hr, hown, hts, hlocks, hK, hA, hN⟩ := E
  have hown : s.vm.findClass RX2 = some m.cls := hown
  have hin2 : ∀ w ∈ wsX20, w ∈ wsX2_duration := fun _ h => List.mem_cons_of_mem _ (List.mem_append_right _ h)
  have hl : lv_has ls 1 [(0, .ref (h 0))] := hl
  refine lv_aload_n hx hb dX2_duration_0 rfl (lv_at hl 0 rfl) ?_
  refine q_get (C := RX2) (T := TX2) (N := 20) (ci := 2) (v := .int (nI du)) hx hb hts hin2 hown hK hV 0 rfl rfl 13 (by decide) (List.mem_of_getElem? (i := 1) rfl) rfl dX2_duration_1 ?_
  exact q_iret (W1 := wD h cA n tx T C K P L u ua ub pm jm lm du lt hh) hx hb hr hlocks hV dX2_duration_4 ⟨rfl, rfl⟩
abbrev rm_X2_printedLetter : Room := { frames := 1, cells := 0, slots := 0, locals := 22 }
set_option maxHeartbeats 4000000 in
set_option maxRecDepth 100000 in
theorem c_X2_printedLetter (l : Launch) (D : va_G) (h : Nat → Nat) (cA : ClassId) (n : Nat) (tx : Nat → Nat) (T : Nat) (C : Nat) (K : Nat) (P : Nat → Nat) (L : Nat → Nat) (u : Nat) (ua : Nat → Nat) (ub : Nat → Nat) (pm : Nat) (jm : Nat) (lm : Nat) (du : Nat) (lt : Nat) (hh : Int64) (pr : Nat → Nat) (ja : Nat → Nat) (rs : Nat → Nat) (os : Nat → Nat) (v1 : Int32)  (h_m : pm ≤ 60) : CTi l D cA yX2_printedLetter wsX2_printedLetter rm_X2_printedLetter [.ref (h 0), .int v1] ((wD h cA n tx T C K P L u ua ub pm jm lm du lt hh) ++ (wY h cA pr ja rs os)) (fun r W1 => r = aIx pm pr v1 ∧ W1 = (wD h cA n tx T C K P L u ua ub pm jm lm du lt hh) ++ (wY h cA pr ja rs os)) := by
  refine CTi.mk (cc := cX2_printedLetter) (maxL := 2) (ret := some .int) (by decide) rfl (Nat.le_of_ble_eq_true rfl) ?_
  intro p e s m below meth c A ls E hV hl
  obtain ⟨hx, hb, hml, hr, hown, hts, hlocks, hK, hA, hN⟩ := E
  have hown : s.vm.findClass RX2 = some m.cls := hown
  have hin2 : ∀ w ∈ wsX20, w ∈ wsX2_printedLetter := fun _ h => List.mem_cons_of_mem _ (List.mem_append_right _ h)
  have hl : lv_has ls 2 [(0, .ref (h 0)), (1, .int v1)] := hl
  refine lv_iload_n hx hb dX2_printedLetter_0 rfl (lv_at hl 1 rfl) ?_
  refine lv_iconst (v := nI 0) hx hb dX2_printedLetter_1 (by decide) ?_
  refine lv_aload_n hx hb dX2_printedLetter_2 rfl (lv_at hl 0 rfl) ?_
  refine q_get (C := RX2) (T := TX2) (N := 20) (ci := 2) (v := .int (nI pm)) hx hb hts hin2 hown hK hV 0 rfl rfl 10 (by decide) (List.mem_of_getElem? (i := 1) rfl) rfl dX2_printedLetter_3 ?_
  refine lv_iconst (v := nI 1) hx hb dX2_printedLetter_6 (by decide) ?_
  refine lv_isub hx hb dX2_printedLetter_7 ?_
  refine k_S_i (w0 := (wD h cA n tx T C K P L u ua ub pm jm lm du lt hh) ++ (wY h cA pr ja rs os)) (wc := ([] : va_W)) (As := [.int v1, .int (nI 0), .int (nI pm - nI 1)]) (rest := []) hx hb hml hown hts hK hA hN hV hl.1 (c_X2_within l D cA v1 (nI 0) (nI pm - nI 1)  ) gX2_printedLetter_X2_within rfl rfl rfl hdX2_within ⟨Nat.le_of_ble_eq_true rfl, Nat.le_of_ble_eq_true rfl⟩ rfl rfl (Nat.le_of_ble_eq_true rfl) dX2_printedLetter_8 ⟨Nat.zero_le _, Nat.zero_le _⟩ (fun r W1 H locs hp hV => ?_)
  obtain ⟨hp1, hp2⟩ := hp
  replace hp1 := hp1.symm
  subst hp1
  replace hp2 := hp2.symm
  subst hp2
  have hV : qV D A s.heap ((wD h cA n tx T C K P L u ua ub pm jm lm du lt hh) ++ (wY h cA pr ja rs os)) H locs := hV
  have f1 := wi_le v1 (nI 0) (nI pm - nI 1)
  refine q_top (congrArg nI (wi_ix h_m)) ?_
  have := okI_le pm v1
  refine q_if_eq (x := (okI pm v1)) (tgt := 23) hx hb dX2_printedLetter_11 (by decide) (by omega) (fun c11 => ?_) (fun c11 => ?_)
  · refine lv_ldc (v := -1000006) hx hb hown (hts _ (List.mem_of_getElem? (i := 3) rfl)) dX2_printedLetter_23 ?_
    exact q_iret (W1 := (wD h cA n tx T C K P L u ua ub pm jm lm du lt hh) ++ (wY h cA pr ja rs os)) hx hb hr hlocks hV dX2_printedLetter_25 ⟨(aIx_no (okI_0 c11)).symm, rfl⟩
  · obtain ⟨k1, hk1, rfl⟩ := okI_1 c11
    refine lv_aload_n hx hb dX2_printedLetter_14 rfl (lv_at hl 0 rfl) ?_
    refine q_get (C := RX2) (T := TX2) (N := 20) (ci := 2) (v := .ref (h 6)) hx hb hts hin2 hown hK hV 0 rfl rfl 14 (by decide) (List.mem_of_getElem? (i := 2) rfl) rfl dX2_printedLetter_15 ?_
    refine lv_iload_n hx hb dX2_printedLetter_18 rfl (lv_at hl 1 rfl) ?_
    refine q_iald (n := 60) (k := k1) (f := pr) hx hb hK hV 6 rfl (by omega) (by omega) dX2_printedLetter_19 ?_
    refine lv_goto (tgt := 25) hx hb dX2_printedLetter_20 (by decide) ?_
    exact q_iret (W1 := (wD h cA n tx T C K P L u ua ub pm jm lm du lt hh) ++ (wY h cA pr ja rs os)) hx hb hr hlocks hV dX2_printedLetter_25 ⟨(aIx_ok hk1 (by omega)).symm, rfl⟩
abbrev rm_X2_jammedKeystroke : Room := { frames := 1, cells := 0, slots := 0, locals := 22 }
set_option maxHeartbeats 4000000 in
set_option maxRecDepth 100000 in
theorem c_X2_jammedKeystroke (l : Launch) (D : va_G) (h : Nat → Nat) (cA : ClassId) (n : Nat) (tx : Nat → Nat) (T : Nat) (C : Nat) (K : Nat) (P : Nat → Nat) (L : Nat → Nat) (u : Nat) (ua : Nat → Nat) (ub : Nat → Nat) (pm : Nat) (jm : Nat) (lm : Nat) (du : Nat) (lt : Nat) (hh : Int64) (pr : Nat → Nat) (ja : Nat → Nat) (rs : Nat → Nat) (os : Nat → Nat) (v1 : Int32)  (h_m : jm ≤ 60) : CTi l D cA yX2_jammedKeystroke wsX2_jammedKeystroke rm_X2_jammedKeystroke [.ref (h 0), .int v1] ((wD h cA n tx T C K P L u ua ub pm jm lm du lt hh) ++ (wY h cA pr ja rs os)) (fun r W1 => r = aIx jm ja v1 ∧ W1 = (wD h cA n tx T C K P L u ua ub pm jm lm du lt hh) ++ (wY h cA pr ja rs os)) := by
  refine CTi.mk (cc := cX2_jammedKeystroke) (maxL := 2) (ret := some .int) (by decide) rfl (Nat.le_of_ble_eq_true rfl) ?_
  intro p e s m below meth c A ls E hV hl
  obtain ⟨hx, hb, hml, hr, hown, hts, hlocks, hK, hA, hN⟩ := E
  have hown : s.vm.findClass RX2 = some m.cls := hown
  have hin2 : ∀ w ∈ wsX20, w ∈ wsX2_jammedKeystroke := fun _ h => List.mem_cons_of_mem _ (List.mem_append_right _ h)
  have hl : lv_has ls 2 [(0, .ref (h 0)), (1, .int v1)] := hl
  refine lv_iload_n hx hb dX2_jammedKeystroke_0 rfl (lv_at hl 1 rfl) ?_
  refine lv_iconst (v := nI 0) hx hb dX2_jammedKeystroke_1 (by decide) ?_
  refine lv_aload_n hx hb dX2_jammedKeystroke_2 rfl (lv_at hl 0 rfl) ?_
  refine q_get (C := RX2) (T := TX2) (N := 20) (ci := 2) (v := .int (nI jm)) hx hb hts hin2 hown hK hV 0 rfl rfl 11 (by decide) (List.mem_of_getElem? (i := 1) rfl) rfl dX2_jammedKeystroke_3 ?_
  refine lv_iconst (v := nI 1) hx hb dX2_jammedKeystroke_6 (by decide) ?_
  refine lv_isub hx hb dX2_jammedKeystroke_7 ?_
  refine k_S_i (w0 := (wD h cA n tx T C K P L u ua ub pm jm lm du lt hh) ++ (wY h cA pr ja rs os)) (wc := ([] : va_W)) (As := [.int v1, .int (nI 0), .int (nI jm - nI 1)]) (rest := []) hx hb hml hown hts hK hA hN hV hl.1 (c_X2_within l D cA v1 (nI 0) (nI jm - nI 1)  ) gX2_jammedKeystroke_X2_within rfl rfl rfl hdX2_within ⟨Nat.le_of_ble_eq_true rfl, Nat.le_of_ble_eq_true rfl⟩ rfl rfl (Nat.le_of_ble_eq_true rfl) dX2_jammedKeystroke_8 ⟨Nat.zero_le _, Nat.zero_le _⟩ (fun r W1 H locs hp hV => ?_)
  obtain ⟨hp1, hp2⟩ := hp
  replace hp1 := hp1.symm
  subst hp1
  replace hp2 := hp2.symm
  subst hp2
  have hV : qV D A s.heap ((wD h cA n tx T C K P L u ua ub pm jm lm du lt hh) ++ (wY h cA pr ja rs os)) H locs := hV
  have f1 := wi_le v1 (nI 0) (nI jm - nI 1)
  refine q_top (congrArg nI (wi_ix h_m)) ?_
  have := okI_le jm v1
  refine q_if_eq (x := (okI jm v1)) (tgt := 23) hx hb dX2_jammedKeystroke_11 (by decide) (by omega) (fun c11 => ?_) (fun c11 => ?_)
  · refine lv_ldc (v := -1000006) hx hb hown (hts _ (List.mem_of_getElem? (i := 3) rfl)) dX2_jammedKeystroke_23 ?_
    exact q_iret (W1 := (wD h cA n tx T C K P L u ua ub pm jm lm du lt hh) ++ (wY h cA pr ja rs os)) hx hb hr hlocks hV dX2_jammedKeystroke_25 ⟨(aIx_no (okI_0 c11)).symm, rfl⟩
  · obtain ⟨k1, hk1, rfl⟩ := okI_1 c11
    refine lv_aload_n hx hb dX2_jammedKeystroke_14 rfl (lv_at hl 0 rfl) ?_
    refine q_get (C := RX2) (T := TX2) (N := 20) (ci := 2) (v := .ref (h 7)) hx hb hts hin2 hown hK hV 0 rfl rfl 15 (by decide) (List.mem_of_getElem? (i := 2) rfl) rfl dX2_jammedKeystroke_15 ?_
    refine lv_iload_n hx hb dX2_jammedKeystroke_18 rfl (lv_at hl 1 rfl) ?_
    refine q_iald (n := 60) (k := k1) (f := ja) hx hb hK hV 7 rfl (by omega) (by omega) dX2_jammedKeystroke_19 ?_
    refine lv_goto (tgt := 25) hx hb dX2_jammedKeystroke_20 (by decide) ?_
    exact q_iret (W1 := (wD h cA n tx T C K P L u ua ub pm jm lm du lt hh) ++ (wY h cA pr ja rs os)) hx hb hr hlocks hV dX2_jammedKeystroke_25 ⟨(aIx_ok hk1 (by omega)).symm, rfl⟩
abbrev rm_X2_isSafe : Room := { frames := 3, cells := 0, slots := 0, locals := 68 }
set_option maxHeartbeats 4000000 in
set_option maxRecDepth 100000 in
theorem c_X2_isSafe (l : Launch) (D : va_G) (h : Nat → Nat) (cA : ClassId) (n : Nat) (tx : Nat → Nat) (T : Nat) (C : Nat) (K : Nat) (P : Nat → Nat) (L : Nat → Nat) (u : Nat) (ua : Nat → Nat) (ub : Nat → Nat) (pm : Nat) (jm : Nat) (lm : Nat) (du : Nat) (lt : Nat) (hh : Int64) (pr : Nat → Nat) (ja : Nat → Nat) (rs : Nat → Nat) (os : Nat → Nat) (iv : Nat)  (hn : n ≤ 60) (htx : ∀ i, tx i < 12) (hC : C ≤ 5) (hp : perm L P) (hT : T ≤ 20) (hK5 : K ≤ 50) (hiv : iv ≤ 30) : CTi l D cA yX2_isSafe wsX2_isSafe rm_X2_isSafe [.ref (h 0), .int (nI iv)] ((wD h cA n tx T C K P L u ua ub pm jm lm du lt hh) ++ (wY h cA pr ja rs os)) (fun r W1 => r = nI (allz (oc tx P T C K iv) n) ∧ W1 = (wD h cA n tx T C K P L u ua ub pm jm lm du ((tyS tx P T C K iv (n - 1)).2) hh) ++ (wY h cA pr ja (rsP (tyS tx P T C K iv n).1 P) (osF (oc tx P T C K iv) os n))) := by
  refine CTi.mk (cc := cX2_isSafe) (maxL := 4) (ret := some .boolean) (by decide) rfl (Nat.le_of_ble_eq_true rfl) ?_
  intro p e s m below meth c A ls E hV hl
  obtain ⟨hx, hb, hml, hr, hown, hts, hlocks, hK, hA, hN⟩ := E
  have hown : s.vm.findClass RX2 = some m.cls := hown
  have hin2 : ∀ w ∈ wsX20, w ∈ wsX2_isSafe := fun _ h => List.mem_cons_of_mem _ (List.mem_append_right _ h)
  have hl : lv_has ls 4 [(0, .ref (h 0)), (1, .int (nI iv))] := hl
  refine lv_aload_n hx hb dX2_isSafe_0 rfl (lv_at hl 0 rfl) ?_
  refine lv_iload_n hx hb dX2_isSafe_1 rfl (lv_at hl 1 rfl) ?_
  refine k_V_v (w0 := ([] : va_W)) (wc := (wD h cA n tx T C K P L u ua ub pm jm lm du lt hh) ++ (wY h cA pr ja rs os)) (b := h 0) (As := [.int (nI iv)]) (rest := []) hx hb hml hown hts hK hA hN hV hl.1 (c_X2_type l D h cA n tx T C K P L u ua ub pm jm lm du lt hh pr ja rs os iv  (by first | omega | assumption) (by first | omega | assumption) (by first | omega | assumption) (by first | omega | assumption) (by first | omega | assumption) (by first | omega | assumption) (by first | omega | assumption)) gX2_isSafe_X2_type rfl rfl rfl hdX2_type ⟨Nat.le_of_ble_eq_true rfl, Nat.le_of_ble_eq_true rfl⟩ 0 2 rfl rfl rfl rfl rfl (Nat.le_of_ble_eq_true rfl) dX2_isSafe_2 ⟨Nat.zero_le _, Nat.zero_le _⟩ (fun W1 H locs hp hV => ?_)
  subst hp
  have hV : qV D A s.heap ((wD h cA n tx T C K P L u ua ub pm jm lm du ((tyS tx P T C K iv (n - 1)).2) hh) ++ (wY h cA pr ja (rsP (tyS tx P T C K iv n).1 P) (osF (oc tx P T C K iv) os n))) H locs := hV
  refine lv_iconst (v := nI 1) hx hb dX2_isSafe_5 (by decide) ?_
  refine lv_istore_n (lv' := [(2, .int (nI 1)), (0, .ref (h 0)), (1, .int (nI iv))]) hx hb dX2_isSafe_6 rfl hl (by decide) rfl (fun ls hl => ?_)
  refine lv_iconst (v := nI 0) hx hb dX2_isSafe_7 (by decide) ?_
  refine lv_istore_n (lv' := [(3, .int (nI 0)), (2, .int (nI 1)), (0, .ref (h 0)), (1, .int (nI iv))]) hx hb dX2_isSafe_8 rfl hl (by decide) rfl (fun ls hl => ?_)
  have lp9 : ∀ (d9 : Nat) (j : Nat) (H : Heap) (locs : List Loc) (ls : Array Slot), (61 ≤ j + d9) → (j ≤ n) → qV D A s.heap ((wD h cA n tx T C K P L u ua ub pm jm lm du ((tyS tx P T C K iv (n - 1)).2) hh) ++ (wY h cA pr ja (rsP (tyS tx P T C K iv n).1 P) (osF (oc tx P T C K iv) os n))) H locs → lv_has ls 4 [(0, .ref (h 0)), (1, .int (nI iv)), (2, .int (nI (allz (oc tx P T C K iv) j))), (3, .int (nI j))] → W p l e rm_X2_isSafe s m ([.ref (h 0), .int (nI iv)] : List Value).toArray below meth c H locs 0 0 (MQ below (va_Qi (fun r W1 => r = nI (allz (oc tx P T C K iv) n) ∧ W1 = (wD h cA n tx T C K P L u ua ub pm jm lm du ((tyS tx P T C K iv (n - 1)).2) hh) ++ (wY h cA pr ja (rsP (tyS tx P T C K iv n).1 P) (osF (oc tx P T C K iv) os n))) (cPost D A) A) ([.ref (h 0), .int (nI iv)] : List Value).toArray s 0 0 A) (F0 m 9 ls []) := by
    intro d9
    induction d9 with
    | zero => intro j H locs ls hm9 hj hV hl; exfalso; omega
    | succ d9 ih9 =>
      intro j H locs ls hm9 hj hV hl
      have g1 := allz_le (oc tx P T C K iv) j
      have g6 := oc_le tx P T C K iv j
      refine lv_iload_n hx hb dX2_isSafe_9 rfl (lv_at hl 3 rfl) ?_
      refine lv_aload_n hx hb dX2_isSafe_10 rfl (lv_at hl 0 rfl) ?_
      refine q_get (C := RX2) (T := TX2) (N := 20) (ci := 2) (v := .int (nI n)) hx hb hts hin2 hown hK hV 0 rfl rfl 0 (by decide) (List.mem_of_getElem? (i := 1) rfl) rfl dX2_isSafe_11 ?_
      refine q_icmp_ge (x := j) (y := n) (tgt := 42) hx hb dX2_isSafe_14 (by decide) (by omega) (by omega) (fun c14 => ?_) (fun c14 => ?_)
      · have ej : n = j := by omega
        subst ej
        refine lv_iload_n hx hb dX2_isSafe_42 rfl (lv_at hl 2 rfl) ?_
        exact q_zret (W1 := (wD h cA n tx T C K P L u ua ub pm jm lm du ((tyS tx P T C K iv (n - 1)).2) hh) ++ (wY h cA pr ja (rsP (tyS tx P T C K iv n).1 P) (osF (oc tx P T C K iv) os n))) hx hb hr hlocks hV dX2_isSafe_43 (by first | rfl | exact nb01 (by omega)) ⟨rfl, rfl⟩
      · refine lv_iload_n hx hb dX2_isSafe_17 rfl (lv_at hl 2 rfl) ?_
        refine q_if_eq (x := (allz (oc tx P T C K iv) j)) (tgt := 34) hx hb dX2_isSafe_18 (by decide) (by omega) (fun c18 => ?_) (fun c18 => ?_)
        · refine lv_iconst (v := nI 0) hx hb dX2_isSafe_34 (by decide) ?_
          refine lv_istore_n (lv' := [(2, .int (nI 0)), (0, .ref (h 0)), (1, .int (nI iv)), (3, .int (nI j))]) hx hb dX2_isSafe_35 rfl hl (by decide) rfl (fun ls hl => ?_)
          refine q_iinc (x := j) (z := j + 1) (lv' := [(3, .int (nI (j + 1))), (2, .int (nI 0)), (0, .ref (h 0)), (1, .int (nI iv))]) hx hb dX2_isSafe_36 hl (k := 3) rfl (dd := 1) rfl (by omega) (by decide) rfl (fun ls hl => ?_)
          refine lv_goto (tgt := 9) hx hb dX2_isSafe_39 (by decide) ?_
          have e1 := allz_0 (o := (oc tx P T C K iv)) (j := j) (by omega)
          exact ih9  (j + 1) _ _ _ (by omega) (by first | omega | assumption) hV (by rw [e1]; exact lv_sub hl [2, 3, 1, 0] rfl)
        · refine lv_aload_n hx hb dX2_isSafe_21 rfl (lv_at hl 0 rfl) ?_
          refine q_get (C := RX2) (T := TX2) (N := 20) (ci := 2) (v := .ref (h 9)) hx hb hts hin2 hown hK hV 0 rfl rfl 17 (by decide) (List.mem_of_getElem? (i := 2) rfl) rfl dX2_isSafe_22 ?_
          refine lv_iload_n hx hb dX2_isSafe_25 rfl (lv_at hl 3 rfl) ?_
          refine q_iald (n := 60) (k := j) (f := osF (oc tx P T C K iv) os n) hx hb hK hV 9 rfl (by omega) (by omega) dX2_isSafe_26 ?_
          have f1 := osF_at (oc tx P T C K iv) os n j (by omega)
          refine q_if_ne (x := ((osF (oc tx P T C K iv) os n) j)) (tgt := 34) hx hb dX2_isSafe_27 (by decide) (by omega) (fun c27 => ?_) (fun c27 => ?_)
          · refine lv_iconst (v := nI 0) hx hb dX2_isSafe_34 (by decide) ?_
            refine lv_istore_n (lv' := [(2, .int (nI 0)), (0, .ref (h 0)), (1, .int (nI iv)), (3, .int (nI j))]) hx hb dX2_isSafe_35 rfl hl (by decide) rfl (fun ls hl => ?_)
            refine q_iinc (x := j) (z := j + 1) (lv' := [(3, .int (nI (j + 1))), (2, .int (nI 0)), (0, .ref (h 0)), (1, .int (nI iv))]) hx hb dX2_isSafe_36 hl (k := 3) rfl (dd := 1) rfl (by omega) (by decide) rfl (fun ls hl => ?_)
            refine lv_goto (tgt := 9) hx hb dX2_isSafe_39 (by decide) ?_
            have e1 := allz_0 (o := (oc tx P T C K iv)) (j := j) (by omega)
            exact ih9  (j + 1) _ _ _ (by omega) (by first | omega | assumption) hV (by rw [e1]; exact lv_sub hl [2, 3, 1, 0] rfl)
          · refine lv_iconst (v := nI 1) hx hb dX2_isSafe_30 (by decide) ?_
            refine lv_goto (tgt := 35) hx hb dX2_isSafe_31 (by decide) ?_
            refine lv_istore_n (lv' := [(2, .int (nI 1)), (0, .ref (h 0)), (1, .int (nI iv)), (3, .int (nI j))]) hx hb dX2_isSafe_35 rfl hl (by decide) rfl (fun ls hl => ?_)
            refine q_iinc (x := j) (z := j + 1) (lv' := [(3, .int (nI (j + 1))), (2, .int (nI 1)), (0, .ref (h 0)), (1, .int (nI iv))]) hx hb dX2_isSafe_36 hl (k := 3) rfl (dd := 1) rfl (by omega) (by decide) rfl (fun ls hl => ?_)
            refine lv_goto (tgt := 9) hx hb dX2_isSafe_39 (by decide) ?_
            have e1 := allz_1 (o := (oc tx P T C K iv)) (j := j) ⟨by omega, by omega⟩
            exact ih9  (j + 1) _ _ _ (by omega) (by first | omega | assumption) hV (by rw [e1]; exact lv_sub hl [2, 3, 1, 0] rfl)
  exact lp9 61 0 _ _ _ (by omega) (by first | omega | assumption) hV (lv_sub hl [2, 3, 1, 0] rfl)
abbrev rm_X2_safeNow : Room := { frames := 4, cells := 0, slots := 0, locals := 91 }
set_option maxHeartbeats 4000000 in
set_option maxRecDepth 100000 in
theorem c_X2_safeNow (l : Launch) (D : va_G) (h : Nat → Nat) (cA : ClassId) (n : Nat) (tx : Nat → Nat) (T : Nat) (C : Nat) (K : Nat) (P : Nat → Nat) (L : Nat → Nat) (u : Nat) (ua : Nat → Nat) (ub : Nat → Nat) (pm : Nat) (jm : Nat) (lm : Nat) (du : Nat) (lt : Nat) (hh : Int64) (pr : Nat → Nat) (ja : Nat → Nat) (rs : Nat → Nat) (os : Nat → Nat)   (hn : n ≤ 60) (htx : ∀ i, tx i < 12) (hC : C ≤ 5) (hp : perm L P) (hT : T ≤ 20) (hK5 : K ≤ 50) : CTi l D cA yX2_safeNow wsX2_safeNow rm_X2_safeNow [.ref (h 0)] ((wD h cA n tx T C K P L u ua ub pm jm lm du lt hh) ++ (wY h cA pr ja rs os)) (fun r W1 => r = bV (sfi tx P T C K n) ∧ ∃ (rs1 os1 : Nat → Nat) (lt1 : Nat), W1 = (wD h cA n tx T C K P L u ua ub pm jm lm du lt1 hh) ++ (wY h cA pr ja rs1 os1)) := by
  refine CTi.mk (cc := cX2_safeNow) (maxL := 2) (ret := some .int) (by decide) rfl (Nat.le_of_ble_eq_true rfl) ?_
  intro p e s m below meth c A ls E hV hl
  obtain ⟨hx, hb, hml, hr, hown, hts, hlocks, hK, hA, hN⟩ := E
  have hown : s.vm.findClass RX2 = some m.cls := hown
  have hin2 : ∀ w ∈ wsX20, w ∈ wsX2_safeNow := fun _ h => List.mem_cons_of_mem _ (List.mem_append_right _ h)
  have hl : lv_has ls 2 [(0, .ref (h 0))] := hl
  refine lv_iconst (v := nI 1) hx hb dX2_safeNow_0 (by decide) ?_
  refine lv_istore_n (lv' := [(1, .int (nI 1)), (0, .ref (h 0))]) hx hb dX2_safeNow_1 rfl hl (by decide) rfl (fun ls hl => ?_)
  have lp2 : ∀ (d2 : Nat) (i : Nat) (rs1 : Nat → Nat) (os1 : Nat → Nat) (lt1 : Nat) (H : Heap) (locs : List Loc) (ls : Array Slot), (32 ≤ i + d2) → (1 ≤ i) → (i ≤ 31) → (sfF (bad tx P T C K n) (31 - i) i = sfi tx P T C K n) → qV D A s.heap ((wD h cA n tx T C K P L u ua ub pm jm lm du lt1 hh) ++ (wY h cA pr ja rs1 os1)) H locs → lv_has ls 2 [(0, .ref (h 0)), (1, .int (nI i))] → W p l e rm_X2_safeNow s m ([.ref (h 0)] : List Value).toArray below meth c H locs 0 0 (MQ below (va_Qi (fun r W1 => r = bV (sfi tx P T C K n) ∧ ∃ (rs1 os1 : Nat → Nat) (lt1 : Nat), W1 = (wD h cA n tx T C K P L u ua ub pm jm lm du lt1 hh) ++ (wY h cA pr ja rs1 os1)) (cPost D A) A) ([.ref (h 0)] : List Value).toArray s 0 0 A) (F0 m 2 ls []) := by
    intro d2
    induction d2 with
    | zero => intro i rs1 os1 lt1 H locs ls hm2 hi0 hi hI hV hl; exfalso; omega
    | succ d2 ih2 =>
      intro i rs1 os1 lt1 H locs ls hm2 hi0 hi hI hV hl
      refine lv_iload_n hx hb dX2_safeNow_2 rfl (lv_at hl 1 rfl) ?_
      refine lv_bipush (v := nI 30) hx hb dX2_safeNow_3 (by decide) ?_
      refine q_icmp_gt (x := i) (y := 30) (tgt := 24) hx hb dX2_safeNow_5 (by decide) (by omega) (by omega) (fun c5 => ?_) (fun c5 => ?_)
      · refine lv_ldc (v := -1000006) hx hb hown (hts _ (List.mem_of_getElem? (i := 1) rfl)) dX2_safeNow_24 ?_
        have ei : i = 31 := by omega
        have e1 : sfi tx P T C K n = 0 := by rw [← hI, ei]; rfl
        exact q_iret (W1 := (wD h cA n tx T C K P L u ua ub pm jm lm du lt1 hh) ++ (wY h cA pr ja rs1 os1)) hx hb hr hlocks hV dX2_safeNow_26 ⟨by rw [e1]; rfl, _, _, _, rfl⟩
      · refine lv_aload_n hx hb dX2_safeNow_8 rfl (lv_at hl 0 rfl) ?_
        refine lv_iload_n hx hb dX2_safeNow_9 rfl (lv_at hl 1 rfl) ?_
        refine k_V_i (w0 := ([] : va_W)) (wc := (wD h cA n tx T C K P L u ua ub pm jm lm du lt1 hh) ++ (wY h cA pr ja rs1 os1)) (b := h 0) (As := [.int (nI i)]) (rest := []) hx hb hml hown hts hK hA hN hV hl.1 (c_X2_isSafe l D h cA n tx T C K P L u ua ub pm jm lm du lt1 hh pr ja rs1 os1 i  (by first | omega | assumption) (by first | omega | assumption) (by first | omega | assumption) (by first | omega | assumption) (by first | omega | assumption) (by first | omega | assumption) (by first | omega | assumption)) gX2_safeNow_X2_isSafe rfl rfl rfl hdX2_isSafe ⟨Nat.le_of_ble_eq_true rfl, Nat.le_of_ble_eq_true rfl⟩ 0 2 rfl rfl rfl rfl rfl (Nat.le_of_ble_eq_true rfl) dX2_safeNow_10 ⟨Nat.zero_le _, Nat.zero_le _⟩ (fun r W1 H locs hp hV => ?_)
        obtain ⟨hp1, hp2⟩ := hp
        replace hp1 := hp1.symm
        subst hp1
        replace hp2 := hp2.symm
        subst hp2
        have hV : qV D A s.heap ((wD h cA n tx T C K P L u ua ub pm jm lm du ((tyS tx P T C K i (n - 1)).2) hh) ++ (wY h cA pr ja (rsP (tyS tx P T C K i n).1 P) (osF (oc tx P T C K i) os1 n))) H locs := hV
        have f1 := allz_le (oc tx P T C K i) n
        refine q_if_eq (x := (allz (oc tx P T C K i) n)) (tgt := 18) hx hb dX2_safeNow_13 (by decide) (by omega) (fun c13 => ?_) (fun c13 => ?_)
        · rw [allz_bad] at c13
          have c13 := ite0 c13
          refine q_iinc (x := i) (z := i + 1) (lv' := [(1, .int (nI (i + 1))), (0, .ref (h 0))]) hx hb dX2_safeNow_18 hl (k := 1) rfl (dd := 1) rfl (by omega) (by decide) rfl (fun ls hl => ?_)
          refine lv_goto (tgt := 2) hx hb dX2_safeNow_21 (by decide) ?_
          exact ih2  (i + 1) (rsP (tyS tx P T C K i n).1 P) (osF (oc tx P T C K i) os1 n) ((tyS tx P T C K i (n - 1)).2) _ _ _ (by omega) (by first | omega | assumption) (by first | omega | assumption) (by have q := hI; rw [sfF_s (by omega), if_neg c13] at q; exact q) hV (lv_sub hl [1, 0] rfl)
        · rw [allz_bad] at c13
          have c13 := ite1 c13
          refine lv_iload_n hx hb dX2_safeNow_16 rfl (lv_at hl 1 rfl) ?_
          have e1 : sfi tx P T C K n = i := by rw [← hI, sfF_s (by omega), if_pos c13]
          exact q_iret (W1 := (wD h cA n tx T C K P L u ua ub pm jm lm du ((tyS tx P T C K i (n - 1)).2) hh) ++ (wY h cA pr ja (rsP (tyS tx P T C K i n).1 P) (osF (oc tx P T C K i) os1 n))) hx hb hr hlocks hV dX2_safeNow_17 ⟨by rw [e1, bV_nI (by omega)], _, _, _, rfl⟩
  exact lp2 31 1 rs os lt _ _ _ (by omega) (by first | omega | assumption) (by first | omega | assumption) rfl hV (lv_sub hl [1, 0] rfl)
abbrev rm_X2_safeInterval : Room := { frames := 5, cells := 0, slots := 0, locals := 112 }
set_option maxHeartbeats 4000000 in
set_option maxRecDepth 100000 in
theorem c_X2_safeInterval (l : Launch) (D : va_G) (h : Nat → Nat) (cA : ClassId) (n : Nat) (tx : Nat → Nat) (T : Nat) (C : Nat) (K : Nat) (P : Nat → Nat) (L : Nat → Nat) (u : Nat) (ua : Nat → Nat) (ub : Nat → Nat) (pm : Nat) (jm : Nat) (lm : Nat) (du : Nat) (lt : Nat) (hh : Int64) (pr : Nat → Nat) (ja : Nat → Nat) (rs : Nat → Nat) (os : Nat → Nat)   (hn : n ≤ 60) (htx : ∀ i, tx i < 12) (hC : C ≤ 5) (hp : perm L P) (hT : T ≤ 20) (hK5 : K ≤ 50) : CTi l D cA yX2_safeInterval wsX2_safeInterval rm_X2_safeInterval [.ref (h 0)] ((wD h cA n tx T C K P L u ua ub pm jm lm du lt hh) ++ (wY h cA pr ja rs os)) (fun r W1 => r = bV (sfi tx P T C K n) ∧ ∃ (rs1 os1 : Nat → Nat) (lt1 : Nat), W1 = (wD h cA n tx T C K P L u ua ub pm jm lm du lt1 hh) ++ (wY h cA pr ja rs1 os1)) := by
  refine CTi.mk (cc := cX2_safeInterval) (maxL := 1) (ret := some .int) (by decide) rfl (Nat.le_of_ble_eq_true rfl) ?_
  intro p e s m below meth c A ls E hV hl
  obtain ⟨hx, hb, hml, hr, hown, hts, hlocks, hK, hA, hN⟩ := E
  have hown : s.vm.findClass RX2 = some m.cls := hown
  have hin2 : ∀ w ∈ wsX20, w ∈ wsX2_safeInterval := fun _ h => List.mem_cons_of_mem _ (List.mem_append_right _ h)
  have hl : lv_has ls 1 [(0, .ref (h 0))] := hl
  refine lv_aload_n hx hb dX2_safeInterval_0 rfl (lv_at hl 0 rfl) ?_
  refine k_V_i (w0 := ([] : va_W)) (wc := (wD h cA n tx T C K P L u ua ub pm jm lm du lt hh) ++ (wY h cA pr ja rs os)) (b := h 0) (As := []) (rest := []) hx hb hml hown hts hK hA hN hV hl.1 (c_X2_safeNow l D h cA n tx T C K P L u ua ub pm jm lm du lt hh pr ja rs os   (by first | omega | assumption) (by first | omega | assumption) (by first | omega | assumption) (by first | omega | assumption) (by first | omega | assumption) (by first | omega | assumption)) gX2_safeInterval_X2_safeNow rfl rfl rfl hdX2_safeNow ⟨Nat.le_of_ble_eq_true rfl, Nat.le_of_ble_eq_true rfl⟩ 0 2 rfl rfl rfl rfl rfl (Nat.le_of_ble_eq_true rfl) dX2_safeInterval_1 ⟨Nat.zero_le _, Nat.zero_le _⟩ (fun r W1 H locs hp hV => ?_)
  obtain ⟨hp1, rs3, os3, lt3, hp2⟩ := hp
  replace hp1 := hp1.symm
  subst hp1
  replace hp2 := hp2.symm
  subst hp2
  have hV : qV D A s.heap ((wD h cA n tx T C K P L u ua ub pm jm lm du lt3 hh) ++ (wY h cA pr ja rs3 os3)) H locs := hV
  exact q_iret (W1 := (wD h cA n tx T C K P L u ua ub pm jm lm du lt3 hh) ++ (wY h cA pr ja rs3 os3)) hx hb hr hlocks hV dX2_safeInterval_4 ⟨rfl, _, _, _, rfl⟩
abbrev rm_X2_mix : Room := { frames := 0, cells := 0, slots := 0, locals := 0 }
set_option maxHeartbeats 4000000 in
set_option maxRecDepth 100000 in
theorem c_X2_mix (l : Launch) (D : va_G) (h : Nat → Nat) (cA : ClassId) (n : Nat) (tx : Nat → Nat) (T : Nat) (C : Nat) (K : Nat) (P : Nat → Nat) (L : Nat → Nat) (u : Nat) (ua : Nat → Nat) (ub : Nat → Nat) (pm : Nat) (jm : Nat) (lm : Nat) (du : Nat) (lt : Nat) (hh : Int64) (x1 : Int64)   : CTv l D cA yX2_mix wsX2_mix rm_X2_mix [.ref (h 0), .long x1] (wD h cA n tx T C K P L u ua ub pm jm lm du lt hh) (fun W1 => W1 = wD h cA n tx T C K P L u ua ub pm jm lm du lt (mx hh x1)) := by
  refine CTv.mk (cc := cX2_mix) (maxL := 3) (ret := none) (by decide) rfl (Nat.le_of_ble_eq_true rfl) ?_
  intro p e s m below meth c A ls E hV hl
  obtain ⟨hx, hb, hml, hr, hown, hts, hlocks, hK, hA, hN⟩ := E
  have hown : s.vm.findClass RX2 = some m.cls := hown
  have hin2 : ∀ w ∈ wsX20, w ∈ wsX2_mix := fun _ h => List.mem_cons_of_mem _ (List.mem_append_right _ h)
  have hl : lv_has ls 3 [(0, .ref (h 0)), (1, .long x1)] := hl
  refine lv_aload_n hx hb dX2_mix_0 rfl (lv_at hl 0 rfl) ?_
  refine lv_ldc2 (v := 31) hx hb hown (hts _ (List.mem_of_getElem? (i := 1) rfl)) dX2_mix_1 ?_
  refine lv_aload_n hx hb dX2_mix_4 rfl (lv_at hl 0 rfl) ?_
  refine q_get (C := RX2) (T := TX2) (N := 20) (ci := 2) (v := .long hh) hx hb hts hin2 hown hK hV 0 rfl rfl 19 (by decide) (List.mem_of_getElem? (i := 2) rfl) rfl dX2_mix_5 ?_
  refine lv_lmul hx hb dX2_mix_8 ?_
  refine lv_lload_n hx hb dX2_mix_9 rfl (lv_at hl 1 rfl) ?_
  refine lv_ladd hx hb dX2_mix_10 ?_
  refine q_put (C := RX2) (T := TX2) (N := 20) (ci := 2) (v := .long ((31 * hh) + x1)) (wD h cA n tx T C K P L u ua ub pm jm lm du lt ((31 * hh) + x1)) hx hb hts hin2 tyX2 tyX2_ok nmX2 hown hK hV 0 rfl rfl 19 (by decide) (List.mem_of_getElem? (i := 2) rfl) rfl rfl rfl (Nat.le_of_ble_eq_true rfl) rfl dX2_mix_11 (fun H locs hV => ?_)
  exact q_vret (W1 := wD h cA n tx T C K P L u ua ub pm jm lm du lt ((31 * hh) + x1)) hx hb hr hlocks hV dX2_mix_14 rfl
