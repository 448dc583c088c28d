abbrev rm_X1_improve : Room := { frames := 5, cells := 0, slots := 0, locals := 114 }
set_option maxHeartbeats 4000000 in
set_option maxRecDepth 100000 in
theorem c_X1_improve (l : Launch) (D : va_G) (h : Nat → Nat) (ga : Nat) (gb : Nat) (cA : ClassId) (n : Nat) (tx : Nat → Nat) (T : Nat) (C : Nat) (K : Nat) (L : Nat → Nat) (P : Nat → Nat) (u : Nat) (ua : Nat → Nat) (ub : Nat → Nat) (v1 : Int32)  (hn : n ≤ 60) (htx : ∀ i, tx i < 12) (hC : C ≤ 5) (hp : perm L P) (hu : u ≤ 30) : CTi l D cA yX1_improve wsX1_improve rm_X1_improve [.ref (h 0), .int v1] (wC h ga gb cA n tx T C K L P u ua ub) (fun r W1 => r = aIm C tx n v1 (L, P, u, ua, ub) ∧ W1 = wC h ga gb cA n tx T C K ((yIm C tx n v1 (L, P, u, ua, ub)).1) ((yIm C tx n v1 (L, P, u, ua, ub)).2.1) ((yIm C tx n v1 (L, P, u, ua, ub)).2.2.1) ((yIm C tx n v1 (L, P, u, ua, ub)).2.2.2.1) ((yIm C tx n v1 (L, P, u, ua, ub)).2.2.2.2)) := by
  refine CTi.mk (cc := cX1_improve) (maxL := 4) (ret := some .int) (by decide) rfl (Nat.le_of_ble_eq_true rfl) ?_
  intro p e s m below meth c A ls E hV hl
  obtain ⟨hx, hb, hml, hr, hown, hts, hlocks, hK, hA, hN⟩ := E
  have hown : s.vm.findClass RX1 = some m.cls := hown
  have hin1 : ∀ w ∈ wsX10, w ∈ wsX1_improve := fun _ h => List.mem_cons_of_mem _ (List.mem_append_right _ h)
  have hl : lv_has ls 4 [(0, .ref (h 0)), (1, .int v1)] := hl
  refine lv_iload_n hx hb dX1_improve_0 rfl (lv_at hl 1 rfl) ?_
  refine z_if_lt (tgt := 10) hx hb dX1_improve_1 (by decide) (fun c1 => ?_) (fun c1 => ?_)
  · refine lv_ldc (v := -1000003) hx hb hown (hts _ (List.mem_of_getElem? (i := 1) rfl)) dX1_improve_10 ?_
    have e1 : okR 0 100 v1 = 0 := okR_no (by omega)
    exact q_iret (W1 := wC h ga gb cA n tx T C K L P u ua ub) hx hb hr hlocks hV dX1_improve_12 ⟨(aIm_no e1).symm, by rw [yIm_no e1]⟩
  · refine lv_iload_n hx hb dX1_improve_4 rfl (lv_at hl 1 rfl) ?_
    refine lv_bipush (v := nI 100) hx hb dX1_improve_5 (by decide) ?_
    refine z_icmp_le (tgt := 13) hx hb dX1_improve_7 (by decide) (fun c7 => ?_) (fun c7 => ?_)
    · rw [nI_toInt (n := 100) (by omega)] at c7
      obtain ⟨k1, -, hk1, rfl⟩ := okR_g (lo := 0) (hi := 100) (by decide) (by omega) (by omega)
      refine lv_iconst (v := nI 0) hx hb dX1_improve_13 (by decide) ?_
      refine lv_istore_n (lv' := [(2, .int (nI 0)), (0, .ref (h 0)), (1, .int (nI k1))]) hx hb dX1_improve_14 rfl hl (by decide) rfl (fun ls hl => ?_)
      have lp15 : ∀ (d15 : Nat) (i : Nat) (L1 : Nat → Nat) (P1 : Nat → Nat) (u1 : Nat) (ua1 : Nat → Nat) (ub1 : Nat → Nat) (H : Heap) (locs : List Loc) (ls : Array Slot), (k1 + 1 ≤ i + d15) → (i ≤ k1) → (perm L1 P1) → (u1 ≤ 30) → (impr C tx n k1 (L, P, u, ua, ub) = (i + (impr C tx n (k1 - i) (L1, P1, u1, ua1, ub1)).1, (impr C tx n (k1 - i) (L1, P1, u1, ua1, ub1)).2)) → qV D A s.heap (wC h ga gb cA n tx T C K L1 P1 u1 ua1 ub1) H locs → lv_has ls 4 [(0, .ref (h 0)), (1, .int (nI k1)), (2, .int (nI i))] → W p l e rm_X1_improve s m ([.ref (h 0), .int (nI k1)] : List Value).toArray below meth c H locs 0 0 (MQ below (va_Qi (fun r W1 => r = aIm C tx n (nI k1) (L, P, u, ua, ub) ∧ W1 = wC h ga gb cA n tx T C K ((yIm C tx n (nI k1) (L, P, u, ua, ub)).1) ((yIm C tx n (nI k1) (L, P, u, ua, ub)).2.1) ((yIm C tx n (nI k1) (L, P, u, ua, ub)).2.2.1) ((yIm C tx n (nI k1) (L, P, u, ua, ub)).2.2.2.1) ((yIm C tx n (nI k1) (L, P, u, ua, ub)).2.2.2.2)) (cPost D A) A) ([.ref (h 0), .int (nI k1)] : List Value).toArray s 0 0 A) (F0 m 15 ls []) := by
        intro d15
        induction d15 with
        | zero => intro i L1 P1 u1 ua1 ub1 H locs ls hm15 hi hq hu1 hI hV hl; exfalso; omega
        | succ d15 ih15 =>
          intro i L1 P1 u1 ua1 ub1 H locs ls hm15 hi hq hu1 hI hV hl
          refine lv_iload_n hx hb dX1_improve_15 rfl (lv_at hl 2 rfl) ?_
          refine lv_iload_n hx hb dX1_improve_16 rfl (lv_at hl 1 rfl) ?_
          refine q_icmp_ge (x := i) (y := k1) (tgt := 51) hx hb dX1_improve_17 (by decide) (by omega) (by omega) (fun c17 => ?_) (fun c17 => ?_)
          · refine lv_iload_n hx hb dX1_improve_51 rfl (lv_at hl 1 rfl) ?_
            have ei : k1 - i = 0 := by omega
            have ek : i = k1 := by omega
            rw [ei] at hI
            exact q_iret (W1 := wC h ga gb cA n tx T C K L1 P1 u1 ua1 ub1) hx hb hr hlocks hV dX1_improve_52 ⟨by rw [aIm_ok hk1, hI, ← ek]; rfl, by rw [yIm_ok hk1, hI]; rfl⟩
          · refine lv_aload_n hx hb dX1_improve_20 rfl (lv_at hl 0 rfl) ?_
            refine k_V_i (w0 := ([] : va_W)) (wc := wC h ga gb cA n tx T C K L1 P1 u1 ua1 ub1) (b := h 0) (As := []) (rest := []) hx hb hml hown hts hK hA hN hV hl.1 (c_X1_bestSwap l D h ga gb cA n tx T C K L1 P1 u1 ua1 ub1   (by first | omega | assumption) (by first | omega | assumption) (by first | omega | assumption) (by first | omega | assumption)) gX1_improve_X1_bestSwap rfl rfl rfl hdX1_bestSwap ⟨Nat.le_of_ble_eq_true rfl, Nat.le_of_ble_eq_true rfl⟩ 0 1 rfl rfl rfl rfl rfl (Nat.le_of_ble_eq_true rfl) dX1_improve_21 ⟨Nat.zero_le _, Nat.zero_le _⟩ (fun r W1 H locs hp hV => ?_)
            obtain ⟨hp1, hp2⟩ := hp
            replace hp1 := hp1.symm
            subst hp1
            replace hp2 := hp2.symm
            subst hp2
            have hV : qV D A s.heap (wC h ga gb cA n tx T C K L1 P1 u1 ua1 ub1) H locs := hV
            refine lv_istore_n (lv' := [(3, .int (bV (bst C L1 P1 tx n))), (0, .ref (h 0)), (1, .int (nI k1)), (2, .int (nI i))]) hx hb dX1_improve_24 rfl hl (by decide) rfl (fun ls hl => ?_)
            refine lv_iload_n hx hb dX1_improve_25 rfl (lv_at hl 0 rfl) ?_
            refine lv_ldc (v := -1000006) hx hb hown (hts _ (List.mem_of_getElem? (i := 2) rfl)) dX1_improve_26 ?_
            refine z_icmp_ne (tgt := 33) hx hb dX1_improve_28 (by decide) (fun c28 => ?_) (fun c28 => ?_)
            · obtain ⟨hb0, hbv⟩ := bV_ne c28
              rw [hbv] at hl
              have hb0 : lbs C tx n (L1, P1, u1, ua1, ub1) ≠ 0 := hb0
              have hok := bst_ok C L1 P1 tx n
              have hlt := hok.lt
              obtain ⟨hd1, hd2, hd3⟩ := hok.dm hb0
              refine lv_aload_n hx hb dX1_improve_33 rfl (lv_at hl 1 rfl) ?_
              refine lv_iload_n hx hb dX1_improve_34 rfl (lv_at hl 0 rfl) ?_
              refine lv_bipush (v := nI 100) hx hb dX1_improve_35 (by decide) ?_
              refine q_idiv (x := (bst C L1 P1 tx n)) (y := 100) hx hb (by omega) (by omega) (by omega) dX1_improve_37 ?_
              refine lv_iload_n hx hb dX1_improve_38 rfl (lv_at hl 0 rfl) ?_
              refine lv_bipush (v := nI 100) hx hb dX1_improve_39 (by decide) ?_
              refine q_irem (x := (bst C L1 P1 tx n)) (y := 100) hx hb (by omega) (by omega) (by omega) dX1_improve_41 ?_
              refine k_V_v (w0 := ([] : va_W)) (wc := wC h ga gb cA n tx T C K L1 P1 u1 ua1 ub1) (b := h 0) (As := [.int (nI ((bst C L1 P1 tx n) / 100)), .int (nI ((bst C L1 P1 tx n) % 100))]) (rest := []) hx hb hml hown hts hK hA hN hV hl.1 (c_X1_makeSwap l D h ga gb cA n tx T C K L1 P1 u1 ua1 ub1 ((bst C L1 P1 tx n) / 100) ((bst C L1 P1 tx n) % 100)  hd1 hd2 (by first | omega | assumption) (by first | omega | assumption)) gX1_improve_X1_makeSwap rfl rfl rfl hdX1_makeSwap ⟨Nat.le_of_ble_eq_true rfl, Nat.le_of_ble_eq_true rfl⟩ 0 1 rfl rfl rfl rfl rfl (Nat.le_of_ble_eq_true rfl) dX1_improve_42 ⟨Nat.zero_le _, Nat.zero_le _⟩ (fun W1 H locs hp hV => ?_)
              subst hp
              have hV : qV D A s.heap (wC h ga gb cA n tx T C K (exL L1 ((bst C L1 P1 tx n) / 100) ((bst C L1 P1 tx n) % 100)) (exP L1 P1 ((bst C L1 P1 tx n) / 100) ((bst C L1 P1 tx n) % 100)) (pshU u1) (pshA ua1 u1 ((bst C L1 P1 tx n) / 100)) (pshA ub1 u1 ((bst C L1 P1 tx n) % 100))) H locs := hV
              refine q_iinc (x := i) (z := i + 1) (lv' := [(2, .int (nI (i + 1))), (3, .int (nI (bst C L1 P1 tx n))), (0, .ref (h 0)), (1, .int (nI k1))]) hx hb dX1_improve_45 hl (k := 3) rfl (dd := 1) rfl (by omega) (by decide) rfl (fun ls hl => ?_)
              refine lv_goto (tgt := 15) hx hb dX1_improve_48 (by decide) ?_
              exact ih15  (i + 1) (exL L1 (bst C L1 P1 tx n / 100) (bst C L1 P1 tx n % 100)) (exP L1 P1 (bst C L1 P1 tx n / 100) (bst C L1 P1 tx n % 100)) (pshU u1) (pshA ua1 u1 (bst C L1 P1 tx n / 100)) (pshA ub1 u1 (bst C L1 P1 tx n % 100)) _ _ _ (by omega) (by first | omega | assumption) (hq.ex hd1 hd2) (pshU_le _ hu1) (by rw [hI, impr_s1 (by omega) hb0, show k1 - (i + 1) = k1 - i - 1 by omega]; exact Prod.ext (by show i + (_ + 1) = _ ; simp only [Nat.add_comm, Nat.add_left_comm, Nat.add_assoc]; rfl) rfl) hV (lv_sub hl [2, 3, 0] rfl)
            · refine lv_iload_n hx hb dX1_improve_31 rfl (lv_at hl 3 rfl) ?_
              have hb0 : lbs C tx n (L1, P1, u1, ua1, ub1) = 0 := bV_eq (bst_ok _ _ _ _ _) c28
              rw [impr_s0 (by omega) hb0] at hI
              exact q_iret (W1 := wC h ga gb cA n tx T C K L1 P1 u1 ua1 ub1) hx hb hr hlocks hV dX1_improve_32 ⟨by rw [aIm_ok hk1, hI]; rfl, by rw [yIm_ok hk1, hI]⟩
      exact lp15 (k1 + 1) 0 L P u ua ub _ _ _ (by omega) (by first | omega | assumption) (by first | omega | assumption) (by first | omega | assumption) (by simp) hV (lv_sub hl [1, 2, 0] rfl)
    · rw [nI_toInt (n := 100) (by omega)] at c7
      refine lv_ldc (v := -1000003) hx hb hown (hts _ (List.mem_of_getElem? (i := 1) rfl)) dX1_improve_10 ?_
      have e1 : okR 0 100 v1 = 0 := okR_no (by omega)
      exact q_iret (W1 := wC h ga gb cA n tx T C K L P u ua ub) hx hb hr hlocks hV dX1_improve_12 ⟨(aIm_no e1).symm, by rw [yIm_no e1]⟩
