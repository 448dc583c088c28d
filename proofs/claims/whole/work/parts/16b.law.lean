set_option maxHeartbeats 4000000 in
set_option maxRecDepth 100000 in
theorem lc_13 {p : Program} {e : Env} {s : State} {m : MethodId} {below : List Frame} {meth : Method} {c : Code} (l : Launch) {b Ln : Nat} {xs : Nat → Int32} (hL : Ln ≤ 1536) (C0 : lw_At p s m meth c b Ln xs) (D : va_G) (cA : ClassId) (A : Nat → Prop) (hA : ∀ q, s.heap.size ≤ q → A q) (hbA : ¬ A b) (hK : va_K D vwCl [(cA, .int)] s) (hN : nW s) (h g k f : Nat → Nat) (i : Nat) (hi : i + 3 ≤ Ln) (ih : LK p l e s m below meth c b D cA A h g k f i) (n : Nat) (tx : Nat → Nat) (T : Nat) (C : Nat) (K : Nat) (L : Nat → Nat) (P : Nat → Nat) (u : Nat) (ua : Nat → Nat) (ub : Nat → Nat) (pm : Nat) (jm : Nat) (lm : Nat) (du : Nat) (pr : Nat → Nat) (ja : Nat → Nat) (rt : Nat → Nat) (pm2 : Nat) (jm2 : Nat) (lm2 : Nat) (du2 : Nat) (pr2 : Nat → Nat) (ja2 : Nat → Nat) (rt2 : Nat → Nat) (lt : Nat) (hh : Int64) (rs : Nat → Nat) (os : Nat → Nat) (hI : sInv n tx T C K (L, P, u, ua, ub) (pm, jm, lm, du, pr, ja)) (H : Heap) (locs : List Loc) (ls : Array Slot) (hV : qV D A s.heap ((wC h (g 0) (k 0) cA n tx T C K L P u ua ub) ++ (wT g cA pm jm lm du pr ja rt) ++ (wT k cA pm2 jm2 lm2 du2 pr2 ja2 rt2) ++ (wD f cA n tx T C K P L u ua ub pm jm lm du lt hh) ++ (wY f cA pr ja rs os)) H locs) (hl : lv_has ls 4 [(0, .ref b), (1, .ref (h 0)), (2, .ref (f 0)), (3, .int (nI i))]) : W p l e room_1 s m #[Value.ref b] below meth c H locs 24 792 (lw_Z below #[Value.ref b] s) (F0 m 421 ls []) := by
  obtain ⟨hx, hb, hr, hml, hown, hts, hX, hbl, hlocks, hgv⟩ := id C0
  have hts : ∀ w ∈ wsL_law, w.before #[Value.ref b] s = true := fun w h => hts w (wsL_law_in w h)
  have hown : s.vm.findClass RL = some m.cls := hown
  obtain ⟨hn, htx, hT, hC, hK5, ⟨hp, hu, hua, hub⟩, h_pm, h_jm⟩ := id hI
  refine lv_aload_n hx hb dL_law_421 rfl (lv_at hl 1 rfl) ?_
  have hV : qV D A s.heap ((wT g cA pm jm lm du pr ja rt) ++ (wT k cA pm2 jm2 lm2 du2 pr2 ja2 rt2) ++ (wD f cA n tx T C K P L u ua ub pm jm lm du lt hh) ++ (wY f cA pr ja rs os) ++ (wC h (g 0) (k 0) cA n tx T C K L P u ua ub)) H locs := hV.sub [6, 7, 8, 9, 10, 11, 12, 13, 14, 15, 16, 17, 18, 19, 20, 21, 22, 23, 0, 1, 2, 3, 4, 5] rfl rfl
  refine k_V_i (w0 := (wT g cA pm jm lm du pr ja rt) ++ (wT k cA pm2 jm2 lm2 du2 pr2 ja2 rt2) ++ (wD f cA n tx T C K P L u ua ub pm jm lm du lt hh) ++ (wY f cA pr ja rs os)) (wc := wC h (g 0) (k 0) cA n tx T C K L P u ua ub) (b := h 0) (As := []) (rest := []) hx hb hml hown hts hK hA hN hV hl.1 (c_X1_cost l D h (g 0) (k 0) cA n tx T C K L P u ua ub  (by first | omega | assumption) (by first | omega | assumption) (by first | omega | assumption) (by first | omega | assumption)) gL_law_X1_cost rfl rfl rfl hdX1_cost ⟨Nat.le_of_ble_eq_true rfl, Nat.le_of_ble_eq_true rfl⟩ 18 1 rfl rfl rfl rfl rfl (Nat.le_of_ble_eq_true rfl) dL_law_422 ⟨Nat.le_of_ble_eq_true rfl, Nat.le_of_ble_eq_true rfl⟩ (fun r W1 H locs hp hV => ?_)
  obtain ⟨hp1, hp2⟩ := hp
  replace hp1 := hp1.symm
  subst hp1
  replace hp2 := hp2.symm
  subst hp2
  have hV : qV D A s.heap ((wT g cA pm jm lm du pr ja rt) ++ (wT k cA pm2 jm2 lm2 du2 pr2 ja2 rt2) ++ (wD f cA n tx T C K P L u ua ub pm jm lm du lt hh) ++ (wY f cA pr ja rs os) ++ (wC h (g 0) (k 0) cA n tx T C K L P u ua ub)) H locs := hV
  have hV : qV D A s.heap ((wC h (g 0) (k 0) cA n tx T C K L P u ua ub) ++ (wT g cA pm jm lm du pr ja rt) ++ (wT k cA pm2 jm2 lm2 du2 pr2 ja2 rt2) ++ (wD f cA n tx T C K P L u ua ub pm jm lm du lt hh) ++ (wY f cA pr ja rs os)) H locs := hV.sub [18, 19, 20, 21, 22, 23, 0, 1, 2, 3, 4, 5, 6, 7, 8, 9, 10, 11, 12, 13, 14, 15, 16, 17] rfl rfl
  refine lv_aload_n hx hb dL_law_425 rfl (lv_at hl 2 rfl) ?_
  have hV : qV D A s.heap ((wC h (g 0) (k 0) cA n tx T C K L P u ua ub) ++ (wT g cA pm jm lm du pr ja rt) ++ (wT k cA pm2 jm2 lm2 du2 pr2 ja2 rt2) ++ (wY f cA pr ja rs os) ++ (wD f cA n tx T C K P L u ua ub pm jm lm du lt hh)) H locs := hV.sub [0, 1, 2, 3, 4, 5, 6, 7, 8, 9, 10, 11, 12, 13, 20, 21, 22, 23, 14, 15, 16, 17, 18, 19] rfl rfl
  refine k_V_i (w0 := (wC h (g 0) (k 0) cA n tx T C K L P u ua ub) ++ (wT g cA pm jm lm du pr ja rt) ++ (wT k cA pm2 jm2 lm2 du2 pr2 ja2 rt2) ++ (wY f cA pr ja rs os)) (wc := wD f cA n tx T C K P L u ua ub pm jm lm du lt hh) (b := f 0) (As := []) (rest := [.int (nI (cst C P tx (n - 1)))]) hx hb hml hown hts hK hA hN hV hl.1 (c_X2_cost l D f cA n tx T C K P L u ua ub pm jm lm du lt hh  (by first | omega | assumption) (by first | omega | assumption) (by first | omega | assumption) (by first | omega | assumption)) gL_law_X2_cost rfl rfl rfl hdX2_cost ⟨Nat.le_of_ble_eq_true rfl, Nat.le_of_ble_eq_true rfl⟩ 18 2 rfl rfl rfl rfl rfl (Nat.le_of_ble_eq_true rfl) dL_law_426 ⟨Nat.le_of_ble_eq_true rfl, Nat.le_of_ble_eq_true rfl⟩ (fun r W1 H locs hp hV => ?_)
  obtain ⟨hp1, hp2⟩ := hp
  replace hp1 := hp1.symm
  subst hp1
  replace hp2 := hp2.symm
  subst hp2
  have hV : qV D A s.heap ((wC h (g 0) (k 0) cA n tx T C K L P u ua ub) ++ (wT g cA pm jm lm du pr ja rt) ++ (wT k cA pm2 jm2 lm2 du2 pr2 ja2 rt2) ++ (wY f cA pr ja rs os) ++ (wD f cA n tx T C K P L u ua ub pm jm lm du lt hh)) H locs := hV
  have hV : qV D A s.heap ((wC h (g 0) (k 0) cA n tx T C K L P u ua ub) ++ (wT g cA pm jm lm du pr ja rt) ++ (wT k cA pm2 jm2 lm2 du2 pr2 ja2 rt2) ++ (wD f cA n tx T C K P L u ua ub pm jm lm du lt hh) ++ (wY f cA pr ja rs os)) H locs := hV.sub [0, 1, 2, 3, 4, 5, 6, 7, 8, 9, 10, 11, 12, 13, 18, 19, 20, 21, 22, 23, 14, 15, 16, 17] rfl rfl
  refine z_icmp_eq (tgt := 651) hx hb dL_law_429 (by decide) (fun _ => ?_) (fun c1 => absurd rfl c1)
  exact ih _ _ _ _ _ _ _ _ _ _ _ _ _ _ _ _ _ _ _ _ _ _ _ _ _ _ _ _ (hI) _ _ _ hV hl
set_option maxHeartbeats 4000000 in
set_option maxRecDepth 100000 in
theorem lc_14 {p : Program} {e : Env} {s : State} {m : MethodId} {below : List Frame} {meth : Method} {c : Code} (l : Launch) {b Ln : Nat} {xs : Nat → Int32} (hL : Ln ≤ 1536) (C0 : lw_At p s m meth c b Ln xs) (D : va_G) (cA : ClassId) (A : Nat → Prop) (hA : ∀ q, s.heap.size ≤ q → A q) (hbA : ¬ A b) (hK : va_K D vwCl [(cA, .int)] s) (hN : nW s) (h g k f : Nat → Nat) (i : Nat) (hi : i + 3 ≤ Ln) (ih : LK p l e s m below meth c b D cA A h g k f i) (n : Nat) (tx : Nat → Nat) (T : Nat) (C : Nat) (K : Nat) (L : Nat → Nat) (P : Nat → Nat) (u : Nat) (ua : Nat → Nat) (ub : Nat → Nat) (pm : Nat) (jm : Nat) (lm : Nat) (du : Nat) (pr : Nat → Nat) (ja : Nat → Nat) (rt : Nat → Nat) (pm2 : Nat) (jm2 : Nat) (lm2 : Nat) (du2 : Nat) (pr2 : Nat → Nat) (ja2 : Nat → Nat) (rt2 : Nat → Nat) (lt : Nat) (hh : Int64) (rs : Nat → Nat) (os : Nat → Nat) (hI : sInv n tx T C K (L, P, u, ua, ub) (pm, jm, lm, du, pr, ja)) (H : Heap) (locs : List Loc) (ls : Array Slot) (hV : qV D A s.heap ((wC h (g 0) (k 0) cA n tx T C K L P u ua ub) ++ (wT g cA pm jm lm du pr ja rt) ++ (wT k cA pm2 jm2 lm2 du2 pr2 ja2 rt2) ++ (wD f cA n tx T C K P L u ua ub pm jm lm du lt hh) ++ (wY f cA pr ja rs os)) H locs) (hl : lv_has ls 4 [(0, .ref b), (1, .ref (h 0)), (2, .ref (f 0)), (3, .int (nI i))]) : W p l e room_1 s m #[Value.ref b] below meth c H locs 24 792 (lw_Z below #[Value.ref b] s) (F0 m 434 ls []) := by
  obtain ⟨hx, hb, hr, hml, hown, hts, hX, hbl, hlocks, hgv⟩ := id C0
  have hts : ∀ w ∈ wsL_law, w.before #[Value.ref b] s = true := fun w h => hts w (wsL_law_in w h)
  have hown : s.vm.findClass RL = some m.cls := hown
  obtain ⟨hn, htx, hT, hC, hK5, ⟨hp, hu, hua, hub⟩, h_pm, h_jm⟩ := id hI
  refine lv_aload_n hx hb dL_law_434 rfl (lv_at hl 1 rfl) ?_
  refine lv_aload_n hx hb dL_law_435 rfl (lv_at hl 0 rfl) ?_
  refine lv_iload_n hx hb dL_law_436 rfl (lv_at hl 3 rfl) ?_
  refine lv_iconst (v := nI 1) hx hb dL_law_437 (by decide) ?_
  refine q_iadd2 (x := i) (y := 1) (z := i + 1) hx hb (by omega) dL_law_438 ?_
  refine q_sld (k := i + 1) hx hb hX hbl hbA hV.2.2 (by omega) (by omega) dL_law_439 ?_
  refine lv_aload_n hx hb dL_law_440 rfl (lv_at hl 0 rfl) ?_
  refine lv_iload_n hx hb dL_law_441 rfl (lv_at hl 3 rfl) ?_
  refine lv_iconst (v := nI 2) hx hb dL_law_442 (by decide) ?_
  refine q_iadd2 (x := i) (y := 2) (z := i + 2) hx hb (by omega) dL_law_443 ?_
  refine q_sld (k := i + 2) hx hb hX hbl hbA hV.2.2 (by omega) (by omega) dL_law_444 ?_
  have hV : qV D A s.heap ((wT g cA pm jm lm du pr ja rt) ++ (wT k cA pm2 jm2 lm2 du2 pr2 ja2 rt2) ++ (wD f cA n tx T C K P L u ua ub pm jm lm du lt hh) ++ (wY f cA pr ja rs os) ++ (wC h (g 0) (k 0) cA n tx T C K L P u ua ub)) H locs := hV.sub [6, 7, 8, 9, 10, 11, 12, 13, 14, 15, 16, 17, 18, 19, 20, 21, 22, 23, 0, 1, 2, 3, 4, 5] rfl rfl
  refine k_V_i (w0 := (wT g cA pm jm lm du pr ja rt) ++ (wT k cA pm2 jm2 lm2 du2 pr2 ja2 rt2) ++ (wD f cA n tx T C K P L u ua ub pm jm lm du lt hh) ++ (wY f cA pr ja rs os)) (wc := wC h (g 0) (k 0) cA n tx T C K L P u ua ub) (b := h 0) (As := [.int (xs (i + 1)), .int (xs (i + 2))]) (rest := []) hx hb hml hown hts hK hA hN hV hl.1 (c_X1_gain l D h (g 0) (k 0) cA n tx T C K L P u ua ub (xs (i + 1)) (xs (i + 2)) (by first | omega | assumption) (by first | omega | assumption) (by first | omega | assumption) (by first | omega | assumption)) gL_law_X1_gain rfl rfl rfl hdX1_gain ⟨Nat.le_of_ble_eq_true rfl, Nat.le_of_ble_eq_true rfl⟩ 18 1 rfl rfl rfl rfl rfl (Nat.le_of_ble_eq_true rfl) dL_law_445 ⟨Nat.le_of_ble_eq_true rfl, Nat.le_of_ble_eq_true rfl⟩ (fun r W1 H locs hp hV => ?_)
  obtain ⟨hp1, hp2⟩ := hp
  replace hp1 := hp1.symm
  subst hp1
  replace hp2 := hp2.symm
  subst hp2
  have hV : qV D A s.heap ((wT g cA pm jm lm du pr ja rt) ++ (wT k cA pm2 jm2 lm2 du2 pr2 ja2 rt2) ++ (wD f cA n tx T C K P L u ua ub pm jm lm du lt hh) ++ (wY f cA pr ja rs os) ++ (wC h (g 0) (k 0) cA n tx T C K L P u ua ub)) H locs := hV
  have hV : qV D A s.heap ((wC h (g 0) (k 0) cA n tx T C K L P u ua ub) ++ (wT g cA pm jm lm du pr ja rt) ++ (wT k cA pm2 jm2 lm2 du2 pr2 ja2 rt2) ++ (wD f cA n tx T C K P L u ua ub pm jm lm du lt hh) ++ (wY f cA pr ja rs os)) H locs := hV.sub [18, 19, 20, 21, 22, 23, 0, 1, 2, 3, 4, 5, 6, 7, 8, 9, 10, 11, 12, 13, 14, 15, 16, 17] rfl rfl
  refine lv_aload_n hx hb dL_law_448 rfl (lv_at hl 2 rfl) ?_
  refine lv_aload_n hx hb dL_law_449 rfl (lv_at hl 0 rfl) ?_
  refine lv_iload_n hx hb dL_law_450 rfl (lv_at hl 3 rfl) ?_
  refine lv_iconst (v := nI 1) hx hb dL_law_451 (by decide) ?_
  refine q_iadd2 (x := i) (y := 1) (z := i + 1) hx hb (by omega) dL_law_452 ?_
  refine q_sld (k := i + 1) hx hb hX hbl hbA hV.2.2 (by omega) (by omega) dL_law_453 ?_
  refine lv_aload_n hx hb dL_law_454 rfl (lv_at hl 0 rfl) ?_
  refine lv_iload_n hx hb dL_law_455 rfl (lv_at hl 3 rfl) ?_
  refine lv_iconst (v := nI 2) hx hb dL_law_456 (by decide) ?_
  refine q_iadd2 (x := i) (y := 2) (z := i + 2) hx hb (by omega) dL_law_457 ?_
  refine q_sld (k := i + 2) hx hb hX hbl hbA hV.2.2 (by omega) (by omega) dL_law_458 ?_
  have hV : qV D A s.heap ((wC h (g 0) (k 0) cA n tx T C K L P u ua ub) ++ (wT g cA pm jm lm du pr ja rt) ++ (wT k cA pm2 jm2 lm2 du2 pr2 ja2 rt2) ++ (wY f cA pr ja rs os) ++ (wD f cA n tx T C K P L u ua ub pm jm lm du lt hh)) H locs := hV.sub [0, 1, 2, 3, 4, 5, 6, 7, 8, 9, 10, 11, 12, 13, 20, 21, 22, 23, 14, 15, 16, 17, 18, 19] rfl rfl
  refine k_V_i (w0 := (wC h (g 0) (k 0) cA n tx T C K L P u ua ub) ++ (wT g cA pm jm lm du pr ja rt) ++ (wT k cA pm2 jm2 lm2 du2 pr2 ja2 rt2) ++ (wY f cA pr ja rs os)) (wc := wD f cA n tx T C K P L u ua ub pm jm lm du lt hh) (b := f 0) (As := [.int (xs (i + 1)), .int (xs (i + 2))]) (rest := [.int (aGn C L P tx n (xs (i + 1)) (xs (i + 2)))]) hx hb hml hown hts hK hA hN hV hl.1 (c_X2_gain l D f cA n tx T C K P L u ua ub pm jm lm du lt hh (xs (i + 1)) (xs (i + 2)) (by first | omega | assumption) (by first | omega | assumption) (by first | omega | assumption) (by first | omega | assumption)) gL_law_X2_gain rfl rfl rfl hdX2_gain ⟨Nat.le_of_ble_eq_true rfl, Nat.le_of_ble_eq_true rfl⟩ 18 2 rfl rfl rfl rfl rfl (Nat.le_of_ble_eq_true rfl) dL_law_459 ⟨Nat.le_of_ble_eq_true rfl, Nat.le_of_ble_eq_true rfl⟩ (fun r W1 H locs hp hV => ?_)
  obtain ⟨hp1, hp2⟩ := hp
  replace hp1 := hp1.symm
  subst hp1
  replace hp2 := hp2.symm
  subst hp2
  have hV : qV D A s.heap ((wC h (g 0) (k 0) cA n tx T C K L P u ua ub) ++ (wT g cA pm jm lm du pr ja rt) ++ (wT k cA pm2 jm2 lm2 du2 pr2 ja2 rt2) ++ (wY f cA pr ja rs os) ++ (wD f cA n tx T C K P L u ua ub pm jm lm du lt hh)) H locs := hV
  have hV : qV D A s.heap ((wC h (g 0) (k 0) cA n tx T C K L P u ua ub) ++ (wT g cA pm jm lm du pr ja rt) ++ (wT k cA pm2 jm2 lm2 du2 pr2 ja2 rt2) ++ (wD f cA n tx T C K P L u ua ub pm jm lm du lt hh) ++ (wY f cA pr ja rs os)) H locs := hV.sub [0, 1, 2, 3, 4, 5, 6, 7, 8, 9, 10, 11, 12, 13, 18, 19, 20, 21, 22, 23, 14, 15, 16, 17] rfl rfl
  refine z_icmp_eq (tgt := 651) hx hb dL_law_462 (by decide) (fun _ => ?_) (fun c1 => absurd rfl c1)
  exact ih _ _ _ _ _ _ _ _ _ _ _ _ _ _ _ _ _ _ _ _ _ _ _ _ _ _ _ _ (hI) _ _ _ hV hl
set_option maxHeartbeats 4000000 in
set_option maxRecDepth 100000 in
theorem lc_15 {p : Program} {e : Env} {s : State} {m : MethodId} {below : List Frame} {meth : Method} {c : Code} (l : Launch) {b Ln : Nat} {xs : Nat → Int32} (hL : Ln ≤ 1536) (C0 : lw_At p s m meth c b Ln xs) (D : va_G) (cA : ClassId) (A : Nat → Prop) (hA : ∀ q, s.heap.size ≤ q → A q) (hbA : ¬ A b) (hK : va_K D vwCl [(cA, .int)] s) (hN : nW s) (h g k f : Nat → Nat) (i : Nat) (hi : i + 3 ≤ Ln) (ih : LK p l e s m below meth c b D cA A h g k f i) (n : Nat) (tx : Nat → Nat) (T : Nat) (C : Nat) (K : Nat) (L : Nat → Nat) (P : Nat → Nat) (u : Nat) (ua : Nat → Nat) (ub : Nat → Nat) (pm : Nat) (jm : Nat) (lm : Nat) (du : Nat) (pr : Nat → Nat) (ja : Nat → Nat) (rt : Nat → Nat) (pm2 : Nat) (jm2 : Nat) (lm2 : Nat) (du2 : Nat) (pr2 : Nat → Nat) (ja2 : Nat → Nat) (rt2 : Nat → Nat) (lt : Nat) (hh : Int64) (rs : Nat → Nat) (os : Nat → Nat) (hI : sInv n tx T C K (L, P, u, ua, ub) (pm, jm, lm, du, pr, ja)) (H : Heap) (locs : List Loc) (ls : Array Slot) (hV : qV D A s.heap ((wC h (g 0) (k 0) cA n tx T C K L P u ua ub) ++ (wT g cA pm jm lm du pr ja rt) ++ (wT k cA pm2 jm2 lm2 du2 pr2 ja2 rt2) ++ (wD f cA n tx T C K P L u ua ub pm jm lm du lt hh) ++ (wY f cA pr ja rs os)) H locs) (hl : lv_has ls 4 [(0, .ref b), (1, .ref (h 0)), (2, .ref (f 0)), (3, .int (nI i))]) : W p l e room_1 s m #[Value.ref b] below meth c H locs 24 792 (lw_Z below #[Value.ref b] s) (F0 m 467 ls []) := by
  obtain ⟨hx, hb, hr, hml, hown, hts, hX, hbl, hlocks, hgv⟩ := id C0
  have hts : ∀ w ∈ wsL_law, w.before #[Value.ref b] s = true := fun w h => hts w (wsL_law_in w h)
  have hown : s.vm.findClass RL = some m.cls := hown
  obtain ⟨hn, htx, hT, hC, hK5, ⟨hp, hu, hua, hub⟩, h_pm, h_jm⟩ := id hI
  refine lv_aload_n hx hb dL_law_467 rfl (lv_at hl 1 rfl) ?_
  have hV : qV D A s.heap ((wT g cA pm jm lm du pr ja rt) ++ (wT k cA pm2 jm2 lm2 du2 pr2 ja2 rt2) ++ (wD f cA n tx T C K P L u ua ub pm jm lm du lt hh) ++ (wY f cA pr ja rs os) ++ (wC h (g 0) (k 0) cA n tx T C K L P u ua ub)) H locs := hV.sub [6, 7, 8, 9, 10, 11, 12, 13, 14, 15, 16, 17, 18, 19, 20, 21, 22, 23, 0, 1, 2, 3, 4, 5] rfl rfl
  refine k_V_i (w0 := (wT g cA pm jm lm du pr ja rt) ++ (wT k cA pm2 jm2 lm2 du2 pr2 ja2 rt2) ++ (wD f cA n tx T C K P L u ua ub pm jm lm du lt hh) ++ (wY f cA pr ja rs os)) (wc := wC h (g 0) (k 0) cA n tx T C K L P u ua ub) (b := h 0) (As := []) (rest := []) hx hb hml hown hts hK hA hN hV hl.1 (c_X1_bestSwap l D h (g 0) (k 0) cA n tx T C K L P u ua ub  (by first | omega | assumption) (by first | omega | assumption) (by first | omega | assumption) (by first | omega | assumption)) gL_law_X1_bestSwap rfl rfl rfl hdX1_bestSwap ⟨Nat.le_of_ble_eq_true rfl, Nat.le_of_ble_eq_true rfl⟩ 18 1 rfl rfl rfl rfl rfl (Nat.le_of_ble_eq_true rfl) dL_law_468 ⟨Nat.le_of_ble_eq_true rfl, Nat.le_of_ble_eq_true rfl⟩ (fun r W1 H locs hp hV => ?_)
  obtain ⟨hp1, hp2⟩ := hp
  replace hp1 := hp1.symm
  subst hp1
  replace hp2 := hp2.symm
  subst hp2
  have hV : qV D A s.heap ((wT g cA pm jm lm du pr ja rt) ++ (wT k cA pm2 jm2 lm2 du2 pr2 ja2 rt2) ++ (wD f cA n tx T C K P L u ua ub pm jm lm du lt hh) ++ (wY f cA pr ja rs os) ++ (wC h (g 0) (k 0) cA n tx T C K L P u ua ub)) H locs := hV
  have hV : qV D A s.heap ((wC h (g 0) (k 0) cA n tx T C K L P u ua ub) ++ (wT g cA pm jm lm du pr ja rt) ++ (wT k cA pm2 jm2 lm2 du2 pr2 ja2 rt2) ++ (wD f cA n tx T C K P L u ua ub pm jm lm du lt hh) ++ (wY f cA pr ja rs os)) H locs := hV.sub [18, 19, 20, 21, 22, 23, 0, 1, 2, 3, 4, 5, 6, 7, 8, 9, 10, 11, 12, 13, 14, 15, 16, 17] rfl rfl
  refine lv_aload_n hx hb dL_law_471 rfl (lv_at hl 2 rfl) ?_
  have hV : qV D A s.heap ((wC h (g 0) (k 0) cA n tx T C K L P u ua ub) ++ (wT g cA pm jm lm du pr ja rt) ++ (wT k cA pm2 jm2 lm2 du2 pr2 ja2 rt2) ++ (wY f cA pr ja rs os) ++ (wD f cA n tx T C K P L u ua ub pm jm lm du lt hh)) H locs := hV.sub [0, 1, 2, 3, 4, 5, 6, 7, 8, 9, 10, 11, 12, 13, 20, 21, 22, 23, 14, 15, 16, 17, 18, 19] rfl rfl
  refine k_V_i (w0 := (wC h (g 0) (k 0) cA n tx T C K L P u ua ub) ++ (wT g cA pm jm lm du pr ja rt) ++ (wT k cA pm2 jm2 lm2 du2 pr2 ja2 rt2) ++ (wY f cA pr ja rs os)) (wc := wD f cA n tx T C K P L u ua ub pm jm lm du lt hh) (b := f 0) (As := []) (rest := [.int (bV (bst C L P tx n))]) hx hb hml hown hts hK hA hN hV hl.1 (c_X2_bestSwap l D f cA n tx T C K P L u ua ub pm jm lm du lt hh  (by first | omega | assumption) (by first | omega | assumption) (by first | omega | assumption) (by first | omega | assumption)) gL_law_X2_bestSwap rfl rfl rfl hdX2_bestSwap ⟨Nat.le_of_ble_eq_true rfl, Nat.le_of_ble_eq_true rfl⟩ 18 2 rfl rfl rfl rfl rfl (Nat.le_of_ble_eq_true rfl) dL_law_472 ⟨Nat.le_of_ble_eq_true rfl, Nat.le_of_ble_eq_true rfl⟩ (fun r W1 H locs hp hV => ?_)
  obtain ⟨hp1, hp2⟩ := hp
  replace hp1 := hp1.symm
  subst hp1
  replace hp2 := hp2.symm
  subst hp2
  have hV : qV D A s.heap ((wC h (g 0) (k 0) cA n tx T C K L P u ua ub) ++ (wT g cA pm jm lm du pr ja rt) ++ (wT k cA pm2 jm2 lm2 du2 pr2 ja2 rt2) ++ (wY f cA pr ja rs os) ++ (wD f cA n tx T C K P L u ua ub pm jm lm du lt hh)) H locs := hV
  have hV : qV D A s.heap ((wC h (g 0) (k 0) cA n tx T C K L P u ua ub) ++ (wT g cA pm jm lm du pr ja rt) ++ (wT k cA pm2 jm2 lm2 du2 pr2 ja2 rt2) ++ (wD f cA n tx T C K P L u ua ub pm jm lm du lt hh) ++ (wY f cA pr ja rs os)) H locs := hV.sub [0, 1, 2, 3, 4, 5, 6, 7, 8, 9, 10, 11, 12, 13, 18, 19, 20, 21, 22, 23, 14, 15, 16, 17] rfl rfl
  refine z_icmp_eq (tgt := 651) hx hb dL_law_475 (by decide) (fun _ => ?_) (fun c1 => absurd rfl c1)
  exact ih _ _ _ _ _ _ _ _ _ _ _ _ _ _ _ _ _ _ _ _ _ _ _ _ _ _ _ _ (hI) _ _ _ hV hl
set_option maxHeartbeats 4000000 in
set_option maxRecDepth 100000 in
theorem lc_16 {p : Program} {e : Env} {s : State} {m : MethodId} {below : List Frame} {meth : Method} {c : Code} (l : Launch) {b Ln : Nat} {xs : Nat → Int32} (hL : Ln ≤ 1536) (C0 : lw_At p s m meth c b Ln xs) (D : va_G) (cA : ClassId) (A : Nat → Prop) (hA : ∀ q, s.heap.size ≤ q → A q) (hbA : ¬ A b) (hK : va_K D vwCl [(cA, .int)] s) (hN : nW s) (h g k f : Nat → Nat) (i : Nat) (hi : i + 3 ≤ Ln) (ih : LK p l e s m below meth c b D cA A h g k f i) (n : Nat) (tx : Nat → Nat) (T : Nat) (C : Nat) (K : Nat) (L : Nat → Nat) (P : Nat → Nat) (u : Nat) (ua : Nat → Nat) (ub : Nat → Nat) (pm : Nat) (jm : Nat) (lm : Nat) (du : Nat) (pr : Nat → Nat) (ja : Nat → Nat) (rt : Nat → Nat) (pm2 : Nat) (jm2 : Nat) (lm2 : Nat) (du2 : Nat) (pr2 : Nat → Nat) (ja2 : Nat → Nat) (rt2 : Nat → Nat) (lt : Nat) (hh : Int64) (rs : Nat → Nat) (os : Nat → Nat) (hI : sInv n tx T C K (L, P, u, ua, ub) (pm, jm, lm, du, pr, ja)) (H : Heap) (locs : List Loc) (ls : Array Slot) (hV : qV D A s.heap ((wC h (g 0) (k 0) cA n tx T C K L P u ua ub) ++ (wT g cA pm jm lm du pr ja rt) ++ (wT k cA pm2 jm2 lm2 du2 pr2 ja2 rt2) ++ (wD f cA n tx T C K P L u ua ub pm jm lm du lt hh) ++ (wY f cA pr ja rs os)) H locs) (hl : lv_has ls 4 [(0, .ref b), (1, .ref (h 0)), (2, .ref (f 0)), (3, .int (nI i))]) : W p l e room_1 s m #[Value.ref b] below meth c H locs 24 792 (lw_Z below #[Value.ref b] s) (F0 m 480 ls []) := by
  obtain ⟨hx, hb, hr, hml, hown, hts, hX, hbl, hlocks, hgv⟩ := id C0
  have hts : ∀ w ∈ wsL_law, w.before #[Value.ref b] s = true := fun w h => hts w (wsL_law_in w h)
  have hown : s.vm.findClass RL = some m.cls := hown
  obtain ⟨hn, htx, hT, hC, hK5, ⟨hp, hu, hua, hub⟩, h_pm, h_jm⟩ := id hI
  refine lv_aload_n hx hb dL_law_480 rfl (lv_at hl 1 rfl) ?_
  refine lv_aload_n hx hb dL_law_481 rfl (lv_at hl 0 rfl) ?_
  refine lv_iload_n hx hb dL_law_482 rfl (lv_at hl 3 rfl) ?_
  refine lv_iconst (v := nI 1) hx hb dL_law_483 (by decide) ?_
  refine q_iadd2 (x := i) (y := 1) (z := i + 1) hx hb (by omega) dL_law_484 ?_
  refine q_sld (k := i + 1) hx hb hX hbl hbA hV.2.2 (by omega) (by omega) dL_law_485 ?_
  have hV : qV D A s.heap ((wT g cA pm jm lm du pr ja rt) ++ (wT k cA pm2 jm2 lm2 du2 pr2 ja2 rt2) ++ (wD f cA n tx T C K P L u ua ub pm jm lm du lt hh) ++ (wY f cA pr ja rs os) ++ (wC h (g 0) (k 0) cA n tx T C K L P u ua ub)) H locs := hV.sub [6, 7, 8, 9, 10, 11, 12, 13, 14, 15, 16, 17, 18, 19, 20, 21, 22, 23, 0, 1, 2, 3, 4, 5] rfl rfl
  refine k_V_i (w0 := (wT g cA pm jm lm du pr ja rt) ++ (wT k cA pm2 jm2 lm2 du2 pr2 ja2 rt2) ++ (wD f cA n tx T C K P L u ua ub pm jm lm du lt hh) ++ (wY f cA pr ja rs os)) (wc := wC h (g 0) (k 0) cA n tx T C K L P u ua ub) (b := h 0) (As := [.int (xs (i + 1))]) (rest := []) hx hb hml hown hts hK hA hN hV hl.1 (c_X1_improve l D h (g 0) (k 0) cA n tx T C K L P u ua ub (xs (i + 1)) (by first | omega | assumption) (by first | omega | assumption) (by first | omega | assumption) (by first | omega | assumption) (by first | omega | assumption)) gL_law_X1_improve rfl rfl rfl hdX1_improve ⟨Nat.le_of_ble_eq_true rfl, Nat.le_of_ble_eq_true rfl⟩ 18 1 rfl rfl rfl rfl rfl (Nat.le_of_ble_eq_true rfl) dL_law_486 ⟨Nat.le_of_ble_eq_true rfl, Nat.le_of_ble_eq_true rfl⟩ (fun r W1 H locs hp hV => ?_)
  obtain ⟨hp1, hp2⟩ := hp
  replace hp1 := hp1.symm
  subst hp1
  replace hp2 := hp2.symm
  subst hp2
  have hV : qV D A s.heap ((wT g cA pm jm lm du pr ja rt) ++ (wT k cA pm2 jm2 lm2 du2 pr2 ja2 rt2) ++ (wD f cA n tx T C K P L u ua ub pm jm lm du lt hh) ++ (wY f cA pr ja rs os) ++ (wC h (g 0) (k 0) cA n tx T C K ((yIm C tx n (xs (i + 1)) (L, P, u, ua, ub)).1) ((yIm C tx n (xs (i + 1)) (L, P, u, ua, ub)).2.1) ((yIm C tx n (xs (i + 1)) (L, P, u, ua, ub)).2.2.1) ((yIm C tx n (xs (i + 1)) (L, P, u, ua, ub)).2.2.2.1) ((yIm C tx n (xs (i + 1)) (L, P, u, ua, ub)).2.2.2.2))) H locs := hV
  have hV : qV D A s.heap ((wC h (g 0) (k 0) cA n tx T C K ((yIm C tx n (xs (i + 1)) (L, P, u, ua, ub)).1) ((yIm C tx n (xs (i + 1)) (L, P, u, ua, ub)).2.1) ((yIm C tx n (xs (i + 1)) (L, P, u, ua, ub)).2.2.1) ((yIm C tx n (xs (i + 1)) (L, P, u, ua, ub)).2.2.2.1) ((yIm C tx n (xs (i + 1)) (L, P, u, ua, ub)).2.2.2.2)) ++ (wT g cA pm jm lm du pr ja rt) ++ (wT k cA pm2 jm2 lm2 du2 pr2 ja2 rt2) ++ (wD f cA n tx T C K P L u ua ub pm jm lm du lt hh) ++ (wY f cA pr ja rs os)) H locs := hV.sub [18, 19, 20, 21, 22, 23, 0, 1, 2, 3, 4, 5, 6, 7, 8, 9, 10, 11, 12, 13, 14, 15, 16, 17] rfl rfl
  refine lv_aload_n hx hb dL_law_489 rfl (lv_at hl 2 rfl) ?_
  refine lv_aload_n hx hb dL_law_490 rfl (lv_at hl 0 rfl) ?_
  refine lv_iload_n hx hb dL_law_491 rfl (lv_at hl 3 rfl) ?_
  refine lv_iconst (v := nI 1) hx hb dL_law_492 (by decide) ?_
  refine q_iadd2 (x := i) (y := 1) (z := i + 1) hx hb (by omega) dL_law_493 ?_
  refine q_sld (k := i + 1) hx hb hX hbl hbA hV.2.2 (by omega) (by omega) dL_law_494 ?_
  have hV : qV D A s.heap ((wC h (g 0) (k 0) cA n tx T C K ((yIm C tx n (xs (i + 1)) (L, P, u, ua, ub)).1) ((yIm C tx n (xs (i + 1)) (L, P, u, ua, ub)).2.1) ((yIm C tx n (xs (i + 1)) (L, P, u, ua, ub)).2.2.1) ((yIm C tx n (xs (i + 1)) (L, P, u, ua, ub)).2.2.2.1) ((yIm C tx n (xs (i + 1)) (L, P, u, ua, ub)).2.2.2.2)) ++ (wT g cA pm jm lm du pr ja rt) ++ (wT k cA pm2 jm2 lm2 du2 pr2 ja2 rt2) ++ (wY f cA pr ja rs os) ++ (wD f cA n tx T C K P L u ua ub pm jm lm du lt hh)) H locs := hV.sub [0, 1, 2, 3, 4, 5, 6, 7, 8, 9, 10, 11, 12, 13, 20, 21, 22, 23, 14, 15, 16, 17, 18, 19] rfl rfl
  refine k_V_i (w0 := (wC h (g 0) (k 0) cA n tx T C K ((yIm C tx n (xs (i + 1)) (L, P, u, ua, ub)).1) ((yIm C tx n (xs (i + 1)) (L, P, u, ua, ub)).2.1) ((yIm C tx n (xs (i + 1)) (L, P, u, ua, ub)).2.2.1) ((yIm C tx n (xs (i + 1)) (L, P, u, ua, ub)).2.2.2.1) ((yIm C tx n (xs (i + 1)) (L, P, u, ua, ub)).2.2.2.2)) ++ (wT g cA pm jm lm du pr ja rt) ++ (wT k cA pm2 jm2 lm2 du2 pr2 ja2 rt2) ++ (wY f cA pr ja rs os)) (wc := wD f cA n tx T C K P L u ua ub pm jm lm du lt hh) (b := f 0) (As := [.int (xs (i + 1))]) (rest := [.int (aIm C tx n (xs (i + 1)) (L, P, u, ua, ub))]) hx hb hml hown hts hK hA hN hV hl.1 (c_X2_improve l D f cA n tx T C K P L u ua ub pm jm lm du lt hh (xs (i + 1)) (by first | omega | assumption) (by first | omega | assumption) (by first | omega | assumption) (by first | omega | assumption) (by first | omega | assumption)) gL_law_X2_improve rfl rfl rfl hdX2_improve ⟨Nat.le_of_ble_eq_true rfl, Nat.le_of_ble_eq_true rfl⟩ 18 2 rfl rfl rfl rfl rfl (Nat.le_of_ble_eq_true rfl) dL_law_495 ⟨Nat.le_of_ble_eq_true rfl, Nat.le_of_ble_eq_true rfl⟩ (fun r W1 H locs hp hV => ?_)
  obtain ⟨hp1, hp2⟩ := hp
  replace hp1 := hp1.symm
  subst hp1
  replace hp2 := hp2.symm
  subst hp2
  have hV : qV D A s.heap ((wC h (g 0) (k 0) cA n tx T C K ((yIm C tx n (xs (i + 1)) (L, P, u, ua, ub)).1) ((yIm C tx n (xs (i + 1)) (L, P, u, ua, ub)).2.1) ((yIm C tx n (xs (i + 1)) (L, P, u, ua, ub)).2.2.1) ((yIm C tx n (xs (i + 1)) (L, P, u, ua, ub)).2.2.2.1) ((yIm C tx n (xs (i + 1)) (L, P, u, ua, ub)).2.2.2.2)) ++ (wT g cA pm jm lm du pr ja rt) ++ (wT k cA pm2 jm2 lm2 du2 pr2 ja2 rt2) ++ (wY f cA pr ja rs os) ++ (wD f cA n tx T C K ((yIm C tx n (xs (i + 1)) (L, P, u, ua, ub)).2.1) ((yIm C tx n (xs (i + 1)) (L, P, u, ua, ub)).1) ((yIm C tx n (xs (i + 1)) (L, P, u, ua, ub)).2.2.1) ((yIm C tx n (xs (i + 1)) (L, P, u, ua, ub)).2.2.2.1) ((yIm C tx n (xs (i + 1)) (L, P, u, ua, ub)).2.2.2.2) pm jm lm du lt hh)) H locs := hV
  have hV : qV D A s.heap ((wC h (g 0) (k 0) cA n tx T C K ((yIm C tx n (xs (i + 1)) (L, P, u, ua, ub)).1) ((yIm C tx n (xs (i + 1)) (L, P, u, ua, ub)).2.1) ((yIm C tx n (xs (i + 1)) (L, P, u, ua, ub)).2.2.1) ((yIm C tx n (xs (i + 1)) (L, P, u, ua, ub)).2.2.2.1) ((yIm C tx n (xs (i + 1)) (L, P, u, ua, ub)).2.2.2.2)) ++ (wT g cA pm jm lm du pr ja rt) ++ (wT k cA pm2 jm2 lm2 du2 pr2 ja2 rt2) ++ (wD f cA n tx T C K ((yIm C tx n (xs (i + 1)) (L, P, u, ua, ub)).2.1) ((yIm C tx n (xs (i + 1)) (L, P, u, ua, ub)).1) ((yIm C tx n (xs (i + 1)) (L, P, u, ua, ub)).2.2.1) ((yIm C tx n (xs (i + 1)) (L, P, u, ua, ub)).2.2.2.1) ((yIm C tx n (xs (i + 1)) (L, P, u, ua, ub)).2.2.2.2) pm jm lm du lt hh) ++ (wY f cA pr ja rs os)) H locs := hV.sub [0, 1, 2, 3, 4, 5, 6, 7, 8, 9, 10, 11, 12, 13, 18, 19, 20, 21, 22, 23, 14, 15, 16, 17] rfl rfl
  refine z_icmp_eq (tgt := 651) hx hb dL_law_498 (by decide) (fun _ => ?_) (fun c1 => absurd rfl c1)
  exact ih _ _ _ _ _ _ _ _ _ _ _ _ _ _ _ _ _ _ _ _ _ _ _ _ _ _ _ _ (hI.lay (hI.yi.im (xs (i + 1)))) _ _ _ hV hl
set_option maxHeartbeats 4000000 in
set_option maxRecDepth 100000 in
theorem lc_17 {p : Program} {e : Env} {s : State} {m : MethodId} {below : List Frame} {meth : Method} {c : Code} (l : Launch) {b Ln : Nat} {xs : Nat → Int32} (hL : Ln ≤ 1536) (C0 : lw_At p s m meth c b Ln xs) (D : va_G) (cA : ClassId) (A : Nat → Prop) (hA : ∀ q, s.heap.size ≤ q → A q) (hbA : ¬ A b) (hK : va_K D vwCl [(cA, .int)] s) (hN : nW s) (h g k f : Nat → Nat) (i : Nat) (hi : i + 3 ≤ Ln) (ih : LK p l e s m below meth c b D cA A h g k f i) (n : Nat) (tx : Nat → Nat) (T : Nat) (C : Nat) (K : Nat) (L : Nat → Nat) (P : Nat → Nat) (u : Nat) (ua : Nat → Nat) (ub : Nat → Nat) (pm : Nat) (jm : Nat) (lm : Nat) (du : Nat) (pr : Nat → Nat) (ja : Nat → Nat) (rt : Nat → Nat) (pm2 : Nat) (jm2 : Nat) (lm2 : Nat) (du2 : Nat) (pr2 : Nat → Nat) (ja2 : Nat → Nat) (rt2 : Nat → Nat) (lt : Nat) (hh : Int64) (rs : Nat → Nat) (os : Nat → Nat) (hI : sInv n tx T C K (L, P, u, ua, ub) (pm, jm, lm, du, pr, ja)) (H : Heap) (locs : List Loc) (ls : Array Slot) (hV : qV D A s.heap ((wC h (g 0) (k 0) cA n tx T C K L P u ua ub) ++ (wT g cA pm jm lm du pr ja rt) ++ (wT k cA pm2 jm2 lm2 du2 pr2 ja2 rt2) ++ (wD f cA n tx T C K P L u ua ub pm jm lm du lt hh) ++ (wY f cA pr ja rs os)) H locs) (hl : lv_has ls 4 [(0, .ref b), (1, .ref (h 0)), (2, .ref (f 0)), (3, .int (nI i))]) : W p l e room_1 s m #[Value.ref b] below meth c H locs 24 792 (lw_Z below #[Value.ref b] s) (F0 m 503 ls []) := by
  obtain ⟨hx, hb, hr, hml, hown, hts, hX, hbl, hlocks, hgv⟩ := id C0
  have hts : ∀ w ∈ wsL_law, w.before #[Value.ref b] s = true := fun w h => hts w (wsL_law_in w h)
  have hown : s.vm.findClass RL = some m.cls := hown
  obtain ⟨hn, htx, hT, hC, hK5, ⟨hp, hu, hua, hub⟩, h_pm, h_jm⟩ := id hI
  refine lv_aload_n hx hb dL_law_503 rfl (lv_at hl 1 rfl) ?_
  have hV : qV D A s.heap ((wT g cA pm jm lm du pr ja rt) ++ (wT k cA pm2 jm2 lm2 du2 pr2 ja2 rt2) ++ (wD f cA n tx T C K P L u ua ub pm jm lm du lt hh) ++ (wY f cA pr ja rs os) ++ (wC h (g 0) (k 0) cA n tx T C K L P u ua ub)) H locs := hV.sub [6, 7, 8, 9, 10, 11, 12, 13, 14, 15, 16, 17, 18, 19, 20, 21, 22, 23, 0, 1, 2, 3, 4, 5] rfl rfl
  refine k_V_i (w0 := (wT g cA pm jm lm du pr ja rt) ++ (wT k cA pm2 jm2 lm2 du2 pr2 ja2 rt2) ++ (wD f cA n tx T C K P L u ua ub pm jm lm du lt hh) ++ (wY f cA pr ja rs os)) (wc := wC h (g 0) (k 0) cA n tx T C K L P u ua ub) (b := h 0) (As := []) (rest := []) hx hb hml hown hts hK hA hN hV hl.1 (c_X1_worstLetter l D h (g 0) (k 0) cA n tx T C K L P u ua ub  (by first | omega | assumption) (by first | omega | assumption) (by first | omega | assumption) (by first | omega | assumption)) gL_law_X1_worstLetter rfl rfl rfl hdX1_worstLetter ⟨Nat.le_of_ble_eq_true rfl, Nat.le_of_ble_eq_true rfl⟩ 18 1 rfl rfl rfl rfl rfl (Nat.le_of_ble_eq_true rfl) dL_law_504 ⟨Nat.le_of_ble_eq_true rfl, Nat.le_of_ble_eq_true rfl⟩ (fun r W1 H locs hp hV => ?_)
  obtain ⟨hp1, hp2⟩ := hp
  replace hp1 := hp1.symm
  subst hp1
  replace hp2 := hp2.symm
  subst hp2
  have hV : qV D A s.heap ((wT g cA pm jm lm du pr ja rt) ++ (wT k cA pm2 jm2 lm2 du2 pr2 ja2 rt2) ++ (wD f cA n tx T C K P L u ua ub pm jm lm du lt hh) ++ (wY f cA pr ja rs os) ++ (wC h (g 0) (k 0) cA n tx T C K L P u ua ub)) H locs := hV
  have hV : qV D A s.heap ((wC h (g 0) (k 0) cA n tx T C K L P u ua ub) ++ (wT g cA pm jm lm du pr ja rt) ++ (wT k cA pm2 jm2 lm2 du2 pr2 ja2 rt2) ++ (wD f cA n tx T C K P L u ua ub pm jm lm du lt hh) ++ (wY f cA pr ja rs os)) H locs := hV.sub [18, 19, 20, 21, 22, 23, 0, 1, 2, 3, 4, 5, 6, 7, 8, 9, 10, 11, 12, 13, 14, 15, 16, 17] rfl rfl
  refine lv_aload_n hx hb dL_law_507 rfl (lv_at hl 2 rfl) ?_
  have hV : qV D A s.heap ((wC h (g 0) (k 0) cA n tx T C K L P u ua ub) ++ (wT g cA pm jm lm du pr ja rt) ++ (wT k cA pm2 jm2 lm2 du2 pr2 ja2 rt2) ++ (wY f cA pr ja rs os) ++ (wD f cA n tx T C K P L u ua ub pm jm lm du lt hh)) H locs := hV.sub [0, 1, 2, 3, 4, 5, 6, 7, 8, 9, 10, 11, 12, 13, 20, 21, 22, 23, 14, 15, 16, 17, 18, 19] rfl rfl
  refine k_V_i (w0 := (wC h (g 0) (k 0) cA n tx T C K L P u ua ub) ++ (wT g cA pm jm lm du pr ja rt) ++ (wT k cA pm2 jm2 lm2 du2 pr2 ja2 rt2) ++ (wY f cA pr ja rs os)) (wc := wD f cA n tx T C K P L u ua ub pm jm lm du lt hh) (b := f 0) (As := []) (rest := [.int (wV (wst C P tx n 12).2)]) hx hb hml hown hts hK hA hN hV hl.1 (c_X2_worstLetter l D f cA n tx T C K P L u ua ub pm jm lm du lt hh  (by first | omega | assumption) (by first | omega | assumption) (by first | omega | assumption) (by first | omega | assumption)) gL_law_X2_worstLetter rfl rfl rfl hdX2_worstLetter ⟨Nat.le_of_ble_eq_true rfl, Nat.le_of_ble_eq_true rfl⟩ 18 2 rfl rfl rfl rfl rfl (Nat.le_of_ble_eq_true rfl) dL_law_508 ⟨Nat.le_of_ble_eq_true rfl, Nat.le_of_ble_eq_true rfl⟩ (fun r W1 H locs hp hV => ?_)
  obtain ⟨hp1, hp2⟩ := hp
  replace hp1 := hp1.symm
  subst hp1
  replace hp2 := hp2.symm
  subst hp2
  have hV : qV D A s.heap ((wC h (g 0) (k 0) cA n tx T C K L P u ua ub) ++ (wT g cA pm jm lm du pr ja rt) ++ (wT k cA pm2 jm2 lm2 du2 pr2 ja2 rt2) ++ (wY f cA pr ja rs os) ++ (wD f cA n tx T C K P L u ua ub pm jm lm du lt hh)) H locs := hV
  have hV : qV D A s.heap ((wC h (g 0) (k 0) cA n tx T C K L P u ua ub) ++ (wT g cA pm jm lm du pr ja rt) ++ (wT k cA pm2 jm2 lm2 du2 pr2 ja2 rt2) ++ (wD f cA n tx T C K P L u ua ub pm jm lm du lt hh) ++ (wY f cA pr ja rs os)) H locs := hV.sub [0, 1, 2, 3, 4, 5, 6, 7, 8, 9, 10, 11, 12, 13, 18, 19, 20, 21, 22, 23, 14, 15, 16, 17] rfl rfl
  refine z_icmp_eq (tgt := 651) hx hb dL_law_511 (by decide) (fun _ => ?_) (fun c1 => absurd rfl c1)
  exact ih _ _ _ _ _ _ _ _ _ _ _ _ _ _ _ _ _ _ _ _ _ _ _ _ _ _ _ _ (hI) _ _ _ hV hl
set_option maxHeartbeats 4000000 in
set_option maxRecDepth 100000 in
theorem lc_18 {p : Program} {e : Env} {s : State} {m : MethodId} {below : List Frame} {meth : Method} {c : Code} (l : Launch) {b Ln : Nat} {xs : Nat → Int32} (hL : Ln ≤ 1536) (C0 : lw_At p s m meth c b Ln xs) (D : va_G) (cA : ClassId) (A : Nat → Prop) (hA : ∀ q, s.heap.size ≤ q → A q) (hbA : ¬ A b) (hK : va_K D vwCl [(cA, .int)] s) (hN : nW s) (h g k f : Nat → Nat) (i : Nat) (hi : i + 3 ≤ Ln) (ih : LK p l e s m below meth c b D cA A h g k f i) (n : Nat) (tx : Nat → Nat) (T : Nat) (C : Nat) (K : Nat) (L : Nat → Nat) (P : Nat → Nat) (u : Nat) (ua : Nat → Nat) (ub : Nat → Nat) (pm : Nat) (jm : Nat) (lm : Nat) (du : Nat) (pr : Nat → Nat) (ja : Nat → Nat) (rt : Nat → Nat) (pm2 : Nat) (jm2 : Nat) (lm2 : Nat) (du2 : Nat) (pr2 : Nat → Nat) (ja2 : Nat → Nat) (rt2 : Nat → Nat) (lt : Nat) (hh : Int64) (rs : Nat → Nat) (os : Nat → Nat) (hI : sInv n tx T C K (L, P, u, ua, ub) (pm, jm, lm, du, pr, ja)) (H : Heap) (locs : List Loc) (ls : Array Slot) (hV : qV D A s.heap ((wC h (g 0) (k 0) cA n tx T C K L P u ua ub) ++ (wT g cA pm jm lm du pr ja rt) ++ (wT k cA pm2 jm2 lm2 du2 pr2 ja2 rt2) ++ (wD f cA n tx T C K P L u ua ub pm jm lm du lt hh) ++ (wY f cA pr ja rs os)) H locs) (hl : lv_has ls 4 [(0, .ref b), (1, .ref (h 0)), (2, .ref (f 0)), (3, .int (nI i))]) : W p l e room_1 s m #[Value.ref b] below meth c H locs 24 792 (lw_Z below #[Value.ref b] s) (F0 m 516 ls []) := by
  obtain ⟨hx, hb, hr, hml, hown, hts, hX, hbl, hlocks, hgv⟩ := id C0
  have hts : ∀ w ∈ wsL_law, w.before #[Value.ref b] s = true := fun w h => hts w (wsL_law_in w h)
  have hown : s.vm.findClass RL = some m.cls := hown
  obtain ⟨hn, htx, hT, hC, hK5, ⟨hp, hu, hua, hub⟩, h_pm, h_jm⟩ := id hI
  refine lv_aload_n hx hb dL_law_516 rfl (lv_at hl 1 rfl) ?_
  refine lv_aload_n hx hb dL_law_517 rfl (lv_at hl 0 rfl) ?_
  refine lv_iload_n hx hb dL_law_518 rfl (lv_at hl 3 rfl) ?_
  refine lv_iconst (v := nI 1) hx hb dL_law_519 (by decide) ?_
  refine q_iadd2 (x := i) (y := 1) (z := i + 1) hx hb (by omega) dL_law_520 ?_
  refine q_sld (k := i + 1) hx hb hX hbl hbA hV.2.2 (by omega) (by omega) dL_law_521 ?_
  have hV : qV D A s.heap ((wT k cA pm2 jm2 lm2 du2 pr2 ja2 rt2) ++ (wD f cA n tx T C K P L u ua ub pm jm lm du lt hh) ++ (wY f cA pr ja rs os) ++ (wC h (g 0) (k 0) cA n tx T C K L P u ua ub) ++ (wT g cA pm jm lm du pr ja rt)) H locs := hV.sub [10, 11, 12, 13, 14, 15, 16, 17, 18, 19, 20, 21, 22, 23, 0, 1, 2, 3, 4, 5, 6, 7, 8, 9] rfl rfl
  refine k_V_i (w0 := (wT k cA pm2 jm2 lm2 du2 pr2 ja2 rt2) ++ (wD f cA n tx T C K P L u ua ub pm jm lm du lt hh) ++ (wY f cA pr ja rs os)) (wc := (wC h (g 0) (k 0) cA n tx T C K L P u ua ub) ++ (wT g cA pm jm lm du pr ja rt)) (b := h 0) (As := [.int (xs (i + 1))]) (rest := []) hx hb hml hown hts hK hA hN hV hl.1 (c_X1_run l D h (k 0) cA n tx T C K L P u ua ub g pm jm lm du pr ja rt (xs (i + 1)) (by first | omega | assumption) (by first | omega | assumption) (by first | omega | assumption) (by first | omega | assumption) (by first | omega | assumption) (by first | omega | assumption)) gL_law_X1_run rfl rfl rfl hdX1_run ⟨Nat.le_of_ble_eq_true rfl, Nat.le_of_ble_eq_true rfl⟩ 14 1 rfl rfl rfl rfl rfl (Nat.le_of_ble_eq_true rfl) dL_law_522 ⟨Nat.le_of_ble_eq_true rfl, Nat.le_of_ble_eq_true rfl⟩ (fun r W1 H locs hp hV => ?_)
  obtain ⟨hp1, rt3, hp2⟩ := hp
  replace hp1 := hp1.symm
  subst hp1
  replace hp2 := hp2.symm
  subst hp2
  have hV : qV D A s.heap ((wT k cA pm2 jm2 lm2 du2 pr2 ja2 rt2) ++ (wD f cA n tx T C K P L u ua ub pm jm lm du lt hh) ++ (wY f cA pr ja rs os) ++ (wC h (g 0) (k 0) cA n tx T C K L P u ua ub) ++ (wT g cA (((yRn tx P T C K n (xs (i + 1)) (pm, jm, lm, du, pr, ja))).1) (((yRn tx P T C K n (xs (i + 1)) (pm, jm, lm, du, pr, ja))).2.1) (((yRn tx P T C K n (xs (i + 1)) (pm, jm, lm, du, pr, ja))).2.2.1) (((yRn tx P T C K n (xs (i + 1)) (pm, jm, lm, du, pr, ja))).2.2.2.1) (((yRn tx P T C K n (xs (i + 1)) (pm, jm, lm, du, pr, ja))).2.2.2.2.1) (((yRn tx P T C K n (xs (i + 1)) (pm, jm, lm, du, pr, ja))).2.2.2.2.2) rt3)) H locs := hV
  have hV : qV D A s.heap ((wC h (g 0) (k 0) cA n tx T C K L P u ua ub) ++ (wT g cA (((yRn tx P T C K n (xs (i + 1)) (pm, jm, lm, du, pr, ja))).1) (((yRn tx P T C K n (xs (i + 1)) (pm, jm, lm, du, pr, ja))).2.1) (((yRn tx P T C K n (xs (i + 1)) (pm, jm, lm, du, pr, ja))).2.2.1) (((yRn tx P T C K n (xs (i + 1)) (pm, jm, lm, du, pr, ja))).2.2.2.1) (((yRn tx P T C K n (xs (i + 1)) (pm, jm, lm, du, pr, ja))).2.2.2.2.1) (((yRn tx P T C K n (xs (i + 1)) (pm, jm, lm, du, pr, ja))).2.2.2.2.2) rt3) ++ (wT k cA pm2 jm2 lm2 du2 pr2 ja2 rt2) ++ (wD f cA n tx T C K P L u ua ub pm jm lm du lt hh) ++ (wY f cA pr ja rs os)) H locs := hV.sub [14, 15, 16, 17, 18, 19, 20, 21, 22, 23, 0, 1, 2, 3, 4, 5, 6, 7, 8, 9, 10, 11, 12, 13] rfl rfl
  refine lv_aload_n hx hb dL_law_525 rfl (lv_at hl 2 rfl) ?_
  refine lv_aload_n hx hb dL_law_526 rfl (lv_at hl 0 rfl) ?_
  refine lv_iload_n hx hb dL_law_527 rfl (lv_at hl 3 rfl) ?_
  refine lv_iconst (v := nI 1) hx hb dL_law_528 (by decide) ?_
  refine q_iadd2 (x := i) (y := 1) (z := i + 1) hx hb (by omega) dL_law_529 ?_
  refine q_sld (k := i + 1) hx hb hX hbl hbA hV.2.2 (by omega) (by omega) dL_law_530 ?_
  have hV : qV D A s.heap ((wC h (g 0) (k 0) cA n tx T C K L P u ua ub) ++ (wT g cA (((yRn tx P T C K n (xs (i + 1)) (pm, jm, lm, du, pr, ja))).1) (((yRn tx P T C K n (xs (i + 1)) (pm, jm, lm, du, pr, ja))).2.1) (((yRn tx P T C K n (xs (i + 1)) (pm, jm, lm, du, pr, ja))).2.2.1) (((yRn tx P T C K n (xs (i + 1)) (pm, jm, lm, du, pr, ja))).2.2.2.1) (((yRn tx P T C K n (xs (i + 1)) (pm, jm, lm, du, pr, ja))).2.2.2.2.1) (((yRn tx P T C K n (xs (i + 1)) (pm, jm, lm, du, pr, ja))).2.2.2.2.2) rt3) ++ (wT k cA pm2 jm2 lm2 du2 pr2 ja2 rt2) ++ (wD f cA n tx T C K P L u ua ub pm jm lm du lt hh) ++ (wY f cA pr ja rs os)) H locs := hV.sub [0, 1, 2, 3, 4, 5, 6, 7, 8, 9, 10, 11, 12, 13, 14, 15, 16, 17, 18, 19, 20, 21, 22, 23] rfl rfl
  refine k_V_i (w0 := (wC h (g 0) (k 0) cA n tx T C K L P u ua ub) ++ (wT g cA (((yRn tx P T C K n (xs (i + 1)) (pm, jm, lm, du, pr, ja))).1) (((yRn tx P T C K n (xs (i + 1)) (pm, jm, lm, du, pr, ja))).2.1) (((yRn tx P T C K n (xs (i + 1)) (pm, jm, lm, du, pr, ja))).2.2.1) (((yRn tx P T C K n (xs (i + 1)) (pm, jm, lm, du, pr, ja))).2.2.2.1) (((yRn tx P T C K n (xs (i + 1)) (pm, jm, lm, du, pr, ja))).2.2.2.2.1) (((yRn tx P T C K n (xs (i + 1)) (pm, jm, lm, du, pr, ja))).2.2.2.2.2) rt3) ++ (wT k cA pm2 jm2 lm2 du2 pr2 ja2 rt2)) (wc := (wD f cA n tx T C K P L u ua ub pm jm lm du lt hh) ++ (wY f cA pr ja rs os)) (b := f 0) (As := [.int (xs (i + 1))]) (rest := [.int (aRn tx P T C K n (xs (i + 1)))]) hx hb hml hown hts hK hA hN hV hl.1 (c_X2_run l D f cA n tx T C K P L u ua ub pm jm lm du lt hh pr ja rs os (xs (i + 1)) (by first | omega | assumption) (by first | omega | assumption) (by first | omega | assumption) (by first | omega | assumption) (by first | omega | assumption) (by first | omega | assumption)) gL_law_X2_run rfl rfl rfl hdX2_run ⟨Nat.le_of_ble_eq_true rfl, Nat.le_of_ble_eq_true rfl⟩ 14 2 rfl rfl rfl rfl rfl (Nat.le_of_ble_eq_true rfl) dL_law_531 ⟨Nat.le_of_ble_eq_true rfl, Nat.le_of_ble_eq_true rfl⟩ (fun r W1 H locs hp hV => ?_)
  obtain ⟨hp1, rs3, os3, lt3, hp2⟩ := hp
  replace hp1 := hp1.symm
  subst hp1
  replace hp2 := hp2.symm
  subst hp2
  have hV : qV D A s.heap ((wC h (g 0) (k 0) cA n tx T C K L P u ua ub) ++ (wT g cA (((yRn tx P T C K n (xs (i + 1)) (pm, jm, lm, du, pr, ja))).1) (((yRn tx P T C K n (xs (i + 1)) (pm, jm, lm, du, pr, ja))).2.1) (((yRn tx P T C K n (xs (i + 1)) (pm, jm, lm, du, pr, ja))).2.2.1) (((yRn tx P T C K n (xs (i + 1)) (pm, jm, lm, du, pr, ja))).2.2.2.1) (((yRn tx P T C K n (xs (i + 1)) (pm, jm, lm, du, pr, ja))).2.2.2.2.1) (((yRn tx P T C K n (xs (i + 1)) (pm, jm, lm, du, pr, ja))).2.2.2.2.2) rt3) ++ (wT k cA pm2 jm2 lm2 du2 pr2 ja2 rt2) ++ (wD f cA n tx T C K P L u ua ub (((yRn tx P T C K n (xs (i + 1)) (pm, jm, lm, du, pr, ja))).1) (((yRn tx P T C K n (xs (i + 1)) (pm, jm, lm, du, pr, ja))).2.1) (((yRn tx P T C K n (xs (i + 1)) (pm, jm, lm, du, pr, ja))).2.2.1) (((yRn tx P T C K n (xs (i + 1)) (pm, jm, lm, du, pr, ja))).2.2.2.1) lt3 hh) ++ (wY f cA (((yRn tx P T C K n (xs (i + 1)) (pm, jm, lm, du, pr, ja))).2.2.2.2.1) (((yRn tx P T C K n (xs (i + 1)) (pm, jm, lm, du, pr, ja))).2.2.2.2.2) rs3 os3)) H locs := hV
  have hV : qV D A s.heap ((wC h (g 0) (k 0) cA n tx T C K L P u ua ub) ++ (wT g cA (((yRn tx P T C K n (xs (i + 1)) (pm, jm, lm, du, pr, ja))).1) (((yRn tx P T C K n (xs (i + 1)) (pm, jm, lm, du, pr, ja))).2.1) (((yRn tx P T C K n (xs (i + 1)) (pm, jm, lm, du, pr, ja))).2.2.1) (((yRn tx P T C K n (xs (i + 1)) (pm, jm, lm, du, pr, ja))).2.2.2.1) (((yRn tx P T C K n (xs (i + 1)) (pm, jm, lm, du, pr, ja))).2.2.2.2.1) (((yRn tx P T C K n (xs (i + 1)) (pm, jm, lm, du, pr, ja))).2.2.2.2.2) rt3) ++ (wT k cA pm2 jm2 lm2 du2 pr2 ja2 rt2) ++ (wD f cA n tx T C K P L u ua ub (((yRn tx P T C K n (xs (i + 1)) (pm, jm, lm, du, pr, ja))).1) (((yRn tx P T C K n (xs (i + 1)) (pm, jm, lm, du, pr, ja))).2.1) (((yRn tx P T C K n (xs (i + 1)) (pm, jm, lm, du, pr, ja))).2.2.1) (((yRn tx P T C K n (xs (i + 1)) (pm, jm, lm, du, pr, ja))).2.2.2.1) lt3 hh) ++ (wY f cA (((yRn tx P T C K n (xs (i + 1)) (pm, jm, lm, du, pr, ja))).2.2.2.2.1) (((yRn tx P T C K n (xs (i + 1)) (pm, jm, lm, du, pr, ja))).2.2.2.2.2) rs3 os3)) H locs := hV.sub [0, 1, 2, 3, 4, 5, 6, 7, 8, 9, 10, 11, 12, 13, 14, 15, 16, 17, 18, 19, 20, 21, 22, 23] rfl rfl
  refine z_icmp_eq (tgt := 651) hx hb dL_law_534 (by decide) (fun _ => ?_) (fun c1 => absurd rfl c1)
  exact ih _ _ _ _ _ _ _ _ _ _ _ _ _ _ _ _ _ _ _ _ _ _ _ _ _ _ _ _ (hI.run P (xs (i + 1))) _ _ _ hV hl
set_option maxHeartbeats 4000000 in
set_option maxRecDepth 100000 in
theorem lc_19 {p : Program} {e : Env} {s : State} {m : MethodId} {below : List Frame} {meth : Method} {c : Code} (l : Launch) {b Ln : Nat} {xs : Nat → Int32} (hL : Ln ≤ 1536) (C0 : lw_At p s m meth c b Ln xs) (D : va_G) (cA : ClassId) (A : Nat → Prop) (hA : ∀ q, s.heap.size ≤ q → A q) (hbA : ¬ A b) (hK : va_K D vwCl [(cA, .int)] s) (hN : nW s) (h g k f : Nat → Nat) (i : Nat) (hi : i + 3 ≤ Ln) (ih : LK p l e s m below meth c b D cA A h g k f i) (n : Nat) (tx : Nat → Nat) (T : Nat) (C : Nat) (K : Nat) (L : Nat → Nat) (P : Nat → Nat) (u : Nat) (ua : Nat → Nat) (ub : Nat → Nat) (pm : Nat) (jm : Nat) (lm : Nat) (du : Nat) (pr : Nat → Nat) (ja : Nat → Nat) (rt : Nat → Nat) (pm2 : Nat) (jm2 : Nat) (lm2 : Nat) (du2 : Nat) (pr2 : Nat → Nat) (ja2 : Nat → Nat) (rt2 : Nat → Nat) (lt : Nat) (hh : Int64) (rs : Nat → Nat) (os : Nat → Nat) (hI : sInv n tx T C K (L, P, u, ua, ub) (pm, jm, lm, du, pr, ja)) (H : Heap) (locs : List Loc) (ls : Array Slot) (hV : qV D A s.heap ((wC h (g 0) (k 0) cA n tx T C K L P u ua ub) ++ (wT g cA pm jm lm du pr ja rt) ++ (wT k cA pm2 jm2 lm2 du2 pr2 ja2 rt2) ++ (wD f cA n tx T C K P L u ua ub pm jm lm du lt hh) ++ (wY f cA pr ja rs os)) H locs) (hl : lv_has ls 4 [(0, .ref b), (1, .ref (h 0)), (2, .ref (f 0)), (3, .int (nI i))]) : W p l e room_1 s m #[Value.ref b] below meth c H locs 24 792 (lw_Z below #[Value.ref b] s) (F0 m 539 ls []) := by
  obtain ⟨hx, hb, hr, hml, hown, hts, hX, hbl, hlocks, hgv⟩ := id C0
  have hts : ∀ w ∈ wsL_law, w.before #[Value.ref b] s = true := fun w h => hts w (wsL_law_in w h)
  have hown : s.vm.findClass RL = some m.cls := hown
  obtain ⟨hn, htx, hT, hC, hK5, ⟨hp, hu, hua, hub⟩, h_pm, h_jm⟩ := id hI
  refine lv_aload_n hx hb dL_law_539 rfl (lv_at hl 1 rfl) ?_
  have hV : qV D A s.heap ((wT k cA pm2 jm2 lm2 du2 pr2 ja2 rt2) ++ (wD f cA n tx T C K P L u ua ub pm jm lm du lt hh) ++ (wY f cA pr ja rs os) ++ (wC h (g 0) (k 0) cA n tx T C K L P u ua ub) ++ (wT g cA pm jm lm du pr ja rt)) H locs := hV.sub [10, 11, 12, 13, 14, 15, 16, 17, 18, 19, 20, 21, 22, 23, 0, 1, 2, 3, 4, 5, 6, 7, 8, 9] rfl rfl
  refine k_V_i (w0 := (wT k cA pm2 jm2 lm2 du2 pr2 ja2 rt2) ++ (wD f cA n tx T C K P L u ua ub pm jm lm du lt hh) ++ (wY f cA pr ja rs os)) (wc := (wC h (g 0) (k 0) cA n tx T C K L P u ua ub) ++ (wT g cA pm jm lm du pr ja rt)) (b := h 0) (As := []) (rest := []) hx hb hml hown hts hK hA hN hV hl.1 (c_X1_jams l D h (k 0) cA n tx T C K L P u ua ub g pm jm lm du pr ja rt  ) gL_law_X1_jams rfl rfl rfl hdX1_jams ⟨Nat.le_of_ble_eq_true rfl, Nat.le_of_ble_eq_true rfl⟩ 14 1 rfl rfl rfl rfl rfl (Nat.le_of_ble_eq_true rfl) dL_law_540 ⟨Nat.le_of_ble_eq_true rfl, Nat.le_of_ble_eq_true rfl⟩ (fun r W1 H locs hp hV => ?_)
  obtain ⟨hp1, hp2⟩ := hp
  replace hp1 := hp1.symm
  subst hp1
  replace hp2 := hp2.symm
  subst hp2
  have hV : qV D A s.heap ((wT k cA pm2 jm2 lm2 du2 pr2 ja2 rt2) ++ (wD f cA n tx T C K P L u ua ub pm jm lm du lt hh) ++ (wY f cA pr ja rs os) ++ (wC h (g 0) (k 0) cA n tx T C K L P u ua ub) ++ (wT g cA pm jm lm du pr ja rt)) H locs := hV
  have hV : qV D A s.heap ((wC h (g 0) (k 0) cA n tx T C K L P u ua ub) ++ (wT g cA pm jm lm du pr ja rt) ++ (wT k cA pm2 jm2 lm2 du2 pr2 ja2 rt2) ++ (wD f cA n tx T C K P L u ua ub pm jm lm du lt hh) ++ (wY f cA pr ja rs os)) H locs := hV.sub [14, 15, 16, 17, 18, 19, 20, 21, 22, 23, 0, 1, 2, 3, 4, 5, 6, 7, 8, 9, 10, 11, 12, 13] rfl rfl
  refine lv_aload_n hx hb dL_law_543 rfl (lv_at hl 2 rfl) ?_
  have hV : qV D A s.heap ((wC h (g 0) (k 0) cA n tx T C K L P u ua ub) ++ (wT g cA pm jm lm du pr ja rt) ++ (wT k cA pm2 jm2 lm2 du2 pr2 ja2 rt2) ++ (wY f cA pr ja rs os) ++ (wD f cA n tx T C K P L u ua ub pm jm lm du lt hh)) H locs := hV.sub [0, 1, 2, 3, 4, 5, 6, 7, 8, 9, 10, 11, 12, 13, 20, 21, 22, 23, 14, 15, 16, 17, 18, 19] rfl rfl
  refine k_V_i (w0 := (wC h (g 0) (k 0) cA n tx T C K L P u ua ub) ++ (wT g cA pm jm lm du pr ja rt) ++ (wT k cA pm2 jm2 lm2 du2 pr2 ja2 rt2) ++ (wY f cA pr ja rs os)) (wc := wD f cA n tx T C K P L u ua ub pm jm lm du lt hh) (b := f 0) (As := []) (rest := [.int (nI jm)]) hx hb hml hown hts hK hA hN hV hl.1 (c_X2_jams l D f cA n tx T C K P L u ua ub pm jm lm du lt hh  ) gL_law_X2_jams rfl rfl rfl hdX2_jams ⟨Nat.le_of_ble_eq_true rfl, Nat.le_of_ble_eq_true rfl⟩ 18 2 rfl rfl rfl rfl rfl (Nat.le_of_ble_eq_true rfl) dL_law_544 ⟨Nat.le_of_ble_eq_true rfl, Nat.le_of_ble_eq_true rfl⟩ (fun r W1 H locs hp hV => ?_)
  obtain ⟨hp1, hp2⟩ := hp
  replace hp1 := hp1.symm
  subst hp1
  replace hp2 := hp2.symm
  subst hp2
  have hV : qV D A s.heap ((wC h (g 0) (k 0) cA n tx T C K L P u ua ub) ++ (wT g cA pm jm lm du pr ja rt) ++ (wT k cA pm2 jm2 lm2 du2 pr2 ja2 rt2) ++ (wY f cA pr ja rs os) ++ (wD f cA n tx T C K P L u ua ub pm jm lm du lt hh)) H locs := hV
  have hV : qV D A s.heap ((wC h (g 0) (k 0) cA n tx T C K L P u ua ub) ++ (wT g cA pm jm lm du pr ja rt) ++ (wT k cA pm2 jm2 lm2 du2 pr2 ja2 rt2) ++ (wD f cA n tx T C K P L u ua ub pm jm lm du lt hh) ++ (wY f cA pr ja rs os)) H locs := hV.sub [0, 1, 2, 3, 4, 5, 6, 7, 8, 9, 10, 11, 12, 13, 18, 19, 20, 21, 22, 23, 14, 15, 16, 17] rfl rfl
  refine z_icmp_eq (tgt := 651) hx hb dL_law_547 (by decide) (fun _ => ?_) (fun c1 => absurd rfl c1)
  exact ih _ _ _ _ _ _ _ _ _ _ _ _ _ _ _ _ _ _ _ _ _ _ _ _ _ _ _ _ (hI) _ _ _ hV hl
set_option maxHeartbeats 4000000 in
set_option maxRecDepth 100000 in
theorem lc_20 {p : Program} {e : Env} {s : State} {m : MethodId} {below : List Frame} {meth : Method} {c : Code} (l : Launch) {b Ln : Nat} {xs : Nat → Int32} (hL : Ln ≤ 1536) (C0 : lw_At p s m meth c b Ln xs) (D : va_G) (cA : ClassId) (A : Nat → Prop) (hA : ∀ q, s.heap.size ≤ q → A q) (hbA : ¬ A b) (hK : va_K D vwCl [(cA, .int)] s) (hN : nW s) (h g k f : Nat → Nat) (i : Nat) (hi : i + 3 ≤ Ln) (ih : LK p l e s m below meth c b D cA A h g k f i) (n : Nat) (tx : Nat → Nat) (T : Nat) (C : Nat) (K : Nat) (L : Nat → Nat) (P : Nat → Nat) (u : Nat) (ua : Nat → Nat) (ub : Nat → Nat) (pm : Nat) (jm : Nat) (lm : Nat) (du : Nat) (pr : Nat → Nat) (ja : Nat → Nat) (rt : Nat → Nat) (pm2 : Nat) (jm2 : Nat) (lm2 : Nat) (du2 : Nat) (pr2 : Nat → Nat) (ja2 : Nat → Nat) (rt2 : Nat → Nat) (lt : Nat) (hh : Int64) (rs : Nat → Nat) (os : Nat → Nat) (hI : sInv n tx T C K (L, P, u, ua, ub) (pm, jm, lm, du, pr, ja)) (H : Heap) (locs : List Loc) (ls : Array Slot) (hV : qV D A s.heap ((wC h (g 0) (k 0) cA n tx T C K L P u ua ub) ++ (wT g cA pm jm lm du pr ja rt) ++ (wT k cA pm2 jm2 lm2 du2 pr2 ja2 rt2) ++ (wD f cA n tx T C K P L u ua ub pm jm lm du lt hh) ++ (wY f cA pr ja rs os)) H locs) (hl : lv_has ls 4 [(0, .ref b), (1, .ref (h 0)), (2, .ref (f 0)), (3, .int (nI i))]) : W p l e room_1 s m #[Value.ref b] below meth c H locs 24 792 (lw_Z below #[Value.ref b] s) (F0 m 552 ls []) := by
  obtain ⟨hx, hb, hr, hml, hown, hts, hX, hbl, hlocks, hgv⟩ := id C0
  have hts : ∀ w ∈ wsL_law, w.before #[Value.ref b] s = true := fun w h => hts w (wsL_law_in w h)
  have hown : s.vm.findClass RL = some m.cls := hown
  obtain ⟨hn, htx, hT, hC, hK5, ⟨hp, hu, hua, hub⟩, h_pm, h_jm⟩ := id hI
  refine lv_aload_n hx hb dL_law_552 rfl (lv_at hl 1 rfl) ?_
  have hV : qV D A s.heap ((wT k cA pm2 jm2 lm2 du2 pr2 ja2 rt2) ++ (wD f cA n tx T C K P L u ua ub pm jm lm du lt hh) ++ (wY f cA pr ja rs os) ++ (wC h (g 0) (k 0) cA n tx T C K L P u ua ub) ++ (wT g cA pm jm lm du pr ja rt)) H locs := hV.sub [10, 11, 12, 13, 14, 15, 16, 17, 18, 19, 20, 21, 22, 23, 0, 1, 2, 3, 4, 5, 6, 7, 8, 9] rfl rfl
  refine k_V_i (w0 := (wT k cA pm2 jm2 lm2 du2 pr2 ja2 rt2) ++ (wD f cA n tx T C K P L u ua ub pm jm lm du lt hh) ++ (wY f cA pr ja rs os)) (wc := (wC h (g 0) (k 0) cA n tx T C K L P u ua ub) ++ (wT g cA pm jm lm du pr ja rt)) (b := h 0) (As := []) (rest := []) hx hb hml hown hts hK hA hN hV hl.1 (c_X1_lost l D h (k 0) cA n tx T C K L P u ua ub g pm jm lm du pr ja rt  ) gL_law_X1_lost rfl rfl rfl hdX1_lost ⟨Nat.le_of_ble_eq_true rfl, Nat.le_of_ble_eq_true rfl⟩ 14 1 rfl rfl rfl rfl rfl (Nat.le_of_ble_eq_true rfl) dL_law_553 ⟨Nat.le_of_ble_eq_true rfl, Nat.le_of_ble_eq_true rfl⟩ (fun r W1 H locs hp hV => ?_)
  obtain ⟨hp1, hp2⟩ := hp
  replace hp1 := hp1.symm
  subst hp1
  replace hp2 := hp2.symm
  subst hp2
  have hV : qV D A s.heap ((wT k cA pm2 jm2 lm2 du2 pr2 ja2 rt2) ++ (wD f cA n tx T C K P L u ua ub pm jm lm du lt hh) ++ (wY f cA pr ja rs os) ++ (wC h (g 0) (k 0) cA n tx T C K L P u ua ub) ++ (wT g cA pm jm lm du pr ja rt)) H locs := hV
  have hV : qV D A s.heap ((wC h (g 0) (k 0) cA n tx T C K L P u ua ub) ++ (wT g cA pm jm lm du pr ja rt) ++ (wT k cA pm2 jm2 lm2 du2 pr2 ja2 rt2) ++ (wD f cA n tx T C K P L u ua ub pm jm lm du lt hh) ++ (wY f cA pr ja rs os)) H locs := hV.sub [14, 15, 16, 17, 18, 19, 20, 21, 22, 23, 0, 1, 2, 3, 4, 5, 6, 7, 8, 9, 10, 11, 12, 13] rfl rfl
  refine lv_aload_n hx hb dL_law_556 rfl (lv_at hl 2 rfl) ?_
  have hV : qV D A s.heap ((wC h (g 0) (k 0) cA n tx T C K L P u ua ub) ++ (wT g cA pm jm lm du pr ja rt) ++ (wT k cA pm2 jm2 lm2 du2 pr2 ja2 rt2) ++ (wY f cA pr ja rs os) ++ (wD f cA n tx T C K P L u ua ub pm jm lm du lt hh)) H locs := hV.sub [0, 1, 2, 3, 4, 5, 6, 7, 8, 9, 10, 11, 12, 13, 20, 21, 22, 23, 14, 15, 16, 17, 18, 19] rfl rfl
  refine k_V_i (w0 := (wC h (g 0) (k 0) cA n tx T C K L P u ua ub) ++ (wT g cA pm jm lm du pr ja rt) ++ (wT k cA pm2 jm2 lm2 du2 pr2 ja2 rt2) ++ (wY f cA pr ja rs os)) (wc := wD f cA n tx T C K P L u ua ub pm jm lm du lt hh) (b := f 0) (As := []) (rest := [.int (nI lm)]) hx hb hml hown hts hK hA hN hV hl.1 (c_X2_lost l D f cA n tx T C K P L u ua ub pm jm lm du lt hh  ) gL_law_X2_lost rfl rfl rfl hdX2_lost ⟨Nat.le_of_ble_eq_true rfl, Nat.le_of_ble_eq_true rfl⟩ 18 2 rfl rfl rfl rfl rfl (Nat.le_of_ble_eq_true rfl) dL_law_557 ⟨Nat.le_of_ble_eq_true rfl, Nat.le_of_ble_eq_true rfl⟩ (fun r W1 H locs hp hV => ?_)
  obtain ⟨hp1, hp2⟩ := hp
  replace hp1 := hp1.symm
  subst hp1
  replace hp2 := hp2.symm
  subst hp2
  have hV : qV D A s.heap ((wC h (g 0) (k 0) cA n tx T C K L P u ua ub) ++ (wT g cA pm jm lm du pr ja rt) ++ (wT k cA pm2 jm2 lm2 du2 pr2 ja2 rt2) ++ (wY f cA pr ja rs os) ++ (wD f cA n tx T C K P L u ua ub pm jm lm du lt hh)) H locs := hV
  have hV : qV D A s.heap ((wC h (g 0) (k 0) cA n tx T C K L P u ua ub) ++ (wT g cA pm jm lm du pr ja rt) ++ (wT k cA pm2 jm2 lm2 du2 pr2 ja2 rt2) ++ (wD f cA n tx T C K P L u ua ub pm jm lm du lt hh) ++ (wY f cA pr ja rs os)) H locs := hV.sub [0, 1, 2, 3, 4, 5, 6, 7, 8, 9, 10, 11, 12, 13, 18, 19, 20, 21, 22, 23, 14, 15, 16, 17] rfl rfl
  refine z_icmp_eq (tgt := 651) hx hb dL_law_560 (by decide) (fun _ => ?_) (fun c1 => absurd rfl c1)
  exact ih _ _ _ _ _ _ _ _ _ _ _ _ _ _ _ _ _ _ _ _ _ _ _ _ _ _ _ _ (hI) _ _ _ hV hl
set_option maxHeartbeats 4000000 in
set_option maxRecDepth 100000 in
theorem lc_21 {p : Program} {e : Env} {s : State} {m : MethodId} {below : List Frame} {meth : Method} {c : Code} (l : Launch) {b Ln : Nat} {xs : Nat → Int32} (hL : Ln ≤ 1536) (C0 : lw_At p s m meth c b Ln xs) (D : va_G) (cA : ClassId) (A : Nat → Prop) (hA : ∀ q, s.heap.size ≤ q → A q) (hbA : ¬ A b) (hK : va_K D vwCl [(cA, .int)] s) (hN : nW s) (h g k f : Nat → Nat) (i : Nat) (hi : i + 3 ≤ Ln) (ih : LK p l e s m below meth c b D cA A h g k f i) (n : Nat) (tx : Nat → Nat) (T : Nat) (C : Nat) (K : Nat) (L : Nat → Nat) (P : Nat → Nat) (u : Nat) (ua : Nat → Nat) (ub : Nat → Nat) (pm : Nat) (jm : Nat) (lm : Nat) (du : Nat) (pr : Nat → Nat) (ja : Nat → Nat) (rt : Nat → Nat) (pm2 : Nat) (jm2 : Nat) (lm2 : Nat) (du2 : Nat) (pr2 : Nat → Nat) (ja2 : Nat → Nat) (rt2 : Nat → Nat) (lt : Nat) (hh : Int64) (rs : Nat → Nat) (os : Nat → Nat) (hI : sInv n tx T C K (L, P, u, ua, ub) (pm, jm, lm, du, pr, ja)) (H : Heap) (locs : List Loc) (ls : Array Slot) (hV : qV D A s.heap ((wC h (g 0) (k 0) cA n tx T C K L P u ua ub) ++ (wT g cA pm jm lm du pr ja rt) ++ (wT k cA pm2 jm2 lm2 du2 pr2 ja2 rt2) ++ (wD f cA n tx T C K P L u ua ub pm jm lm du lt hh) ++ (wY f cA pr ja rs os)) H locs) (hl : lv_has ls 4 [(0, .ref b), (1, .ref (h 0)), (2, .ref (f 0)), (3, .int (nI i))]) : W p l e room_1 s m #[Value.ref b] below meth c H locs 24 792 (lw_Z below #[Value.ref b] s) (F0 m 565 ls []) := by
  obtain ⟨hx, hb, hr, hml, hown, hts, hX, hbl, hlocks, hgv⟩ := id C0
  have hts : ∀ w ∈ wsL_law, w.before #[Value.ref b] s = true := fun w h => hts w (wsL_law_in w h)
  have hown : s.vm.findClass RL = some m.cls := hown
  obtain ⟨hn, htx, hT, hC, hK5, ⟨hp, hu, hua, hub⟩, h_pm, h_jm⟩ := id hI
  refine lv_aload_n hx hb dL_law_565 rfl (lv_at hl 1 rfl) ?_
  have hV : qV D A s.heap ((wT k cA pm2 jm2 lm2 du2 pr2 ja2 rt2) ++ (wD f cA n tx T C K P L u ua ub pm jm lm du lt hh) ++ (wY f cA pr ja rs os) ++ (wC h (g 0) (k 0) cA n tx T C K L P u ua ub) ++ (wT g cA pm jm lm du pr ja rt)) H locs := hV.sub [10, 11, 12, 13, 14, 15, 16, 17, 18, 19, 20, 21, 22, 23, 0, 1, 2, 3, 4, 5, 6, 7, 8, 9] rfl rfl
  refine k_V_i (w0 := (wT k cA pm2 jm2 lm2 du2 pr2 ja2 rt2) ++ (wD f cA n tx T C K P L u ua ub pm jm lm du lt hh) ++ (wY f cA pr ja rs os)) (wc := (wC h (g 0) (k 0) cA n tx T C K L P u ua ub) ++ (wT g cA pm jm lm du pr ja rt)) (b := h 0) (As := []) (rest := []) hx hb hml hown hts hK hA hN hV hl.1 (c_X1_duration l D h (k 0) cA n tx T C K L P u ua ub g pm jm lm du pr ja rt  ) gL_law_X1_duration rfl rfl rfl hdX1_duration ⟨Nat.le_of_ble_eq_true rfl, Nat.le_of_ble_eq_true rfl⟩ 14 1 rfl rfl rfl rfl rfl (Nat.le_of_ble_eq_true rfl) dL_law_566 ⟨Nat.le_of_ble_eq_true rfl, Nat.le_of_ble_eq_true rfl⟩ (fun r W1 H locs hp hV => ?_)
  obtain ⟨hp1, hp2⟩ := hp
  replace hp1 := hp1.symm
  subst hp1
  replace hp2 := hp2.symm
  subst hp2
  have hV : qV D A s.heap ((wT k cA pm2 jm2 lm2 du2 pr2 ja2 rt2) ++ (wD f cA n tx T C K P L u ua ub pm jm lm du lt hh) ++ (wY f cA pr ja rs os) ++ (wC h (g 0) (k 0) cA n tx T C K L P u ua ub) ++ (wT g cA pm jm lm du pr ja rt)) H locs := hV
  have hV : qV D A s.heap ((wC h (g 0) (k 0) cA n tx T C K L P u ua ub) ++ (wT g cA pm jm lm du pr ja rt) ++ (wT k cA pm2 jm2 lm2 du2 pr2 ja2 rt2) ++ (wD f cA n tx T C K P L u ua ub pm jm lm du lt hh) ++ (wY f cA pr ja rs os)) H locs := hV.sub [14, 15, 16, 17, 18, 19, 20, 21, 22, 23, 0, 1, 2, 3, 4, 5, 6, 7, 8, 9, 10, 11, 12, 13] rfl rfl
  refine lv_aload_n hx hb dL_law_569 rfl (lv_at hl 2 rfl) ?_
  have hV : qV D A s.heap ((wC h (g 0) (k 0) cA n tx T C K L P u ua ub) ++ (wT g cA pm jm lm du pr ja rt) ++ (wT k cA pm2 jm2 lm2 du2 pr2 ja2 rt2) ++ (wY f cA pr ja rs os) ++ (wD f cA n tx T C K P L u ua ub pm jm lm du lt hh)) H locs := hV.sub [0, 1, 2, 3, 4, 5, 6, 7, 8, 9, 10, 11, 12, 13, 20, 21, 22, 23, 14, 15, 16, 17, 18, 19] rfl rfl
  refine k_V_i (w0 := (wC h (g 0) (k 0) cA n tx T C K L P u ua ub) ++ (wT g cA pm jm lm du pr ja rt) ++ (wT k cA pm2 jm2 lm2 du2 pr2 ja2 rt2) ++ (wY f cA pr ja rs os)) (wc := wD f cA n tx T C K P L u ua ub pm jm lm du lt hh) (b := f 0) (As := []) (rest := [.int (nI du)]) hx hb hml hown hts hK hA hN hV hl.1 (c_X2_duration l D f cA n tx T C K P L u ua ub pm jm lm du lt hh  ) gL_law_X2_duration rfl rfl rfl hdX2_duration ⟨Nat.le_of_ble_eq_true rfl, Nat.le_of_ble_eq_true rfl⟩ 18 2 rfl rfl rfl rfl rfl (Nat.le_of_ble_eq_true rfl) dL_law_570 ⟨Nat.le_of_ble_eq_true rfl, Nat.le_of_ble_eq_true rfl⟩ (fun r W1 H locs hp hV => ?_)
  obtain ⟨hp1, hp2⟩ := hp
  replace hp1 := hp1.symm
  subst hp1
  replace hp2 := hp2.symm
  subst hp2
  have hV : qV D A s.heap ((wC h (g 0) (k 0) cA n tx T C K L P u ua ub) ++ (wT g cA pm jm lm du pr ja rt) ++ (wT k cA pm2 jm2 lm2 du2 pr2 ja2 rt2) ++ (wY f cA pr ja rs os) ++ (wD f cA n tx T C K P L u ua ub pm jm lm du lt hh)) H locs := hV
  have hV : qV D A s.heap ((wC h (g 0) (k 0) cA n tx T C K L P u ua ub) ++ (wT g cA pm jm lm du pr ja rt) ++ (wT k cA pm2 jm2 lm2 du2 pr2 ja2 rt2) ++ (wD f cA n tx T C K P L u ua ub pm jm lm du lt hh) ++ (wY f cA pr ja rs os)) H locs := hV.sub [0, 1, 2, 3, 4, 5, 6, 7, 8, 9, 10, 11, 12, 13, 18, 19, 20, 21, 22, 23, 14, 15, 16, 17] rfl rfl
  refine z_icmp_eq (tgt := 651) hx hb dL_law_573 (by decide) (fun _ => ?_) (fun c1 => absurd rfl c1)
  exact ih _ _ _ _ _ _ _ _ _ _ _ _ _ _ _ _ _ _ _ _ _ _ _ _ _ _ _ _ (hI) _ _ _ hV hl
set_option maxHeartbeats 4000000 in
set_option maxRecDepth 100000 in
theorem lc_22 {p : Program} {e : Env} {s : State} {m : MethodId} {below : List Frame} {meth : Method} {c : Code} (l : Launch) {b Ln : Nat} {xs : Nat → Int32} (hL : Ln ≤ 1536) (C0 : lw_At p s m meth c b Ln xs) (D : va_G) (cA : ClassId) (A : Nat → Prop) (hA : ∀ q, s.heap.size ≤ q → A q) (hbA : ¬ A b) (hK : va_K D vwCl [(cA, .int)] s) (hN : nW s) (h g k f : Nat → Nat) (i : Nat) (hi : i + 3 ≤ Ln) (ih : LK p l e s m below meth c b D cA A h g k f i) (n : Nat) (tx : Nat → Nat) (T : Nat) (C : Nat) (K : Nat) (L : Nat → Nat) (P : Nat → Nat) (u : Nat) (ua : Nat → Nat) (ub : Nat → Nat) (pm : Nat) (jm : Nat) (lm : Nat) (du : Nat) (pr : Nat → Nat) (ja : Nat → Nat) (rt : Nat → Nat) (pm2 : Nat) (jm2 : Nat) (lm2 : Nat) (du2 : Nat) (pr2 : Nat → Nat) (ja2 : Nat → Nat) (rt2 : Nat → Nat) (lt : Nat) (hh : Int64) (rs : Nat → Nat) (os : Nat → Nat) (hI : sInv n tx T C K (L, P, u, ua, ub) (pm, jm, lm, du, pr, ja)) (H : Heap) (locs : List Loc) (ls : Array Slot) (hV : qV D A s.heap ((wC h (g 0) (k 0) cA n tx T C K L P u ua ub) ++ (wT g cA pm jm lm du pr ja rt) ++ (wT k cA pm2 jm2 lm2 du2 pr2 ja2 rt2) ++ (wD f cA n tx T C K P L u ua ub pm jm lm du lt hh) ++ (wY f cA pr ja rs os)) H locs) (hl : lv_has ls 4 [(0, .ref b), (1, .ref (h 0)), (2, .ref (f 0)), (3, .int (nI i))]) : W p l e room_1 s m #[Value.ref b] below meth c H locs 24 792 (lw_Z below #[Value.ref b] s) (F0 m 578 ls []) := by
  obtain ⟨hx, hb, hr, hml, hown, hts, hX, hbl, hlocks, hgv⟩ := id C0
  have hts : ∀ w ∈ wsL_law, w.before #[Value.ref b] s = true := fun w h => hts w (wsL_law_in w h)
  have hown : s.vm.findClass RL = some m.cls := hown
  obtain ⟨hn, htx, hT, hC, hK5, ⟨hp, hu, hua, hub⟩, h_pm, h_jm⟩ := id hI
  refine lv_aload_n hx hb dL_law_578 rfl (lv_at hl 1 rfl) ?_
  refine lv_aload_n hx hb dL_law_579 rfl (lv_at hl 0 rfl) ?_
  refine lv_iload_n hx hb dL_law_580 rfl (lv_at hl 3 rfl) ?_
  refine lv_iconst (v := nI 1) hx hb dL_law_581 (by decide) ?_
  refine q_iadd2 (x := i) (y := 1) (z := i + 1) hx hb (by omega) dL_law_582 ?_
  refine q_sld (k := i + 1) hx hb hX hbl hbA hV.2.2 (by omega) (by omega) dL_law_583 ?_
  have hV : qV D A s.heap ((wT k cA pm2 jm2 lm2 du2 pr2 ja2 rt2) ++ (wD f cA n tx T C K P L u ua ub pm jm lm du lt hh) ++ (wY f cA pr ja rs os) ++ (wC h (g 0) (k 0) cA n tx T C K L P u ua ub) ++ (wT g cA pm jm lm du pr ja rt)) H locs := hV.sub [10, 11, 12, 13, 14, 15, 16, 17, 18, 19, 20, 21, 22, 23, 0, 1, 2, 3, 4, 5, 6, 7, 8, 9] rfl rfl
  refine k_V_i (w0 := (wT k cA pm2 jm2 lm2 du2 pr2 ja2 rt2) ++ (wD f cA n tx T C K P L u ua ub pm jm lm du lt hh) ++ (wY f cA pr ja rs os)) (wc := (wC h (g 0) (k 0) cA n tx T C K L P u ua ub) ++ (wT g cA pm jm lm du pr ja rt)) (b := h 0) (As := [.int (xs (i + 1))]) (rest := []) hx hb hml hown hts hK hA hN hV hl.1 (c_X1_printedLetter l D h (k 0) cA n tx T C K L P u ua ub g pm jm lm du pr ja rt (xs (i + 1)) (by first | omega | assumption)) gL_law_X1_printedLetter rfl rfl rfl hdX1_printedLetter ⟨Nat.le_of_ble_eq_true rfl, Nat.le_of_ble_eq_true rfl⟩ 14 1 rfl rfl rfl rfl rfl (Nat.le_of_ble_eq_true rfl) dL_law_584 ⟨Nat.le_of_ble_eq_true rfl, Nat.le_of_ble_eq_true rfl⟩ (fun r W1 H locs hp hV => ?_)
  obtain ⟨hp1, hp2⟩ := hp
  replace hp1 := hp1.symm
  subst hp1
  replace hp2 := hp2.symm
  subst hp2
  have hV : qV D A s.heap ((wT k cA pm2 jm2 lm2 du2 pr2 ja2 rt2) ++ (wD f cA n tx T C K P L u ua ub pm jm lm du lt hh) ++ (wY f cA pr ja rs os) ++ (wC h (g 0) (k 0) cA n tx T C K L P u ua ub) ++ (wT g cA pm jm lm du pr ja rt)) H locs := hV
  have hV : qV D A s.heap ((wC h (g 0) (k 0) cA n tx T C K L P u ua ub) ++ (wT g cA pm jm lm du pr ja rt) ++ (wT k cA pm2 jm2 lm2 du2 pr2 ja2 rt2) ++ (wD f cA n tx T C K P L u ua ub pm jm lm du lt hh) ++ (wY f cA pr ja rs os)) H locs := hV.sub [14, 15, 16, 17, 18, 19, 20, 21, 22, 23, 0, 1, 2, 3, 4, 5, 6, 7, 8, 9, 10, 11, 12, 13] rfl rfl
  refine lv_aload_n hx hb dL_law_587 rfl (lv_at hl 2 rfl) ?_
  refine lv_aload_n hx hb dL_law_588 rfl (lv_at hl 0 rfl) ?_
  refine lv_iload_n hx hb dL_law_589 rfl (lv_at hl 3 rfl) ?_
  refine lv_iconst (v := nI 1) hx hb dL_law_590 (by decide) ?_
  refine q_iadd2 (x := i) (y := 1) (z := i + 1) hx hb (by omega) dL_law_591 ?_
  refine q_sld (k := i + 1) hx hb hX hbl hbA hV.2.2 (by omega) (by omega) dL_law_592 ?_
  have hV : qV D A s.heap ((wC h (g 0) (k 0) cA n tx T C K L P u ua ub) ++ (wT g cA pm jm lm du pr ja rt) ++ (wT k cA pm2 jm2 lm2 du2 pr2 ja2 rt2) ++ (wD f cA n tx T C K P L u ua ub pm jm lm du lt hh) ++ (wY f cA pr ja rs os)) H locs := hV.sub [0, 1, 2, 3, 4, 5, 6, 7, 8, 9, 10, 11, 12, 13, 14, 15, 16, 17, 18, 19, 20, 21, 22, 23] rfl rfl
  refine k_V_i (w0 := (wC h (g 0) (k 0) cA n tx T C K L P u ua ub) ++ (wT g cA pm jm lm du pr ja rt) ++ (wT k cA pm2 jm2 lm2 du2 pr2 ja2 rt2)) (wc := (wD f cA n tx T C K P L u ua ub pm jm lm du lt hh) ++ (wY f cA pr ja rs os)) (b := f 0) (As := [.int (xs (i + 1))]) (rest := [.int (aIx pm pr (xs (i + 1)))]) hx hb hml hown hts hK hA hN hV hl.1 (c_X2_printedLetter l D f cA n tx T C K P L u ua ub pm jm lm du lt hh pr ja rs os (xs (i + 1)) (by first | omega | assumption)) gL_law_X2_printedLetter rfl rfl rfl hdX2_printedLetter ⟨Nat.le_of_ble_eq_true rfl, Nat.le_of_ble_eq_true rfl⟩ 14 2 rfl rfl rfl rfl rfl (Nat.le_of_ble_eq_true rfl) dL_law_593 ⟨Nat.le_of_ble_eq_true rfl, Nat.le_of_ble_eq_true rfl⟩ (fun r W1 H locs hp hV => ?_)
  obtain ⟨hp1, hp2⟩ := hp
  replace hp1 := hp1.symm
  subst hp1
  replace hp2 := hp2.symm
  subst hp2
  have hV : qV D A s.heap ((wC h (g 0) (k 0) cA n tx T C K L P u ua ub) ++ (wT g cA pm jm lm du pr ja rt) ++ (wT k cA pm2 jm2 lm2 du2 pr2 ja2 rt2) ++ (wD f cA n tx T C K P L u ua ub pm jm lm du lt hh) ++ (wY f cA pr ja rs os)) H locs := hV
  have hV : qV D A s.heap ((wC h (g 0) (k 0) cA n tx T C K L P u ua ub) ++ (wT g cA pm jm lm du pr ja rt) ++ (wT k cA pm2 jm2 lm2 du2 pr2 ja2 rt2) ++ (wD f cA n tx T C K P L u ua ub pm jm lm du lt hh) ++ (wY f cA pr ja rs os)) H locs := hV.sub [0, 1, 2, 3, 4, 5, 6, 7, 8, 9, 10, 11, 12, 13, 14, 15, 16, 17, 18, 19, 20, 21, 22, 23] rfl rfl
  refine z_icmp_eq (tgt := 651) hx hb dL_law_596 (by decide) (fun _ => ?_) (fun c1 => absurd rfl c1)
  exact ih _ _ _ _ _ _ _ _ _ _ _ _ _ _ _ _ _ _ _ _ _ _ _ _ _ _ _ _ (hI) _ _ _ hV hl
set_option maxHeartbeats 4000000 in
set_option maxRecDepth 100000 in
theorem lc_23 {p : Program} {e : Env} {s : State} {m : MethodId} {below : List Frame} {meth : Method} {c : Code} (l : Launch) {b Ln : Nat} {xs : Nat → Int32} (hL : Ln ≤ 1536) (C0 : lw_At p s m meth c b Ln xs) (D : va_G) (cA : ClassId) (A : Nat → Prop) (hA : ∀ q, s.heap.size ≤ q → A q) (hbA : ¬ A b) (hK : va_K D vwCl [(cA, .int)] s) (hN : nW s) (h g k f : Nat → Nat) (i : Nat) (hi : i + 3 ≤ Ln) (ih : LK p l e s m below meth c b D cA A h g k f i) (n : Nat) (tx : Nat → Nat) (T : Nat) (C : Nat) (K : Nat) (L : Nat → Nat) (P : Nat → Nat) (u : Nat) (ua : Nat → Nat) (ub : Nat → Nat) (pm : Nat) (jm : Nat) (lm : Nat) (du : Nat) (pr : Nat → Nat) (ja : Nat → Nat) (rt : Nat → Nat) (pm2 : Nat) (jm2 : Nat) (lm2 : Nat) (du2 : Nat) (pr2 : Nat → Nat) (ja2 : Nat → Nat) (rt2 : Nat → Nat) (lt : Nat) (hh : Int64) (rs : Nat → Nat) (os : Nat → Nat) (hI : sInv n tx T C K (L, P, u, ua, ub) (pm, jm, lm, du, pr, ja)) (H : Heap) (locs : List Loc) (ls : Array Slot) (hV : qV D A s.heap ((wC h (g 0) (k 0) cA n tx T C K L P u ua ub) ++ (wT g cA pm jm lm du pr ja rt) ++ (wT k cA pm2 jm2 lm2 du2 pr2 ja2 rt2) ++ (wD f cA n tx T C K P L u ua ub pm jm lm du lt hh) ++ (wY f cA pr ja rs os)) H locs) (hl : lv_has ls 4 [(0, .ref b), (1, .ref (h 0)), (2, .ref (f 0)), (3, .int (nI i))]) : W p l e room_1 s m #[Value.ref b] below meth c H locs 24 792 (lw_Z below #[Value.ref b] s) (F0 m 601 ls []) := by
  obtain ⟨hx, hb, hr, hml, hown, hts, hX, hbl, hlocks, hgv⟩ := id C0
  have hts : ∀ w ∈ wsL_law, w.before #[Value.ref b] s = true := fun w h => hts w (wsL_law_in w h)
  have hown : s.vm.findClass RL = some m.cls := hown
  obtain ⟨hn, htx, hT, hC, hK5, ⟨hp, hu, hua, hub⟩, h_pm, h_jm⟩ := id hI
  refine lv_aload_n hx hb dL_law_601 rfl (lv_at hl 1 rfl) ?_
  refine lv_aload_n hx hb dL_law_602 rfl (lv_at hl 0 rfl) ?_
  refine lv_iload_n hx hb dL_law_603 rfl (lv_at hl 3 rfl) ?_
  refine lv_iconst (v := nI 1) hx hb dL_law_604 (by decide) ?_
  refine q_iadd2 (x := i) (y := 1) (z := i + 1) hx hb (by omega) dL_law_605 ?_
  refine q_sld (k := i + 1) hx hb hX hbl hbA hV.2.2 (by omega) (by omega) dL_law_606 ?_
  have hV : qV D A s.heap ((wT k cA pm2 jm2 lm2 du2 pr2 ja2 rt2) ++ (wD f cA n tx T C K P L u ua ub pm jm lm du lt hh) ++ (wY f cA pr ja rs os) ++ (wC h (g 0) (k 0) cA n tx T C K L P u ua ub) ++ (wT g cA pm jm lm du pr ja rt)) H locs := hV.sub [10, 11, 12, 13, 14, 15, 16, 17, 18, 19, 20, 21, 22, 23, 0, 1, 2, 3, 4, 5, 6, 7, 8, 9] rfl rfl
  refine k_V_i (w0 := (wT k cA pm2 jm2 lm2 du2 pr2 ja2 rt2) ++ (wD f cA n tx T C K P L u ua ub pm jm lm du lt hh) ++ (wY f cA pr ja rs os)) (wc := (wC h (g 0) (k 0) cA n tx T C K L P u ua ub) ++ (wT g cA pm jm lm du pr ja rt)) (b := h 0) (As := [.int (xs (i + 1))]) (rest := []) hx hb hml hown hts hK hA hN hV hl.1 (c_X1_jammedKeystroke l D h (k 0) cA n tx T C K L P u ua ub g pm jm lm du pr ja rt (xs (i + 1)) (by first | omega | assumption)) gL_law_X1_jammedKeystroke rfl rfl rfl hdX1_jammedKeystroke ⟨Nat.le_of_ble_eq_true rfl, Nat.le_of_ble_eq_true rfl⟩ 14 1 rfl rfl rfl rfl rfl (Nat.le_of_ble_eq_true rfl) dL_law_607 ⟨Nat.le_of_ble_eq_true rfl, Nat.le_of_ble_eq_true rfl⟩ (fun r W1 H locs hp hV => ?_)
  obtain ⟨hp1, hp2⟩ := hp
  replace hp1 := hp1.symm
  subst hp1
  replace hp2 := hp2.symm
  subst hp2
  have hV : qV D A s.heap ((wT k cA pm2 jm2 lm2 du2 pr2 ja2 rt2) ++ (wD f cA n tx T C K P L u ua ub pm jm lm du lt hh) ++ (wY f cA pr ja rs os) ++ (wC h (g 0) (k 0) cA n tx T C K L P u ua ub) ++ (wT g cA pm jm lm du pr ja rt)) H locs := hV
  have hV : qV D A s.heap ((wC h (g 0) (k 0) cA n tx T C K L P u ua ub) ++ (wT g cA pm jm lm du pr ja rt) ++ (wT k cA pm2 jm2 lm2 du2 pr2 ja2 rt2) ++ (wD f cA n tx T C K P L u ua ub pm jm lm du lt hh) ++ (wY f cA pr ja rs os)) H locs := hV.sub [14, 15, 16, 17, 18, 19, 20, 21, 22, 23, 0, 1, 2, 3, 4, 5, 6, 7, 8, 9, 10, 11, 12, 13] rfl rfl
  refine lv_aload_n hx hb dL_law_610 rfl (lv_at hl 2 rfl) ?_
  refine lv_aload_n hx hb dL_law_611 rfl (lv_at hl 0 rfl) ?_
  refine lv_iload_n hx hb dL_law_612 rfl (lv_at hl 3 rfl) ?_
  refine lv_iconst (v := nI 1) hx hb dL_law_613 (by decide) ?_
  refine q_iadd2 (x := i) (y := 1) (z := i + 1) hx hb (by omega) dL_law_614 ?_
  refine q_sld (k := i + 1) hx hb hX hbl hbA hV.2.2 (by omega) (by omega) dL_law_615 ?_
  have hV : qV D A s.heap ((wC h (g 0) (k 0) cA n tx T C K L P u ua ub) ++ (wT g cA pm jm lm du pr ja rt) ++ (wT k cA pm2 jm2 lm2 du2 pr2 ja2 rt2) ++ (wD f cA n tx T C K P L u ua ub pm jm lm du lt hh) ++ (wY f cA pr ja rs os)) H locs := hV.sub [0, 1, 2, 3, 4, 5, 6, 7, 8, 9, 10, 11, 12, 13, 14, 15, 16, 17, 18, 19, 20, 21, 22, 23] rfl rfl
  refine k_V_i (w0 := (wC h (g 0) (k 0) cA n tx T C K L P u ua ub) ++ (wT g cA pm jm lm du pr ja rt) ++ (wT k cA pm2 jm2 lm2 du2 pr2 ja2 rt2)) (wc := (wD f cA n tx T C K P L u ua ub pm jm lm du lt hh) ++ (wY f cA pr ja rs os)) (b := f 0) (As := [.int (xs (i + 1))]) (rest := [.int (aIx jm ja (xs (i + 1)))]) hx hb hml hown hts hK hA hN hV hl.1 (c_X2_jammedKeystroke l D f cA n tx T C K P L u ua ub pm jm lm du lt hh pr ja rs os (xs (i + 1)) (by first | omega | assumption)) gL_law_X2_jammedKeystroke rfl rfl rfl hdX2_jammedKeystroke ⟨Nat.le_of_ble_eq_true rfl, Nat.le_of_ble_eq_true rfl⟩ 14 2 rfl rfl rfl rfl rfl (Nat.le_of_ble_eq_true rfl) dL_law_616 ⟨Nat.le_of_ble_eq_true rfl, Nat.le_of_ble_eq_true rfl⟩ (fun r W1 H locs hp hV => ?_)
  obtain ⟨hp1, hp2⟩ := hp
  replace hp1 := hp1.symm
  subst hp1
  replace hp2 := hp2.symm
  subst hp2
  have hV : qV D A s.heap ((wC h (g 0) (k 0) cA n tx T C K L P u ua ub) ++ (wT g cA pm jm lm du pr ja rt) ++ (wT k cA pm2 jm2 lm2 du2 pr2 ja2 rt2) ++ (wD f cA n tx T C K P L u ua ub pm jm lm du lt hh) ++ (wY f cA pr ja rs os)) H locs := hV
  have hV : qV D A s.heap ((wC h (g 0) (k 0) cA n tx T C K L P u ua ub) ++ (wT g cA pm jm lm du pr ja rt) ++ (wT k cA pm2 jm2 lm2 du2 pr2 ja2 rt2) ++ (wD f cA n tx T C K P L u ua ub pm jm lm du lt hh) ++ (wY f cA pr ja rs os)) H locs := hV.sub [0, 1, 2, 3, 4, 5, 6, 7, 8, 9, 10, 11, 12, 13, 14, 15, 16, 17, 18, 19, 20, 21, 22, 23] rfl rfl
  refine z_icmp_eq (tgt := 651) hx hb dL_law_619 (by decide) (fun _ => ?_) (fun c1 => absurd rfl c1)
  exact ih _ _ _ _ _ _ _ _ _ _ _ _ _ _ _ _ _ _ _ _ _ _ _ _ _ _ _ _ (hI) _ _ _ hV hl
set_option maxHeartbeats 4000000 in
set_option maxRecDepth 100000 in
theorem lc_24 {p : Program} {e : Env} {s : State} {m : MethodId} {below : List Frame} {meth : Method} {c : Code} (l : Launch) {b Ln : Nat} {xs : Nat → Int32} (hL : Ln ≤ 1536) (C0 : lw_At p s m meth c b Ln xs) (D : va_G) (cA : ClassId) (A : Nat → Prop) (hA : ∀ q, s.heap.size ≤ q → A q) (hbA : ¬ A b) (hK : va_K D vwCl [(cA, .int)] s) (hN : nW s) (h g k f : Nat → Nat) (i : Nat) (hi : i + 3 ≤ Ln) (ih : LK p l e s m below meth c b D cA A h g k f i) (n : Nat) (tx : Nat → Nat) (T : Nat) (C : Nat) (K : Nat) (L : Nat → Nat) (P : Nat → Nat) (u : Nat) (ua : Nat → Nat) (ub : Nat → Nat) (pm : Nat) (jm : Nat) (lm : Nat) (du : Nat) (pr : Nat → Nat) (ja : Nat → Nat) (rt : Nat → Nat) (pm2 : Nat) (jm2 : Nat) (lm2 : Nat) (du2 : Nat) (pr2 : Nat → Nat) (ja2 : Nat → Nat) (rt2 : Nat → Nat) (lt : Nat) (hh : Int64) (rs : Nat → Nat) (os : Nat → Nat) (hI : sInv n tx T C K (L, P, u, ua, ub) (pm, jm, lm, du, pr, ja)) (H : Heap) (locs : List Loc) (ls : Array Slot) (hV : qV D A s.heap ((wC h (g 0) (k 0) cA n tx T C K L P u ua ub) ++ (wT g cA pm jm lm du pr ja rt) ++ (wT k cA pm2 jm2 lm2 du2 pr2 ja2 rt2) ++ (wD f cA n tx T C K P L u ua ub pm jm lm du lt hh) ++ (wY f cA pr ja rs os)) H locs) (hl : lv_has ls 4 [(0, .ref b), (1, .ref (h 0)), (2, .ref (f 0)), (3, .int (nI i))]) : W p l e room_1 s m #[Value.ref b] below meth c H locs 24 792 (lw_Z below #[Value.ref b] s) (F0 m 624 ls []) := by
  obtain ⟨hx, hb, hr, hml, hown, hts, hX, hbl, hlocks, hgv⟩ := id C0
  have hts : ∀ w ∈ wsL_law, w.before #[Value.ref b] s = true := fun w h => hts w (wsL_law_in w h)
  have hown : s.vm.findClass RL = some m.cls := hown
  obtain ⟨hn, htx, hT, hC, hK5, ⟨hp, hu, hua, hub⟩, h_pm, h_jm⟩ := id hI
  refine lv_aload_n hx hb dL_law_624 rfl (lv_at hl 1 rfl) ?_
  have hV : qV D A s.heap ((wT g cA pm jm lm du pr ja rt) ++ (wD f cA n tx T C K P L u ua ub pm jm lm du lt hh) ++ (wY f cA pr ja rs os) ++ (wC h (g 0) (k 0) cA n tx T C K L P u ua ub) ++ (wT k cA pm2 jm2 lm2 du2 pr2 ja2 rt2)) H locs := hV.sub [6, 7, 8, 9, 14, 15, 16, 17, 18, 19, 20, 21, 22, 23, 0, 1, 2, 3, 4, 5, 10, 11, 12, 13] rfl rfl
  refine k_V_i (w0 := (wT g cA pm jm lm du pr ja rt) ++ (wD f cA n tx T C K P L u ua ub pm jm lm du lt hh) ++ (wY f cA pr ja rs os)) (wc := (wC h (g 0) (k 0) cA n tx T C K L P u ua ub) ++ (wT k cA pm2 jm2 lm2 du2 pr2 ja2 rt2)) (b := h 0) (As := []) (rest := []) hx hb hml hown hts hK hA hN hV hl.1 (c_X1_safeInterval l D h (g 0) cA n tx T C K L P u ua ub k pm2 jm2 lm2 du2 pr2 ja2 rt2  (by first | omega | assumption) (by first | omega | assumption) (by first | omega | assumption) (by first | omega | assumption) (by first | omega | assumption) (by first | omega | assumption)) gL_law_X1_safeInterval rfl rfl rfl hdX1_safeInterval ⟨Nat.le_of_ble_eq_true rfl, Nat.le_of_ble_eq_true rfl⟩ 14 1 rfl rfl rfl rfl rfl (Nat.le_of_ble_eq_true rfl) dL_law_625 ⟨Nat.le_of_ble_eq_true rfl, Nat.le_of_ble_eq_true rfl⟩ (fun r W1 H locs hp hV => ?_)
  obtain ⟨hp1, pm3, jm3, lm3, du3, pr3, ja3, rt3, hp2⟩ := hp
  replace hp1 := hp1.symm
  subst hp1
  replace hp2 := hp2.symm
  subst hp2
  have hV : qV D A s.heap ((wT g cA pm jm lm du pr ja rt) ++ (wD f cA n tx T C K P L u ua ub pm jm lm du lt hh) ++ (wY f cA pr ja rs os) ++ (wC h (g 0) (k 0) cA n tx T C K L P u ua ub) ++ (wT k cA pm3 jm3 lm3 du3 pr3 ja3 rt3)) H locs := hV
  have hV : qV D A s.heap ((wC h (g 0) (k 0) cA n tx T C K L P u ua ub) ++ (wT g cA pm jm lm du pr ja rt) ++ (wT k cA pm3 jm3 lm3 du3 pr3 ja3 rt3) ++ (wD f cA n tx T C K P L u ua ub pm jm lm du lt hh) ++ (wY f cA pr ja rs os)) H locs := hV.sub [14, 15, 16, 17, 18, 19, 0, 1, 2, 3, 20, 21, 22, 23, 4, 5, 6, 7, 8, 9, 10, 11, 12, 13] rfl rfl
  refine lv_aload_n hx hb dL_law_628 rfl (lv_at hl 2 rfl) ?_
  have hV : qV D A s.heap ((wC h (g 0) (k 0) cA n tx T C K L P u ua ub) ++ (wT g cA pm jm lm du pr ja rt) ++ (wT k cA pm3 jm3 lm3 du3 pr3 ja3 rt3) ++ (wD f cA n tx T C K P L u ua ub pm jm lm du lt hh) ++ (wY f cA pr ja rs os)) H locs := hV.sub [0, 1, 2, 3, 4, 5, 6, 7, 8, 9, 10, 11, 12, 13, 14, 15, 16, 17, 18, 19, 20, 21, 22, 23] rfl rfl
  refine k_V_i (w0 := (wC h (g 0) (k 0) cA n tx T C K L P u ua ub) ++ (wT g cA pm jm lm du pr ja rt) ++ (wT k cA pm3 jm3 lm3 du3 pr3 ja3 rt3)) (wc := (wD f cA n tx T C K P L u ua ub pm jm lm du lt hh) ++ (wY f cA pr ja rs os)) (b := f 0) (As := []) (rest := [.int (bV (sfi tx P T C K n))]) hx hb hml hown hts hK hA hN hV hl.1 (c_X2_safeInterval l D f cA n tx T C K P L u ua ub pm jm lm du lt hh pr ja rs os  (by first | omega | assumption) (by first | omega | assumption) (by first | omega | assumption) (by first | omega | assumption) (by first | omega | assumption) (by first | omega | assumption)) gL_law_X2_safeInterval rfl rfl rfl hdX2_safeInterval ⟨Nat.le_of_ble_eq_true rfl, Nat.le_of_ble_eq_true rfl⟩ 14 2 rfl rfl rfl rfl rfl (Nat.le_of_ble_eq_true rfl) dL_law_629 ⟨Nat.le_of_ble_eq_true rfl, Nat.le_of_ble_eq_true rfl⟩ (fun r W1 H locs hp hV => ?_)
  obtain ⟨hp1, rs3, os3, lt3, hp2⟩ := hp
  replace hp1 := hp1.symm
  subst hp1
  replace hp2 := hp2.symm
  subst hp2
  have hV : qV D A s.heap ((wC h (g 0) (k 0) cA n tx T C K L P u ua ub) ++ (wT g cA pm jm lm du pr ja rt) ++ (wT k cA pm3 jm3 lm3 du3 pr3 ja3 rt3) ++ (wD f cA n tx T C K P L u ua ub pm jm lm du lt3 hh) ++ (wY f cA pr ja rs3 os3)) H locs := hV
  have hV : qV D A s.heap ((wC h (g 0) (k 0) cA n tx T C K L P u ua ub) ++ (wT g cA pm jm lm du pr ja rt) ++ (wT k cA pm3 jm3 lm3 du3 pr3 ja3 rt3) ++ (wD f cA n tx T C K P L u ua ub pm jm lm du lt3 hh) ++ (wY f cA pr ja rs3 os3)) H locs := hV.sub [0, 1, 2, 3, 4, 5, 6, 7, 8, 9, 10, 11, 12, 13, 14, 15, 16, 17, 18, 19, 20, 21, 22, 23] rfl rfl
  refine z_icmp_eq (tgt := 651) hx hb dL_law_632 (by decide) (fun _ => ?_) (fun c1 => absurd rfl c1)
  exact ih _ _ _ _ _ _ _ _ _ _ _ _ _ _ _ _ _ _ _ _ _ _ _ _ _ _ _ _ (hI) _ _ _ hV hl
set_option maxHeartbeats 4000000 in
set_option maxRecDepth 100000 in
theorem lc_25 {p : Program} {e : Env} {s : State} {m : MethodId} {below : List Frame} {meth : Method} {c : Code} (l : Launch) {b Ln : Nat} {xs : Nat → Int32} (hL : Ln ≤ 1536) (C0 : lw_At p s m meth c b Ln xs) (D : va_G) (cA : ClassId) (A : Nat → Prop) (hA : ∀ q, s.heap.size ≤ q → A q) (hbA : ¬ A b) (hK : va_K D vwCl [(cA, .int)] s) (hN : nW s) (h g k f : Nat → Nat) (i : Nat) (hi : i + 3 ≤ Ln) (ih : LK p l e s m below meth c b D cA A h g k f i) (n : Nat) (tx : Nat → Nat) (T : Nat) (C : Nat) (K : Nat) (L : Nat → Nat) (P : Nat → Nat) (u : Nat) (ua : Nat → Nat) (ub : Nat → Nat) (pm : Nat) (jm : Nat) (lm : Nat) (du : Nat) (pr : Nat → Nat) (ja : Nat → Nat) (rt : Nat → Nat) (pm2 : Nat) (jm2 : Nat) (lm2 : Nat) (du2 : Nat) (pr2 : Nat → Nat) (ja2 : Nat → Nat) (rt2 : Nat → Nat) (lt : Nat) (hh : Int64) (rs : Nat → Nat) (os : Nat → Nat) (hI : sInv n tx T C K (L, P, u, ua, ub) (pm, jm, lm, du, pr, ja)) (H : Heap) (locs : List Loc) (ls : Array Slot) (hV : qV D A s.heap ((wC h (g 0) (k 0) cA n tx T C K L P u ua ub) ++ (wT g cA pm jm lm du pr ja rt) ++ (wT k cA pm2 jm2 lm2 du2 pr2 ja2 rt2) ++ (wD f cA n tx T C K P L u ua ub pm jm lm du lt hh) ++ (wY f cA pr ja rs os)) H locs) (hl : lv_has ls 4 [(0, .ref b), (1, .ref (h 0)), (2, .ref (f 0)), (3, .int (nI i))]) : W p l e room_1 s m #[Value.ref b] below meth c H locs 24 792 (lw_Z below #[Value.ref b] s) (F0 m 637 ls []) := by
  obtain ⟨hx, hb, hr, hml, hown, hts, hX, hbl, hlocks, hgv⟩ := id C0
  have hts : ∀ w ∈ wsL_law, w.before #[Value.ref b] s = true := fun w h => hts w (wsL_law_in w h)
  have hown : s.vm.findClass RL = some m.cls := hown
  obtain ⟨hn, htx, hT, hC, hK5, ⟨hp, hu, hua, hub⟩, h_pm, h_jm⟩ := id hI
  refine lv_aload_n hx hb dL_law_637 rfl (lv_at hl 1 rfl) ?_
  have hV : qV D A s.heap ((wD f cA n tx T C K P L u ua ub pm jm lm du lt hh) ++ (wY f cA pr ja rs os) ++ (wC h (g 0) (k 0) cA n tx T C K L P u ua ub) ++ (wT g cA pm jm lm du pr ja rt) ++ (wT k cA pm2 jm2 lm2 du2 pr2 ja2 rt2)) H locs := hV.sub [14, 15, 16, 17, 18, 19, 20, 21, 22, 23, 0, 1, 2, 3, 4, 5, 6, 7, 8, 9, 10, 11, 12, 13] rfl rfl
  refine k_V_l (w0 := (wD f cA n tx T C K P L u ua ub pm jm lm du lt hh) ++ (wY f cA pr ja rs os)) (wc := (wC h (g 0) (k 0) cA n tx T C K L P u ua ub) ++ (wT g cA pm jm lm du pr ja rt) ++ (wT k cA pm2 jm2 lm2 du2 pr2 ja2 rt2)) (b := h 0) (As := []) (rest := []) hx hb hml hown hts hK hA hN hV hl.1 (c_X1_digest l D h cA n tx T C K L P u ua ub g pm jm lm du pr ja rt k pm2 jm2 lm2 du2 pr2 ja2 rt2  (by first | omega | assumption) (by first | omega | assumption) (by first | omega | assumption) (by first | omega | assumption) (by first | omega | assumption) (by first | omega | assumption) (by first | omega | assumption) (by first | omega | assumption)) gL_law_X1_digest rfl rfl rfl hdX1_digest ⟨Nat.le_of_ble_eq_true rfl, Nat.le_of_ble_eq_true rfl⟩ 10 1 rfl rfl rfl rfl rfl (Nat.le_of_ble_eq_true rfl) dL_law_638 ⟨Nat.le_of_ble_eq_true rfl, Nat.le_of_ble_eq_true rfl⟩ (fun r W1 H locs hp hV => ?_)
  obtain ⟨hp1, pm3, jm3, lm3, du3, pr3, ja3, rt3, hp2⟩ := hp
  replace hp1 := hp1.symm
  subst hp1
  replace hp2 := hp2.symm
  subst hp2
  have hV : qV D A s.heap ((wD f cA n tx T C K P L u ua ub pm jm lm du lt hh) ++ (wY f cA pr ja rs os) ++ (wC h (g 0) (k 0) cA n tx T C K L P u ua ub) ++ (wT g cA pm jm lm du pr ja rt) ++ (wT k cA pm3 jm3 lm3 du3 pr3 ja3 rt3)) H locs := hV
  have hV : qV D A s.heap ((wC h (g 0) (k 0) cA n tx T C K L P u ua ub) ++ (wT g cA pm jm lm du pr ja rt) ++ (wT k cA pm3 jm3 lm3 du3 pr3 ja3 rt3) ++ (wD f cA n tx T C K P L u ua ub pm jm lm du lt hh) ++ (wY f cA pr ja rs os)) H locs := hV.sub [10, 11, 12, 13, 14, 15, 16, 17, 18, 19, 20, 21, 22, 23, 0, 1, 2, 3, 4, 5, 6, 7, 8, 9] rfl rfl
  refine lv_aload_n hx hb dL_law_641 rfl (lv_at hl 2 rfl) ?_
  have hV : qV D A s.heap ((wC h (g 0) (k 0) cA n tx T C K L P u ua ub) ++ (wT g cA pm jm lm du pr ja rt) ++ (wT k cA pm3 jm3 lm3 du3 pr3 ja3 rt3) ++ (wD f cA n tx T C K P L u ua ub pm jm lm du lt hh) ++ (wY f cA pr ja rs os)) H locs := hV.sub [0, 1, 2, 3, 4, 5, 6, 7, 8, 9, 10, 11, 12, 13, 14, 15, 16, 17, 18, 19, 20, 21, 22, 23] rfl rfl
  refine k_V_l (w0 := (wC h (g 0) (k 0) cA n tx T C K L P u ua ub) ++ (wT g cA pm jm lm du pr ja rt) ++ (wT k cA pm3 jm3 lm3 du3 pr3 ja3 rt3)) (wc := (wD f cA n tx T C K P L u ua ub pm jm lm du lt hh) ++ (wY f cA pr ja rs os)) (b := f 0) (As := []) (rest := [.long (dgst tx P L n T C K u pm jm lm du pr ja)]) hx hb hml hown hts hK hA hN hV hl.1 (c_X2_digest l D f cA n tx T C K P L u ua ub pm jm lm du lt hh pr ja rs os  (by first | omega | assumption) (by first | omega | assumption) (by first | omega | assumption) (by first | omega | assumption) (by first | omega | assumption) (by first | omega | assumption) (by first | omega | assumption) (by first | omega | assumption)) gL_law_X2_digest rfl rfl rfl hdX2_digest ⟨Nat.le_of_ble_eq_true rfl, Nat.le_of_ble_eq_true rfl⟩ 14 2 rfl rfl rfl rfl rfl (Nat.le_of_ble_eq_true rfl) dL_law_642 ⟨Nat.le_of_ble_eq_true rfl, Nat.le_of_ble_eq_true rfl⟩ (fun r W1 H locs hp hV => ?_)
  obtain ⟨hp1, rs3, os3, lt3, hh3, hp2⟩ := hp
  replace hp1 := hp1.symm
  subst hp1
  replace hp2 := hp2.symm
  subst hp2
  have hV : qV D A s.heap ((wC h (g 0) (k 0) cA n tx T C K L P u ua ub) ++ (wT g cA pm jm lm du pr ja rt) ++ (wT k cA pm3 jm3 lm3 du3 pr3 ja3 rt3) ++ (wD f cA n tx T C K P L u ua ub pm jm lm du lt3 hh3) ++ (wY f cA pr ja rs3 os3)) H locs := hV
  have hV : qV D A s.heap ((wC h (g 0) (k 0) cA n tx T C K L P u ua ub) ++ (wT g cA pm jm lm du pr ja rt) ++ (wT k cA pm3 jm3 lm3 du3 pr3 ja3 rt3) ++ (wD f cA n tx T C K P L u ua ub pm jm lm du lt3 hh3) ++ (wY f cA pr ja rs3 os3)) H locs := hV.sub [0, 1, 2, 3, 4, 5, 6, 7, 8, 9, 10, 11, 12, 13, 14, 15, 16, 17, 18, 19, 20, 21, 22, 23] rfl rfl
  refine W.lcmp hx hb dL_law_645 ?_
  rw [lg_cmp_self]
  refine z_if_eq (tgt := 651) hx hb dL_law_646 (by decide) (fun _ => ?_) (fun c1 => absurd rfl c1)
  exact ih _ _ _ _ _ _ _ _ _ _ _ _ _ _ _ _ _ _ _ _ _ _ _ _ _ _ _ _ (hI) _ _ _ hV hl
