theorem q_tab {p : Program} {l : Launch} {e : Env} {R : Room} {s : State} {m : MethodId} {args : Array Value} {below : List Frame} {meth : Method} {c : Code} {H : Heap} {locs : List Loc} {cells slots : Nat} {Q : State → Prop} {ls : Array Slot} {rest : List Value} (hx : p.tables.exec = Jvm.exec) (hb : c.code = cL_law) {x : Int32} {q : Nat} {off : Int} (tgt : Nat) (e1 : x = nI q) (h1 : ¬ (nI q).toInt < 0) (h2 : ¬ 25 < (nI q).toInt) (ho : (#[120, 143, 156, 189, 212, 235, 258, 271, 294, 317, 350, 363, 376, 389, 402, 435, 448, 471, 484, 507, 520, 533, 546, 569, 592, 605] : Array Int)[((nI q).toInt - 0).toNat]? = some off) (ht : ((32 : Nat) : Int) + off = (tgt : Int))
    (k : W p l e R s m args below meth c H locs cells slots Q (F0 m tgt ls rest)) : W p l e R s m args below meth c H locs cells slots Q (F0 m 32 ls (.int x :: rest)) := by
  rw [e1]
  exact lv_tableIn hx hb dL_law_32 h1 h2 ho ht k
set_option maxHeartbeats 4000000 in
set_option maxRecDepth 100000 in
theorem law_loop {p : Program} {e : Env} {s : State} {m : MethodId} {below : List Frame} {meth : Method} {c : Code} (l : Launch) {b Ln : Nat} {xs : Nat → Int32} (hL : Ln ≤ 1536) (C0 : lw_At p s m meth c b Ln xs) (D : va_G) (cA : ClassId) (A : Nat → Prop) (hA : ∀ q, s.heap.size ≤ q → A q) (hA2 : ∀ q, A q → s.heap.size ≤ q) (hbA : ¬ A b) (hK : va_K D vwCl [(cA, .int)] s) (hN : nW s) (h g k f : Nat → Nat) : ∀ (d i : Nat), (Ln + 3 ≤ i + d) → (i ≤ Ln) → ∀ (n : Nat) (tx : Nat → Nat) (T : Nat) (C : Nat) (K : Nat) (L : Nat → Nat) (P : Nat → Nat) (u : Nat) (ua : Nat → Nat) (ub : Nat → Nat) (pm : Nat) (jm : Nat) (lm : Nat) (du : Nat) (pr : Nat → Nat) (ja : Nat → Nat) (rt : Nat → Nat) (pm2 : Nat) (jm2 : Nat) (lm2 : Nat) (du2 : Nat) (pr2 : Nat → Nat) (ja2 : Nat → Nat) (rt2 : Nat → Nat) (lt : Nat) (hh : Int64) (rs : Nat → Nat) (os : Nat → Nat), sInv n tx T C K (L, P, u, ua, ub) (pm, jm, lm, du, pr, ja) → ∀ (H : Heap) (locs : List Loc) (ls : Array Slot), qV D A s.heap ((wC h (g 0) (k 0) cA n tx T C K L P u ua ub) ++ (wT g cA pm jm lm du pr ja rt) ++ (wT k cA pm2 jm2 lm2 du2 pr2 ja2 rt2) ++ (wD f cA n tx T C K P L u ua ub pm jm lm du lt hh) ++ (wY f cA pr ja rs os)) H locs → lv_has ls 4 [(0, .ref b), (1, .ref (h 0)), (2, .ref (f 0)), (3, .int (nI i))] → W p l e room_1 s m #[Value.ref b] below meth c H locs 24 792 (lw_Z below #[Value.ref b] s) (F0 m 18 ls []) := by
  intro d
  induction d with
  | zero => intro i hm hi; exfalso; omega
  | succ d ih0 =>
    intro i hm hi n tx T C K L P u ua ub pm jm lm du pr ja rt pm2 jm2 lm2 du2 pr2 ja2 rt2 lt hh rs os hI H locs ls hV hl
    obtain ⟨hx, hb, hr, hml, hown, hts, hX, hbl, hlocks, hgv⟩ := id C0
    refine lv_iload_n hx hb dL_law_18 rfl (lv_at hl 3 rfl) ?_
    refine lv_aload_n hx hb dL_law_19 rfl (lv_at hl 0 rfl) ?_
    refine va_slen hx hb hX hbl hbA hV.2.2 dL_law_20 ?_
    refine lv_iconst (v := nI 3) hx hb dL_law_21 (by decide) ?_
    refine lv_isub hx hb dL_law_22 ?_
    refine q_top (y := nI Ln - nI 3) rfl ?_
    refine z_icmp_gt (tgt := 657) hx hb dL_law_23 (by decide) (fun c1 => ?_) (fun c1 => ?_)
    · refine lv_iconst (v := 1) hx hb dL_law_657 (by decide) ?_
      refine va_forget (fun q hq => hA2 _ (hV.2.2.2.2 q hq)) ?_
      exact lw_ret hx hb hr hlocks dL_law_658
    · rw [pk_sub_toInt (by omega) (by omega), nI_toInt (n := i) (by omega)] at c1
      have hi3 : i + 3 ≤ Ln := by omega
      have hk : LK p l e s m below meth c b D cA A h g k f i := by
        intro n tx T C K L P u ua ub pm jm lm du pr ja rt pm2 jm2 lm2 du2 pr2 ja2 rt2 lt hh rs os hI H locs ls hV hl
        refine q_iinc (x := i) (z := i + 3) (lv' := [(3, .int (nI (i + 3))), (0, .ref b), (1, .ref (h 0)), (2, .ref (f 0))]) hx hb dL_law_651 hl (k := 3) rfl (dd := 3) rfl (by omega) (by decide) rfl (fun ls hl => ?_)
        refine lv_goto (tgt := 18) hx hb dL_law_654 (by decide) ?_
        exact ih0 (i + 3) (by omega) (by omega) n tx T C K L P u ua ub pm jm lm du pr ja rt pm2 jm2 lm2 du2 pr2 ja2 rt2 lt hh rs os hI _ _ _ hV (lv_sub hl [1, 2, 3, 0] rfl)
      refine lv_aload_n hx hb dL_law_26 rfl (lv_at hl 0 rfl) ?_
      refine lv_iload_n hx hb dL_law_27 rfl (lv_at hl 3 rfl) ?_
      refine q_sld (k := i) hx hb hX hbl hbA hV.2.2 (by omega) (by omega) dL_law_28 ?_
      refine lv_bipush (v := nI 31) hx hb dL_law_29 (by decide) ?_
      refine lv_iand hx hb dL_law_31 ?_
      obtain ⟨q, hq, e1⟩ := and31 (xs i)
      rcases (show q = 0 ∨ q = 1 ∨ q = 2 ∨ q = 3 ∨ q = 4 ∨ q = 5 ∨ q = 6 ∨ q = 7 ∨ q = 8 ∨ q = 9 ∨ q = 10 ∨ q = 11 ∨ q = 12 ∨ q = 13 ∨ q = 14 ∨ q = 15 ∨ q = 16 ∨ q = 17 ∨ q = 18 ∨ q = 19 ∨ q = 20 ∨ q = 21 ∨ q = 22 ∨ q = 23 ∨ q = 24 ∨ q = 25 ∨ 26 ≤ q by omega) with rfl | rfl | rfl | rfl | rfl | rfl | rfl | rfl | rfl | rfl | rfl | rfl | rfl | rfl | rfl | rfl | rfl | rfl | rfl | rfl | rfl | rfl | rfl | rfl | rfl | rfl | hq26
      · exact q_tab (off := 120) hx hb 152 e1 (by decide) (by decide) rfl (by decide) (lc_0 l hL C0 D cA A hA hbA hK hN h g k f i hi3 hk n tx T C K L P u ua ub pm jm lm du pr ja rt pm2 jm2 lm2 du2 pr2 ja2 rt2 lt hh rs os hI _ _ _ hV hl)
      · exact q_tab (off := 143) hx hb 175 e1 (by decide) (by decide) rfl (by decide) (lc_1 l hL C0 D cA A hA hbA hK hN h g k f i hi3 hk n tx T C K L P u ua ub pm jm lm du pr ja rt pm2 jm2 lm2 du2 pr2 ja2 rt2 lt hh rs os hI _ _ _ hV hl)
      · exact q_tab (off := 156) hx hb 188 e1 (by decide) (by decide) rfl (by decide) (lc_2 l hL C0 D cA A hA hbA hK hN h g k f i hi3 hk n tx T C K L P u ua ub pm jm lm du pr ja rt pm2 jm2 lm2 du2 pr2 ja2 rt2 lt hh rs os hI _ _ _ hV hl)
      · exact q_tab (off := 189) hx hb 221 e1 (by decide) (by decide) rfl (by decide) (lc_3 l hL C0 D cA A hA hbA hK hN h g k f i hi3 hk n tx T C K L P u ua ub pm jm lm du pr ja rt pm2 jm2 lm2 du2 pr2 ja2 rt2 lt hh rs os hI _ _ _ hV hl)
      · exact q_tab (off := 212) hx hb 244 e1 (by decide) (by decide) rfl (by decide) (lc_4 l hL C0 D cA A hA hbA hK hN h g k f i hi3 hk n tx T C K L P u ua ub pm jm lm du pr ja rt pm2 jm2 lm2 du2 pr2 ja2 rt2 lt hh rs os hI _ _ _ hV hl)
      · exact q_tab (off := 235) hx hb 267 e1 (by decide) (by decide) rfl (by decide) (lc_5 l hL C0 D cA A hA hbA hK hN h g k f i hi3 hk n tx T C K L P u ua ub pm jm lm du pr ja rt pm2 jm2 lm2 du2 pr2 ja2 rt2 lt hh rs os hI _ _ _ hV hl)
      · exact q_tab (off := 258) hx hb 290 e1 (by decide) (by decide) rfl (by decide) (lc_6 l hL C0 D cA A hA hbA hK hN h g k f i hi3 hk n tx T C K L P u ua ub pm jm lm du pr ja rt pm2 jm2 lm2 du2 pr2 ja2 rt2 lt hh rs os hI _ _ _ hV hl)
      · exact q_tab (off := 271) hx hb 303 e1 (by decide) (by decide) rfl (by decide) (lc_7 l hL C0 D cA A hA hbA hK hN h g k f i hi3 hk n tx T C K L P u ua ub pm jm lm du pr ja rt pm2 jm2 lm2 du2 pr2 ja2 rt2 lt hh rs os hI _ _ _ hV hl)
      · exact q_tab (off := 294) hx hb 326 e1 (by decide) (by decide) rfl (by decide) (lc_8 l hL C0 D cA A hA hbA hK hN h g k f i hi3 hk n tx T C K L P u ua ub pm jm lm du pr ja rt pm2 jm2 lm2 du2 pr2 ja2 rt2 lt hh rs os hI _ _ _ hV hl)
      · exact q_tab (off := 317) hx hb 349 e1 (by decide) (by decide) rfl (by decide) (lc_9 l hL C0 D cA A hA hbA hK hN h g k f i hi3 hk n tx T C K L P u ua ub pm jm lm du pr ja rt pm2 jm2 lm2 du2 pr2 ja2 rt2 lt hh rs os hI _ _ _ hV hl)
      · exact q_tab (off := 350) hx hb 382 e1 (by decide) (by decide) rfl (by decide) (lc_10 l hL C0 D cA A hA hbA hK hN h g k f i hi3 hk n tx T C K L P u ua ub pm jm lm du pr ja rt pm2 jm2 lm2 du2 pr2 ja2 rt2 lt hh rs os hI _ _ _ hV hl)
      · exact q_tab (off := 363) hx hb 395 e1 (by decide) (by decide) rfl (by decide) (lc_11 l hL C0 D cA A hA hbA hK hN h g k f i hi3 hk n tx T C K L P u ua ub pm jm lm du pr ja rt pm2 jm2 lm2 du2 pr2 ja2 rt2 lt hh rs os hI _ _ _ hV hl)
      · exact q_tab (off := 376) hx hb 408 e1 (by decide) (by decide) rfl (by decide) (lc_12 l hL C0 D cA A hA hbA hK hN h g k f i hi3 hk n tx T C K L P u ua ub pm jm lm du pr ja rt pm2 jm2 lm2 du2 pr2 ja2 rt2 lt hh rs os hI _ _ _ hV hl)
      · exact q_tab (off := 389) hx hb 421 e1 (by decide) (by decide) rfl (by decide) (lc_13 l hL C0 D cA A hA hbA hK hN h g k f i hi3 hk n tx T C K L P u ua ub pm jm lm du pr ja rt pm2 jm2 lm2 du2 pr2 ja2 rt2 lt hh rs os hI _ _ _ hV hl)
      · exact q_tab (off := 402) hx hb 434 e1 (by decide) (by decide) rfl (by decide) (lc_14 l hL C0 D cA A hA hbA hK hN h g k f i hi3 hk n tx T C K L P u ua ub pm jm lm du pr ja rt pm2 jm2 lm2 du2 pr2 ja2 rt2 lt hh rs os hI _ _ _ hV hl)
      · exact q_tab (off := 435) hx hb 467 e1 (by decide) (by decide) rfl (by decide) (lc_15 l hL C0 D cA A hA hbA hK hN h g k f i hi3 hk n tx T C K L P u ua ub pm jm lm du pr ja rt pm2 jm2 lm2 du2 pr2 ja2 rt2 lt hh rs os hI _ _ _ hV hl)
      · exact q_tab (off := 448) hx hb 480 e1 (by decide) (by decide) rfl (by decide) (lc_16 l hL C0 D cA A hA hbA hK hN h g k f i hi3 hk n tx T C K L P u ua ub pm jm lm du pr ja rt pm2 jm2 lm2 du2 pr2 ja2 rt2 lt hh rs os hI _ _ _ hV hl)
      · exact q_tab (off := 471) hx hb 503 e1 (by decide) (by decide) rfl (by decide) (lc_17 l hL C0 D cA A hA hbA hK hN h g k f i hi3 hk n tx T C K L P u ua ub pm jm lm du pr ja rt pm2 jm2 lm2 du2 pr2 ja2 rt2 lt hh rs os hI _ _ _ hV hl)
      · exact q_tab (off := 484) hx hb 516 e1 (by decide) (by decide) rfl (by decide) (lc_18 l hL C0 D cA A hA hbA hK hN h g k f i hi3 hk n tx T C K L P u ua ub pm jm lm du pr ja rt pm2 jm2 lm2 du2 pr2 ja2 rt2 lt hh rs os hI _ _ _ hV hl)
      · exact q_tab (off := 507) hx hb 539 e1 (by decide) (by decide) rfl (by decide) (lc_19 l hL C0 D cA A hA hbA hK hN h g k f i hi3 hk n tx T C K L P u ua ub pm jm lm du pr ja rt pm2 jm2 lm2 du2 pr2 ja2 rt2 lt hh rs os hI _ _ _ hV hl)
      · exact q_tab (off := 520) hx hb 552 e1 (by decide) (by decide) rfl (by decide) (lc_20 l hL C0 D cA A hA hbA hK hN h g k f i hi3 hk n tx T C K L P u ua ub pm jm lm du pr ja rt pm2 jm2 lm2 du2 pr2 ja2 rt2 lt hh rs os hI _ _ _ hV hl)
      · exact q_tab (off := 533) hx hb 565 e1 (by decide) (by decide) rfl (by decide) (lc_21 l hL C0 D cA A hA hbA hK hN h g k f i hi3 hk n tx T C K L P u ua ub pm jm lm du pr ja rt pm2 jm2 lm2 du2 pr2 ja2 rt2 lt hh rs os hI _ _ _ hV hl)
      · exact q_tab (off := 546) hx hb 578 e1 (by decide) (by decide) rfl (by decide) (lc_22 l hL C0 D cA A hA hbA hK hN h g k f i hi3 hk n tx T C K L P u ua ub pm jm lm du pr ja rt pm2 jm2 lm2 du2 pr2 ja2 rt2 lt hh rs os hI _ _ _ hV hl)
      · exact q_tab (off := 569) hx hb 601 e1 (by decide) (by decide) rfl (by decide) (lc_23 l hL C0 D cA A hA hbA hK hN h g k f i hi3 hk n tx T C K L P u ua ub pm jm lm du pr ja rt pm2 jm2 lm2 du2 pr2 ja2 rt2 lt hh rs os hI _ _ _ hV hl)
      · exact q_tab (off := 592) hx hb 624 e1 (by decide) (by decide) rfl (by decide) (lc_24 l hL C0 D cA A hA hbA hK hN h g k f i hi3 hk n tx T C K L P u ua ub pm jm lm du pr ja rt pm2 jm2 lm2 du2 pr2 ja2 rt2 lt hh rs os hI _ _ _ hV hl)
      · exact q_tab (off := 605) hx hb 637 e1 (by decide) (by decide) rfl (by decide) (lc_25 l hL C0 D cA A hA hbA hK hN h g k f i hi3 hk n tx T C K L P u ua ub pm jm lm du pr ja rt pm2 jm2 lm2 du2 pr2 ja2 rt2 lt hh rs os hI _ _ _ hV hl)
      · rw [e1]
        exact lv_tableOut (tgt := 651) hx hb dL_law_32 (Or.inr (by rw [nI_toInt (by omega)]; omega)) (by decide) (hk n tx T C K L P u ua ub pm jm lm du pr ja rt pm2 jm2 lm2 du2 pr2 ja2 rt2 lt hh rs os hI _ _ _ hV hl)
