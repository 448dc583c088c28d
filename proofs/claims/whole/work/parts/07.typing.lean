theorem ite0 {q : Prop} {dq : Decidable q} (h : (if q then 1 else 0) = 0) : ¬ q := by
  intro w; rw [if_pos w] at h; omega
theorem ite1 {q : Prop} {dq : Decidable q} (h : (if q then 1 else 0) ≠ 0) : q := by
  by_cases w : q
  · exact w
  · rw [if_neg w] at h; exact absurd rfl h
theorem ite_le (q : Prop) [Decidable q] : (if q then 1 else 0) ≤ 1 := by split <;> omega
theorem jamF_ext {C p t : Nat} {R : Nat → Nat} {k k2 : Nat} (h : k ≤ k2) (hq : ∀ q, k ≤ q → q < k2 → ¬ (q ≤ p + C ∧ p ≤ q + C)) : jamF C p t R k2 = jamF C p t R k := by
  induction k2 with
  | zero => rw [show k = 0 by omega]
  | succ k2 ih =>
    by_cases e : k = k2 + 1
    · rw [e]
    · simp only [jamF]
      rw [if_neg (fun w => hq k2 (by omega) (by omega) ⟨w.1, w.2.1⟩)]
      exact ih (by omega) (fun q h1 h2 => hq q h1 (by omega))
theorem jamF_lo {C p t : Nat} {R : Nat → Nat} {k : Nat} (hq : ∀ q, 0 ≤ q → q < k → ¬ (q ≤ p + C ∧ p ≤ q + C)) : jamF C p t R k = 0 := (jamF_ext (Nat.zero_le k) hq).trans rfl
theorem jamF_hi {C p t : Nat} {R : Nat → Nat} {k : Nat} (h : k ≤ 12) (hq : ∀ q, k ≤ q → q < 12 → ¬ (q ≤ p + C ∧ p ≤ q + C)) : jamF C p t R 12 = jamF C p t R k := jamF_ext h hq
def stpK (C p t : Nat) (R : Nat → Nat) (k : Nat) : Nat → Nat := fun q => if q < k ∧ q ≤ p + C ∧ p ≤ q + C ∧ t < R q then t else R q
theorem stpK_le {C p t : Nat} {R : Nat → Nat} {k q : Nat} : stpK C p t R k q ≤ R q := by
  simp only [stpK]; split <;> omega
theorem stpK_at {C p t : Nat} {R : Nat → Nat} {k : Nat} : stpK C p t R k k = R k := by
  simp only [stpK]; rw [if_neg (by omega)]
theorem stpK_ext {C p t : Nat} {R : Nat → Nat} {k k2 : Nat} (h : k ≤ k2) (hq : ∀ q, k ≤ q → q < k2 → ¬ (q ≤ p + C ∧ p ≤ q + C)) : stpK C p t R k2 = stpK C p t R k := by
  funext q
  simp only [stpK]
  by_cases w : q < k ∧ q ≤ p + C ∧ p ≤ q + C ∧ t < R q
  · rw [if_pos w, if_pos ⟨by omega, w.2⟩]
  · rw [if_neg w]
    by_cases w2 : q < k2 ∧ q ≤ p + C ∧ p ≤ q + C ∧ t < R q
    · exact absurd ⟨w2.2.1, w2.2.2.1⟩ (hq q (by omega) w2.1)
    · rw [if_neg w2]
theorem stpK_0 {C p t : Nat} {R : Nat → Nat} : stpK C p t R 0 = R := by
  funext q; simp [stpK]
theorem stpK_lo {C p t : Nat} {R : Nat → Nat} {k : Nat} (hq : ∀ q, 0 ≤ q → q < k → ¬ (q ≤ p + C ∧ p ≤ q + C)) : stpK C p t R k = R := (stpK_ext (Nat.zero_le k) hq).trans stpK_0
theorem stpK_hi {C p t : Nat} {R : Nat → Nat} {k : Nat} (h : k ≤ 12) (hq : ∀ q, k ≤ q → q < 12 → ¬ (q ≤ p + C ∧ p ≤ q + C)) : stpR C p t R = stpK C p t R k := stpK_ext h hq
theorem stpK_s1 {C p t : Nat} {R : Nat → Nat} {k : Nat} (h : k ≤ p + C ∧ p ≤ k + C ∧ t < R k) : stpK C p t R (k + 1) = up (stpK C p t R k) k t := by
  funext q
  simp only [stpK, up]
  by_cases e : q = k
  · subst e; rw [if_pos ⟨by omega, h⟩, if_pos rfl]
  · rw [if_neg e]
    by_cases w : q < k ∧ q ≤ p + C ∧ p ≤ q + C ∧ t < R q
    · rw [if_pos w, if_pos ⟨by omega, w.2⟩]
    · rw [if_neg w, if_neg (fun z => w ⟨by omega, z.2⟩)]
theorem stpK_s0 {C p t : Nat} {R : Nat → Nat} {k : Nat} (h : ¬ (k ≤ p + C ∧ p ≤ k + C ∧ t < R k)) : stpK C p t R (k + 1) = stpK C p t R k := by
  funext q
  simp only [stpK]
  by_cases w : q < k ∧ q ≤ p + C ∧ p ≤ q + C ∧ t < R q
  · rw [if_pos w, if_pos ⟨by omega, w.2⟩]
  · rw [if_neg w, if_neg (fun z => ?_)]
    by_cases e : q = k
    · subst e; exact h z.2
    · exact w ⟨by omega, z.2⟩
section QY
variable {p : Program} {l : Launch} {e : Env} {R : Room} {s : State} {m : MethodId} {args : Array Value} {below : List Frame} {meth : Method} {c : Code} {H : Heap} {locs : List Loc} {cells slots : Nat} {Q : State → Prop} {cc : ByteArray} {pc : Nat} {ls : Array Slot} {rest : List Value}
theorem q_if_gt (hx : p.tables.exec = Jvm.exec) (hb : c.code = cc) {x : Nat} {off : Int} {tgt : Nat} (hdg : decode cc pc = .ok (.ifCond .gt off, 3)) (ht : (pc : Int) + off = (tgt : Int)) (h1 : x < 2147483648)
    (kt : 0 < x → W p l e R s m args below meth c H locs cells slots Q (F0 m tgt ls rest)) (kf : x = 0 → W p l e R s m args below meth c H locs cells slots Q (F0 m (pc + 3) ls rest)) : W p l e R s m args below meth c H locs cells slots Q (F0 m pc ls (.int (nI x) :: rest)) :=
  z_if_gt hx hb hdg ht (fun h => kt (by rw [nI_toInt h1] at h; omega)) (fun h => kf (by rw [nI_toInt h1] at h; omega))
end QY
abbrev rm_X0_begin : Room := { frames := 0, cells := 0, slots := 0, locals := 0 }
set_option maxHeartbeats 4000000 in
set_option maxRecDepth 100000 in
theorem c_X0_begin (l : Launch) (D : va_G) (g : Nat → Nat) (cA : ClassId) (pm : Nat) (jm : Nat) (lm : Nat) (du : Nat) (pr : Nat → Nat) (ja : Nat → Nat) (rt : Nat → Nat)    : CTv l D cA yX0_begin wsX0_begin rm_X0_begin [.ref (g 0)] (wT g cA pm jm lm du pr ja rt) (fun W1 => W1 = wT g cA 0 0 0 0 pr ja (fun _ => 0)) := by
  refine CTv.mk (cc := cX0_begin) (maxL := 2) (ret := none) (by decide) rfl (Nat.le_of_ble_eq_true rfl) ?_
  intro p e s m below meth c A ls E hV hl
  obtain ⟨hx, hb, hml, hr, hown, hts, hlocks, hK, hA, hN⟩ := E
  have hown : s.vm.findClass RX0 = some m.cls := hown
  have hin0 : ∀ w ∈ wsX00, w ∈ wsX0_begin := fun _ h => List.mem_cons_of_mem _ (List.mem_append_right _ h)
  have hl : lv_has ls 2 [(0, .ref (g 0))] := hl
  refine lv_aload_n hx hb dX0_begin_0 rfl (lv_at hl 0 rfl) ?_
  refine lv_iconst (v := nI 0) hx hb dX0_begin_1 (by decide) ?_
  refine q_put (C := RX0) (T := TX0) (N := 7) (ci := 0) (v := .int (nI 0)) (wT g cA 0 jm lm du pr ja rt) hx hb hts hin0 tyX0 tyX0_ok nmX0 hown hK hV 0 rfl rfl 1 (by decide) (List.mem_of_getElem? (i := 1) rfl) rfl rfl rfl (Nat.le_of_ble_eq_true rfl) rfl dX0_begin_2 (fun H locs hV => ?_)
  refine lv_aload_n hx hb dX0_begin_5 rfl (lv_at hl 0 rfl) ?_
  refine lv_iconst (v := nI 0) hx hb dX0_begin_6 (by decide) ?_
  refine q_put (C := RX0) (T := TX0) (N := 7) (ci := 0) (v := .int (nI 0)) (wT g cA 0 0 lm du pr ja rt) hx hb hts hin0 tyX0 tyX0_ok nmX0 hown hK hV 0 rfl rfl 3 (by decide) (List.mem_of_getElem? (i := 2) rfl) rfl rfl rfl (Nat.le_of_ble_eq_true rfl) rfl dX0_begin_7 (fun H locs hV => ?_)
  refine lv_aload_n hx hb dX0_begin_10 rfl (lv_at hl 0 rfl) ?_
  refine lv_iconst (v := nI 0) hx hb dX0_begin_11 (by decide) ?_
  refine q_put (C := RX0) (T := TX0) (N := 7) (ci := 0) (v := .int (nI 0)) (wT g cA 0 0 0 du pr ja rt) hx hb hts hin0 tyX0 tyX0_ok nmX0 hown hK hV 0 rfl rfl 4 (by decide) (List.mem_of_getElem? (i := 3) rfl) rfl rfl rfl (Nat.le_of_ble_eq_true rfl) rfl dX0_begin_12 (fun H locs hV => ?_)
  refine lv_aload_n hx hb dX0_begin_15 rfl (lv_at hl 0 rfl) ?_
  refine lv_iconst (v := nI 0) hx hb dX0_begin_16 (by decide) ?_
  refine q_put (C := RX0) (T := TX0) (N := 7) (ci := 0) (v := .int (nI 0)) (wT g cA 0 0 0 0 pr ja rt) hx hb hts hin0 tyX0 tyX0_ok nmX0 hown hK hV 0 rfl rfl 5 (by decide) (List.mem_of_getElem? (i := 4) rfl) rfl rfl rfl (Nat.le_of_ble_eq_true rfl) rfl dX0_begin_17 (fun H locs hV => ?_)
  refine lv_iconst (v := nI 0) hx hb dX0_begin_20 (by decide) ?_
  refine lv_istore_n (lv' := [(1, .int (nI 0)), (0, .ref (g 0))]) hx hb dX0_begin_21 rfl hl (by decide) rfl (fun ls hl => ?_)
  have lp22 : ∀ (d22 : Nat) (j : Nat) (H : Heap) (locs : List Loc) (ls : Array Slot), (13 ≤ j + d22) → (j ≤ 12) → qV D A s.heap (wT g cA 0 0 0 0 pr ja (zr rt j)) H locs → lv_has ls 2 [(0, .ref (g 0)), (1, .int (nI j))] → W p l e rm_X0_begin s m ([.ref (g 0)] : List Value).toArray below meth c H locs 0 0 (MQ below (va_Qv (fun W1 => W1 = wT g cA 0 0 0 0 pr ja (fun _ => 0)) (cPost D A) A) ([.ref (g 0)] : List Value).toArray s 0 0 A) (F0 m 22 ls []) := by
    intro d22
    induction d22 with
    | zero => intro j H locs ls hm22 hj hV hl; exfalso; omega
    | succ d22 ih22 =>
      intro j H locs ls hm22 hj hV hl
      refine lv_iload_n hx hb dX0_begin_22 rfl (lv_at hl 1 rfl) ?_
      refine lv_bipush (v := nI 12) hx hb dX0_begin_23 (by decide) ?_
      refine q_icmp_ge (x := j) (y := 12) (tgt := 41) hx hb dX0_begin_25 (by decide) (by omega) (by omega) (fun c25 => ?_) (fun c25 => ?_)
      · have ej : j = 12 := by omega
        subst ej
        have hV := hV.arr 3 rfl (g := fun _ => 0) (fun k hk => zr_at rt 12 k hk)
        exact q_vret (W1 := wT g cA 0 0 0 0 pr ja (fun _ => 0)) hx hb hr hlocks hV dX0_begin_41 rfl
      · refine lv_aload_n hx hb dX0_begin_28 rfl (lv_at hl 0 rfl) ?_
        refine q_get (C := RX0) (T := TX0) (N := 7) (ci := 0) (v := .ref (g 3)) hx hb hts hin0 hown hK hV 0 rfl rfl 6 (by decide) (List.mem_of_getElem? (i := 5) rfl) rfl dX0_begin_29 ?_
        refine lv_iload_n hx hb dX0_begin_32 rfl (lv_at hl 1 rfl) ?_
        refine lv_iconst (v := nI 0) hx hb dX0_begin_33 (by decide) ?_
        refine q_iast (n := 12) (k := j) (v := 0) (f := zr rt j) (wT g cA 0 0 0 0 pr ja (up (zr rt j) j 0)) hx hb hK hV 3 rfl (by omega) (by decide) rfl dX0_begin_34 (fun H locs hV => ?_)
        refine q_iinc (x := j) (z := j + 1) (lv' := [(1, .int (nI (j + 1))), (0, .ref (g 0))]) hx hb dX0_begin_35 hl (k := 1) rfl (dd := 1) rfl (by omega) (by decide) rfl (fun ls hl => ?_)
        refine lv_goto (tgt := 22) hx hb dX0_begin_38 (by decide) ?_
        exact ih22  (j + 1) _ _ _ (by omega) (by first | assumption | omega) hV (lv_sub hl [1, 0] rfl)
  exact lp22 13 0 _ _ _ (by omega) (by first | assumption | omega) hV (lv_sub hl [1, 0] rfl)
abbrev rm_X0_inMotion : Room := { frames := 0, cells := 0, slots := 0, locals := 0 }
set_option maxHeartbeats 4000000 in
set_option maxRecDepth 100000 in
theorem c_X0_inMotion (l : Launch) (D : va_G) (g : Nat → Nat) (cA : ClassId) (pm : Nat) (jm : Nat) (lm : Nat) (du : Nat) (pr : Nat → Nat) (ja : Nat → Nat) (rt : Nat → Nat) (a : Nat) (t : Nat)  (h_a : a < 12) (h_t : t < 1073741824) (h_R : ∀ q, rt q < 1073741824) : CTi l D cA yX0_inMotion wsX0_inMotion rm_X0_inMotion [.ref (g 0), .int (nI a), .int (nI t)] (wT g cA pm jm lm du pr ja rt) (fun r W1 => r = nI (if t < rt a then 1 else 0) ∧ W1 = wT g cA pm jm lm du pr ja rt) := by
  refine CTi.mk (cc := cX0_inMotion) (maxL := 3) (ret := some .boolean) (by decide) rfl (Nat.le_of_ble_eq_true rfl) ?_
  intro p e s m below meth c A ls E hV hl
  obtain ⟨hx, hb, hml, hr, hown, hts, hlocks, hK, hA, hN⟩ := E
  have hown : s.vm.findClass RX0 = some m.cls := hown
  have hin0 : ∀ w ∈ wsX00, w ∈ wsX0_inMotion := fun _ h => List.mem_cons_of_mem _ (List.mem_append_right _ h)
  have hl : lv_has ls 3 [(0, .ref (g 0)), (1, .int (nI a)), (2, .int (nI t))] := hl
  refine lv_iload_n hx hb dX0_inMotion_0 rfl (lv_at hl 2 rfl) ?_
  refine lv_aload_n hx hb dX0_inMotion_1 rfl (lv_at hl 0 rfl) ?_
  refine q_get (C := RX0) (T := TX0) (N := 7) (ci := 0) (v := .ref (g 3)) hx hb hts hin0 hown hK hV 0 rfl rfl 6 (by decide) (List.mem_of_getElem? (i := 1) rfl) rfl dX0_inMotion_2 ?_
  refine lv_iload_n hx hb dX0_inMotion_5 rfl (lv_at hl 1 rfl) ?_
  refine q_iald (n := 12) (k := a) (f := rt) hx hb hK hV 3 rfl (by omega) (by omega) dX0_inMotion_6 ?_
  have f1 := h_R a
  refine q_icmp_ge (x := t) (y := (rt a)) (tgt := 14) hx hb dX0_inMotion_7 (by decide) (by omega) (by omega) (fun c7 => ?_) (fun c7 => ?_)
  · refine lv_iconst (v := nI 0) hx hb dX0_inMotion_14 (by decide) ?_
    exact q_zret (W1 := wT g cA pm jm lm du pr ja rt) hx hb hr hlocks hV dX0_inMotion_15 (by first | rfl | exact nb01 (by omega)) ⟨by first | rw [if_pos (by omega)] | rw [if_neg (by omega)], rfl⟩
  · refine lv_iconst (v := nI 1) hx hb dX0_inMotion_10 (by decide) ?_
    refine lv_goto (tgt := 15) hx hb dX0_inMotion_11 (by decide) ?_
    exact q_zret (W1 := wT g cA pm jm lm du pr ja rt) hx hb hr hlocks hV dX0_inMotion_15 (by first | rfl | exact nb01 (by omega)) ⟨by first | rw [if_pos (by omega)] | rw [if_neg (by omega)], rfl⟩
abbrev rm_X0_stopAround : Room := { frames := 1, cells := 0, slots := 0, locals := 22 }
set_option maxHeartbeats 4000000 in
set_option maxRecDepth 100000 in
theorem c_X0_stopAround (l : Launch) (D : va_G) (g : Nat → Nat) (cA : ClassId) (pm : Nat) (jm : Nat) (lm : Nat) (du : Nat) (pr : Nat → Nat) (ja : Nat → Nat) (rt : Nat → Nat) (a : Nat) (b : Nat) (t : Nat)  (h_a : a < 12) (h_b : b ≤ 5) (h_t : t < 1073741824) (h_R : ∀ q, rt q < 1073741824) : CTi l D cA yX0_stopAround wsX0_stopAround rm_X0_stopAround [.ref (g 0), .int (nI a), .int (nI b), .int (nI t)] (wT g cA pm jm lm du pr ja rt) (fun r W1 => r = nI (jamF b a t rt 12) ∧ W1 = wT g cA pm jm lm du pr ja (stpR b a t rt)) := by
  refine CTi.mk (cc := cX0_stopAround) (maxL := 8) (ret := some .boolean) (by decide) rfl (Nat.le_of_ble_eq_true rfl) ?_
  intro p e s m below meth c A ls E hV hl
  obtain ⟨hx, hb, hml, hr, hown, hts, hlocks, hK, hA, hN⟩ := E
  have hown : s.vm.findClass RX0 = some m.cls := hown
  have hin0 : ∀ w ∈ wsX00, w ∈ wsX0_stopAround := fun _ h => List.mem_cons_of_mem _ (List.mem_append_right _ h)
  have hl : lv_has ls 8 [(0, .ref (g 0)), (1, .int (nI a)), (2, .int (nI b)), (3, .int (nI t))] := hl
  refine lv_iconst (v := nI 0) hx hb dX0_stopAround_0 (by decide) ?_
  refine lv_iload_n hx hb dX0_stopAround_1 rfl (lv_at hl 1 rfl) ?_
  refine lv_iload_n hx hb dX0_stopAround_2 rfl (lv_at hl 2 rfl) ?_
  refine lv_isub hx hb dX0_stopAround_3 ?_
  refine q_max0 (x := a) (y := b) hx hb (hml.trans hl.1.symm) hown (hts _ (List.mem_of_getElem? (i := 1) rfl)) (hts _ (List.mem_of_getElem? (i := 2) rfl)) (hts _ (List.mem_of_getElem? (i := 3) rfl)) (hts _ (List.mem_of_getElem? (i := 4) rfl)) (by decide) (by decide) (Nat.zero_le _) (Nat.zero_le _) (by omega) (by omega) dX0_stopAround_4 ?_
  refine lv_istore (lv' := [(4, .int (nI (a - b))), (0, .ref (g 0)), (1, .int (nI a)), (2, .int (nI b)), (3, .int (nI t))]) hx hb dX0_stopAround_7 hl (by decide) rfl (fun ls hl => ?_)
  refine lv_bipush (v := nI 11) hx hb dX0_stopAround_9 (by decide) ?_
  refine lv_iload_n hx hb dX0_stopAround_11 rfl (lv_at hl 2 rfl) ?_
  refine lv_iload_n hx hb dX0_stopAround_12 rfl (lv_at hl 3 rfl) ?_
  refine q_iadd2 (x := a) (y := b) (z := a + b) hx hb (by omega) dX0_stopAround_13 ?_
  refine q_min (x := 11) (y := a + b) hx hb (hml.trans hl.1.symm) hown (hts _ (List.mem_of_getElem? (i := 5) rfl)) (hts _ (List.mem_of_getElem? (i := 6) rfl)) (hts _ (List.mem_of_getElem? (i := 3) rfl)) (hts _ (List.mem_of_getElem? (i := 7) rfl)) (by decide) (by decide) (Nat.zero_le _) (Nat.zero_le _) (by omega) (by omega) dX0_stopAround_14 ?_
  refine lv_istore (lv' := [(5, .int (nI (min 11 (a + b)))), (4, .int (nI (a - b))), (0, .ref (g 0)), (1, .int (nI a)), (2, .int (nI b)), (3, .int (nI t))]) hx hb dX0_stopAround_17 hl (by decide) rfl (fun ls hl => ?_)
  refine lv_iconst (v := nI 0) hx hb dX0_stopAround_19 (by decide) ?_
  refine lv_istore (lv' := [(6, .int (nI 0)), (5, .int (nI (min 11 (a + b)))), (4, .int (nI (a - b))), (0, .ref (g 0)), (1, .int (nI a)), (2, .int (nI b)), (3, .int (nI t))]) hx hb dX0_stopAround_20 hl (by decide) rfl (fun ls hl => ?_)
  refine lv_iload hx hb dX0_stopAround_22 (lv_at hl 2 rfl) ?_
  refine lv_istore (lv' := [(7, .int (nI (a - b))), (6, .int (nI 0)), (5, .int (nI (min 11 (a + b)))), (4, .int (nI (a - b))), (0, .ref (g 0)), (1, .int (nI a)), (2, .int (nI b)), (3, .int (nI t))]) hx hb dX0_stopAround_24 hl (by decide) rfl (fun ls hl => ?_)
  have lp26 : ∀ (d26 : Nat) (j : Nat) (H : Heap) (locs : List Loc) (ls : Array Slot), (13 ≤ j + d26) → (a - b ≤ j) → (j ≤ min 11 (a + b) + 1) → qV D A s.heap (wT g cA pm jm lm du pr ja (stpK b a t rt j)) H locs → lv_has ls 8 [(0, .ref (g 0)), (1, .int (nI a)), (2, .int (nI b)), (3, .int (nI t)), (5, .int (nI (min 11 (a + b)))), (6, .int (nI (jamF b a t rt j))), (7, .int (nI j))] → W p l e rm_X0_stopAround s m ([.ref (g 0), .int (nI a), .int (nI b), .int (nI t)] : List Value).toArray below meth c H locs 0 0 (MQ below (va_Qi (fun r W1 => r = nI (jamF b a t rt 12) ∧ W1 = wT g cA pm jm lm du pr ja (stpR b a t rt)) (cPost D A) A) ([.ref (g 0), .int (nI a), .int (nI b), .int (nI t)] : List Value).toArray s 0 0 A) (F0 m 26 ls []) := by
    intro d26
    induction d26 with
    | zero => intro j H locs ls hm26 hj1 hj2 hV hl; exfalso; omega
    | succ d26 ih26 =>
      intro j H locs ls hm26 hj1 hj2 hV hl
      have f0 := jamF_le b a t rt j
      have hq : ∀ q, stpK b a t rt j q < 1073741824 := fun q => Nat.lt_of_le_of_lt stpK_le (h_R q)
      refine lv_iload hx hb dX0_stopAround_26 (lv_at hl 6 rfl) ?_
      refine lv_iload hx hb dX0_stopAround_28 (lv_at hl 4 rfl) ?_
      refine q_icmp_gt (x := j) (y := (min 11 (a + b))) (tgt := 60) hx hb dX0_stopAround_30 (by decide) (by omega) (by omega) (fun c30 => ?_) (fun c30 => ?_)
      · refine lv_iload hx hb dX0_stopAround_60 (lv_at hl 5 rfl) ?_
        have e1 : jamF b a t rt 12 = jamF b a t rt j := jamF_hi (by omega) (fun q h1 h2 => by omega)
        have e2 : stpR b a t rt = stpK b a t rt j := stpK_hi (by omega) (fun q h1 h2 => by omega)
        exact q_zret (W1 := wT g cA pm jm lm du pr ja (stpK b a t rt j)) hx hb hr hlocks hV dX0_stopAround_62 (by first | rfl | exact nb01 (by omega)) ⟨by rw [e1], by rw [e2]⟩
      · refine lv_aload_n hx hb dX0_stopAround_33 rfl (lv_at hl 0 rfl) ?_
        refine lv_iload hx hb dX0_stopAround_34 (lv_at hl 6 rfl) ?_
        refine lv_iload_n hx hb dX0_stopAround_36 rfl (lv_at hl 3 rfl) ?_
        refine k_V_i (w0 := ([] : va_W)) (wc := wT g cA pm jm lm du pr ja (stpK b a t rt j)) (b := g 0) (As := [.int (nI j), .int (nI t)]) (rest := []) hx hb hml hown hts hK hA hN hV hl.1 (c_X0_inMotion l D g cA pm jm lm du pr ja (stpK b a t rt j) j t  (by first | assumption | omega) (by first | assumption | omega) hq) gX0_stopAround_X0_inMotion rfl rfl rfl hdX0_inMotion ⟨Nat.le_of_ble_eq_true rfl, Nat.le_of_ble_eq_true rfl⟩ 0 0 rfl rfl rfl rfl rfl (Nat.le_of_ble_eq_true rfl) dX0_stopAround_37 ⟨Nat.zero_le _, Nat.zero_le _⟩ (fun r W1 H locs hp hV => ?_)
        obtain ⟨hp1, hp2⟩ := hp
        replace hp1 := hp1.symm
        subst hp1
        replace hp2 := hp2.symm
        subst hp2
        have hV : qV D A s.heap (wT g cA pm jm lm du pr ja (stpK b a t rt j)) H locs := hV
        have f1 := ite_le (t < (stpK b a t rt j) j)
        refine q_if_eq (x := (if t < (stpK b a t rt j) j then 1 else 0)) (tgt := 54) hx hb dX0_stopAround_40 (by decide) (by omega) (fun c40 => ?_) (fun c40 => ?_)
        · rw [stpK_at] at c40
          have c40 := ite0 c40
          refine q_iinc (x := j) (z := j + 1) (lv' := [(7, .int (nI (j + 1))), (0, .ref (g 0)), (1, .int (nI a)), (2, .int (nI b)), (3, .int (nI t)), (5, .int (nI (min 11 (a + b)))), (6, .int (nI (jamF b a t rt j)))]) hx hb dX0_stopAround_54 hl (k := 6) rfl (dd := 1) rfl (by omega) (by decide) rfl (fun ls hl => ?_)
          refine lv_goto (tgt := 26) hx hb dX0_stopAround_57 (by decide) ?_
          have e1 : jamF b a t rt (j + 1) = jamF b a t rt j := if_neg (fun q => c40 q.2.2)
          have e2 : stpK b a t rt (j + 1) = stpK b a t rt j := stpK_s0 (fun q => c40 q.2.2)
          exact ih26  (j + 1) _ _ _ (by omega) (by first | assumption | omega) (by first | assumption | omega) (by rw [e2]; exact hV) (by rw [e1]; exact lv_sub hl [1, 2, 3, 4, 5, 6, 0] rfl)
        · rw [stpK_at] at c40
          have c40 := ite1 c40
          refine lv_aload_n hx hb dX0_stopAround_43 rfl (lv_at hl 0 rfl) ?_
          refine q_get (C := RX0) (T := TX0) (N := 7) (ci := 0) (v := .ref (g 3)) hx hb hts hin0 hown hK hV 0 rfl rfl 6 (by decide) (List.mem_of_getElem? (i := 8) rfl) rfl dX0_stopAround_44 ?_
          refine lv_iload hx hb dX0_stopAround_47 (lv_at hl 6 rfl) ?_
          refine lv_iload_n hx hb dX0_stopAround_49 rfl (lv_at hl 3 rfl) ?_
          refine q_iast (n := 12) (k := j) (v := t) (f := (stpK b a t rt j)) (wT g cA pm jm lm du pr ja (up (stpK b a t rt j) j t)) hx hb hK hV 3 rfl (by omega) (by decide) rfl dX0_stopAround_50 (fun H locs hV => ?_)
          refine lv_iconst (v := nI 1) hx hb dX0_stopAround_51 (by decide) ?_
          refine lv_istore (lv' := [(6, .int (nI 1)), (0, .ref (g 0)), (1, .int (nI a)), (2, .int (nI b)), (3, .int (nI t)), (5, .int (nI (min 11 (a + b)))), (7, .int (nI j))]) hx hb dX0_stopAround_52 hl (by decide) rfl (fun ls hl => ?_)
          refine q_iinc (x := j) (z := j + 1) (lv' := [(7, .int (nI (j + 1))), (6, .int (nI 1)), (0, .ref (g 0)), (1, .int (nI a)), (2, .int (nI b)), (3, .int (nI t)), (5, .int (nI (min 11 (a + b))))]) hx hb dX0_stopAround_54 hl (k := 6) rfl (dd := 1) rfl (by omega) (by decide) rfl (fun ls hl => ?_)
          refine lv_goto (tgt := 26) hx hb dX0_stopAround_57 (by decide) ?_
          have e1 : jamF b a t rt (j + 1) = 1 := if_pos ⟨by omega, by omega, c40⟩
          have e2 : stpK b a t rt (j + 1) = up (stpK b a t rt j) j t := stpK_s1 ⟨by omega, by omega, c40⟩
          exact ih26  (j + 1) _ _ _ (by omega) (by first | assumption | omega) (by first | assumption | omega) (by rw [e2]; exact hV) (by rw [e1]; exact lv_sub hl [2, 3, 4, 5, 6, 1, 0] rfl)
  have e1 : jamF b a t rt (a - b) = 0 := jamF_lo (fun q h1 h2 => by omega)
  have e2 : stpK b a t rt (a - b) = rt := stpK_lo (fun q h1 h2 => by omega)
  exact lp26 13 (a - b) _ _ _ (by omega) (by first | assumption | omega) (by first | assumption | omega) (by rw [e2]; exact hV) (by rw [e1]; exact lv_sub hl [4, 5, 6, 7, 2, 1, 0] rfl)
abbrev rm_X0_addPrinted : Room := { frames := 0, cells := 0, slots := 0, locals := 0 }
set_option maxHeartbeats 4000000 in
set_option maxRecDepth 100000 in
theorem c_X0_addPrinted (l : Launch) (D : va_G) (g : Nat → Nat) (cA : ClassId) (pm : Nat) (jm : Nat) (lm : Nat) (du : Nat) (pr : Nat → Nat) (ja : Nat → Nat) (rt : Nat → Nat) (a : Nat)  (h_m : pm < 60) : CTv l D cA yX0_addPrinted wsX0_addPrinted rm_X0_addPrinted [.ref (g 0), .int (nI a)] (wT g cA pm jm lm du pr ja rt) (fun W1 => W1 = wT g cA (pm + 1) jm lm du (up pr pm a) ja rt) := by
  refine CTv.mk (cc := cX0_addPrinted) (maxL := 2) (ret := none) (by decide) rfl (Nat.le_of_ble_eq_true rfl) ?_
  intro p e s m below meth c A ls E hV hl
  obtain ⟨hx, hb, hml, hr, hown, hts, hlocks, hK, hA, hN⟩ := E
  have hown : s.vm.findClass RX0 = some m.cls := hown
  have hin0 : ∀ w ∈ wsX00, w ∈ wsX0_addPrinted := fun _ h => List.mem_cons_of_mem _ (List.mem_append_right _ h)
  have hl : lv_has ls 2 [(0, .ref (g 0)), (1, .int (nI a))] := hl
  refine lv_aload_n hx hb dX0_addPrinted_0 rfl (lv_at hl 0 rfl) ?_
  refine q_get (C := RX0) (T := TX0) (N := 7) (ci := 0) (v := .int (nI pm)) hx hb hts hin0 hown hK hV 0 rfl rfl 1 (by decide) (List.mem_of_getElem? (i := 1) rfl) rfl dX0_addPrinted_1 ?_
  refine lv_bipush (v := nI 60) hx hb dX0_addPrinted_4 (by decide) ?_
  refine q_icmp_ge (x := pm) (y := 60) (tgt := 29) hx hb dX0_addPrinted_6 (by decide) (by omega) (by omega) (fun c6 => ?_) (fun c6 => ?_)
  · exfalso; omega
  · refine lv_aload_n hx hb dX0_addPrinted_9 rfl (lv_at hl 0 rfl) ?_
    refine q_get (C := RX0) (T := TX0) (N := 7) (ci := 0) (v := .ref (g 1)) hx hb hts hin0 hown hK hV 0 rfl rfl 0 (by decide) (List.mem_of_getElem? (i := 2) rfl) rfl dX0_addPrinted_10 ?_
    refine lv_aload_n hx hb dX0_addPrinted_13 rfl (lv_at hl 0 rfl) ?_
    refine q_get (C := RX0) (T := TX0) (N := 7) (ci := 0) (v := .int (nI pm)) hx hb hts hin0 hown hK hV 0 rfl rfl 1 (by decide) (List.mem_of_getElem? (i := 1) rfl) rfl dX0_addPrinted_14 ?_
    refine lv_iload_n hx hb dX0_addPrinted_17 rfl (lv_at hl 1 rfl) ?_
    refine q_iast (n := 60) (k := pm) (v := a) (f := pr) (wT g cA pm jm lm du (up pr pm a) ja rt) hx hb hK hV 1 rfl (by omega) (by decide) rfl dX0_addPrinted_18 (fun H locs hV => ?_)
    refine lv_aload_n hx hb dX0_addPrinted_19 rfl (lv_at hl 0 rfl) ?_
    refine lv_dup hx hb dX0_addPrinted_20 rfl ?_
    refine q_get (C := RX0) (T := TX0) (N := 7) (ci := 0) (v := .int (nI pm)) hx hb hts hin0 hown hK hV 0 rfl rfl 1 (by decide) (List.mem_of_getElem? (i := 1) rfl) rfl dX0_addPrinted_21 ?_
    refine lv_iconst (v := nI 1) hx hb dX0_addPrinted_24 (by decide) ?_
    refine q_iadd2 (x := pm) (y := 1) (z := pm + 1) hx hb (by omega) dX0_addPrinted_25 ?_
    refine q_put (C := RX0) (T := TX0) (N := 7) (ci := 0) (v := .int (nI (pm + 1))) (wT g cA (pm + 1) jm lm du (up pr pm a) ja rt) hx hb hts hin0 tyX0 tyX0_ok nmX0 hown hK hV 0 rfl rfl 1 (by decide) (List.mem_of_getElem? (i := 1) rfl) rfl rfl rfl (Nat.le_of_ble_eq_true rfl) rfl dX0_addPrinted_26 (fun H locs hV => ?_)
    exact q_vret (W1 := wT g cA (pm + 1) jm lm du (up pr pm a) ja rt) hx hb hr hlocks hV dX0_addPrinted_29 rfl
abbrev rm_X0_addJammed : Room := { frames := 0, cells := 0, slots := 0, locals := 0 }
set_option maxHeartbeats 4000000 in
set_option maxRecDepth 100000 in
theorem c_X0_addJammed (l : Launch) (D : va_G) (g : Nat → Nat) (cA : ClassId) (pm : Nat) (jm : Nat) (lm : Nat) (du : Nat) (pr : Nat → Nat) (ja : Nat → Nat) (rt : Nat → Nat) (a : Nat)  (h_m : jm < 60) : CTv l D cA yX0_addJammed wsX0_addJammed rm_X0_addJammed [.ref (g 0), .int (nI a)] (wT g cA pm jm lm du pr ja rt) (fun W1 => W1 = wT g cA pm (jm + 1) lm du pr (up ja jm a) rt) := by
  refine CTv.mk (cc := cX0_addJammed) (maxL := 2) (ret := none) (by decide) rfl (Nat.le_of_ble_eq_true rfl) ?_
  intro p e s m below meth c A ls E hV hl
  obtain ⟨hx, hb, hml, hr, hown, hts, hlocks, hK, hA, hN⟩ := E
  have hown : s.vm.findClass RX0 = some m.cls := hown
  have hin0 : ∀ w ∈ wsX00, w ∈ wsX0_addJammed := fun _ h => List.mem_cons_of_mem _ (List.mem_append_right _ h)
  have hl : lv_has ls 2 [(0, .ref (g 0)), (1, .int (nI a))] := hl
  refine lv_aload_n hx hb dX0_addJammed_0 rfl (lv_at hl 0 rfl) ?_
  refine q_get (C := RX0) (T := TX0) (N := 7) (ci := 0) (v := .int (nI jm)) hx hb hts hin0 hown hK hV 0 rfl rfl 3 (by decide) (List.mem_of_getElem? (i := 1) rfl) rfl dX0_addJammed_1 ?_
  refine lv_bipush (v := nI 60) hx hb dX0_addJammed_4 (by decide) ?_
  refine q_icmp_ge (x := jm) (y := 60) (tgt := 29) hx hb dX0_addJammed_6 (by decide) (by omega) (by omega) (fun c6 => ?_) (fun c6 => ?_)
  · exfalso; omega
  · refine lv_aload_n hx hb dX0_addJammed_9 rfl (lv_at hl 0 rfl) ?_
    refine q_get (C := RX0) (T := TX0) (N := 7) (ci := 0) (v := .ref (g 2)) hx hb hts hin0 hown hK hV 0 rfl rfl 2 (by decide) (List.mem_of_getElem? (i := 2) rfl) rfl dX0_addJammed_10 ?_
    refine lv_aload_n hx hb dX0_addJammed_13 rfl (lv_at hl 0 rfl) ?_
    refine q_get (C := RX0) (T := TX0) (N := 7) (ci := 0) (v := .int (nI jm)) hx hb hts hin0 hown hK hV 0 rfl rfl 3 (by decide) (List.mem_of_getElem? (i := 1) rfl) rfl dX0_addJammed_14 ?_
    refine lv_iload_n hx hb dX0_addJammed_17 rfl (lv_at hl 1 rfl) ?_
    refine q_iast (n := 60) (k := jm) (v := a) (f := ja) (wT g cA pm jm lm du pr (up ja jm a) rt) hx hb hK hV 2 rfl (by omega) (by decide) rfl dX0_addJammed_18 (fun H locs hV => ?_)
    refine lv_aload_n hx hb dX0_addJammed_19 rfl (lv_at hl 0 rfl) ?_
    refine lv_dup hx hb dX0_addJammed_20 rfl ?_
    refine q_get (C := RX0) (T := TX0) (N := 7) (ci := 0) (v := .int (nI jm)) hx hb hts hin0 hown hK hV 0 rfl rfl 3 (by decide) (List.mem_of_getElem? (i := 1) rfl) rfl dX0_addJammed_21 ?_
    refine lv_iconst (v := nI 1) hx hb dX0_addJammed_24 (by decide) ?_
    refine q_iadd2 (x := jm) (y := 1) (z := jm + 1) hx hb (by omega) dX0_addJammed_25 ?_
    refine q_put (C := RX0) (T := TX0) (N := 7) (ci := 0) (v := .int (nI (jm + 1))) (wT g cA pm (jm + 1) lm du pr (up ja jm a) rt) hx hb hts hin0 tyX0 tyX0_ok nmX0 hown hK hV 0 rfl rfl 3 (by decide) (List.mem_of_getElem? (i := 1) rfl) rfl rfl rfl (Nat.le_of_ble_eq_true rfl) rfl dX0_addJammed_26 (fun H locs hV => ?_)
    exact q_vret (W1 := wT g cA pm (jm + 1) lm du pr (up ja jm a) rt) hx hb hr hlocks hV dX0_addJammed_29 rfl
