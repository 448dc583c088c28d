/-! THE CLAIM OUT OF ONE WALK OF THE LAW'S BODY. Your part is whole_start (and what it stands on); all else here is the same for every law, but numbers. -/
def R_law : String := "TypebarLayoutLaw"
def lw_P (b : Addr) (xs : List Int32) (args : Array Value) (s : State) : Prop := args = #[.ref b] ∧ s.IntsAt b xs ∧ xs.length ≤ 1536 ∧ (Jvm.Cond.and given_1 narrow_1).before args s = true
def lw_Q (_ : Array Value) (s : State) (o : Outcome) (t : State) : Prop := o = .returned (some (.int 1)) ∧ Framed s o t [] 24 792
def lw_Z (below : List Frame) (a : Array Value) (s : State) : State → Prop := fun t => ∃ o, t.status = .running ∧ Ended t below o ∧ lw_Q a s o t
/-- the law's own end, with 1 on the stack, nothing written that was there before, its room as the claim has it -/
theorem lw_ret {p : Program} {l : Launch} {e : Env} {s : State} {m : MethodId} {below : List Frame} {meth : Method} {c : Code} {b : Nat} (hx : p.tables.exec = Jvm.exec) (hb : c.code = code) (hr : meth.sig.returnType = ret) (hlocks : meth.locks = false) {pc : Nat} {H : Heap} {ls : Array Slot} (hdg : decode code pc = .ok (.ireturn, 1)) : W p l e room_1 s m #[Value.ref b] below meth c H [] 24 792 (lw_Z below #[Value.ref b] s) (F0 m pc ls [.int 1]) := by
  intro T hT X
  obtain ⟨fs, hret, hrun, hended, hW, hframe⟩ := X.leave (v := some (.int 1)) (hlocks := hlocks) (fun h => by rw [hr] at h; cases h)
  have hmeth' : T.vm.method? m = some meth := X.method'
  refine ⟨T.setFrames fs, ?_, .returned (some (.int 1)), hrun, hended, rfl, ⟨_, rfl⟩, hW, hframe⟩
  jvm_step X.here [X.here.top, hx, hb, hdg, hmeth', hr, ret, narrow_b1]
  (try refine ⟨rfl, ?_⟩); (try refine ⟨rfl, ?_⟩)
  first | (intro acts; rw [hret _ acts rfl rfl rfl]) | rw [hret _ _ rfl rfl rfl]
  exact Steps.refl _
/-- what holds at the law's entry: the machine, the code, the tables' words (any of lw_tbl by 'hts w (by decide +kernel)'), the script of L ints xs at the cell b, what the Statement gives of the start (any of its parts by flat_of_before) -/
def lw_At (p : Program) (s : State) (m : MethodId) (meth : Method) (c : Code) (b L : Nat) (xs : Nat → Int32) : Prop :=
  p.tables.exec = Jvm.exec ∧ c.code = code ∧ meth.sig.returnType = ret ∧ c.maxLocals = 4 ∧ s.vm.findClass R_law = some m.cls ∧ (∀ w ∈ lw_tbl, w.before #[Value.ref b] s = true) ∧ va_X b L xs s s.heap ∧ b < s.heap.size ∧ meth.locks = false ∧ (Jvm.Cond.and given_1 narrow_1).before #[Value.ref b] s = true
/-! the law: a call on each side, the answers alike -/
theorem q_sld {p : Program} {l : Launch} {e : Env} {R : Room} {s : State} {m : MethodId} {args : Array Value} {below : List Frame} {meth : Method} {c : Code} {H : Heap} {locs : List Loc} {cells slots : Nat} {Q : State → Prop} {cc : ByteArray} {pc : Nat} {ls : Array Slot} {rest : List Value} {A : Nat → Prop} {H0 : Heap} (hx : p.tables.exec = Jvm.exec) (hb : c.code = cc) {b Ln : Nat} {xs : Nat → Int32} (hX : va_X b Ln xs s H0) (hbl : b < H0.size) (hbA : ¬ A b) (hS : va_S A H0 H locs) {k : Nat} (hk : k < Ln) (hn : Ln < 2147483648) (hdg : decode cc pc = .ok (.iaload, 1))
    (kk : W p l e R s m args below meth c H locs cells slots Q (F0 m (pc + 1) ls (.int (xs k) :: rest))) : W p l e R s m args below meth c H locs cells slots Q (F0 m pc ls (.int (nI k) :: .ref b :: rest)) := by
  refine va_sld hx hb hX hbl hbA hS (vp_in_nI hk hn) hdg ?_
  rw [nI_clamp (by omega)]
  exact kk
/-- from behind a call's case on -/
def LK (p : Program) (l : Launch) (e : Env) (s : State) (m : MethodId) (below : List Frame) (meth : Method) (c : Code) (b : Nat) (D : va_G) (cA : ClassId) (A : Nat → Prop) (h g k f : Nat → Nat) (i : Nat) : Prop :=
  ∀ (n : Nat) (tx : Nat → Nat) (T : Nat) (C : Nat) (K : Nat) (L : Nat → Nat) (P : Nat → Nat) (u : Nat) (ua : Nat → Nat) (ub : Nat → Nat) (pm : Nat) (jm : Nat) (lm : Nat) (du : Nat) (pr : Nat → Nat) (ja : Nat → Nat) (rt : Nat → Nat) (pm2 : Nat) (jm2 : Nat) (lm2 : Nat) (du2 : Nat) (pr2 : Nat → Nat) (ja2 : Nat → Nat) (rt2 : Nat → Nat) (lt : Nat) (hh : Int64) (rs : Nat → Nat) (os : Nat → Nat), sInv n tx T C K (L, P, u, ua, ub) (pm, jm, lm, du, pr, ja) → ∀ (H : Heap) (locs : List Loc) (ls : Array Slot), qV D A s.heap ((wC h (g 0) (k 0) cA n tx T C K L P u ua ub) ++ (wT g cA pm jm lm du pr ja rt) ++ (wT k cA pm2 jm2 lm2 du2 pr2 ja2 rt2) ++ (wD f cA n tx T C K P L u ua ub pm jm lm du lt hh) ++ (wY f cA pr ja rs os)) H locs → lv_has ls 4 [(0, .ref b), (1, .ref (h 0)), (2, .ref (f 0)), (3, .int (nI i))] → W p l e room_1 s m #[Value.ref b] below meth c H locs 24 792 (lw_Z below #[Value.ref b] s) (F0 m 651 ls [])
set_option maxHeartbeats 4000000 in
set_option maxRecDepth 100000 in
theorem lc_0 {p : Program} {e : Env} {s : State} {m : MethodId} {below : List Frame} {meth : Method} {c : Code} (l : Launch) {b Ln : Nat} {xs : Nat → Int32} (hL : Ln ≤ 1536) (C0 : lw_At p s m meth c b Ln xs) (D : va_G) (cA : ClassId) (A : Nat → Prop) (hA : ∀ q, s.heap.size ≤ q → A q) (hbA : ¬ A b) (hK : va_K D vwCl [(cA, .int)] s) (hN : nW s) (h g k f : Nat → Nat) (i : Nat) (hi : i + 3 ≤ Ln) (ih : LK p l e s m below meth c b D cA A h g k f i) (n : Nat) (tx : Nat → Nat) (T : Nat) (C : Nat) (K : Nat) (L : Nat → Nat) (P : Nat → Nat) (u : Nat) (ua : Nat → Nat) (ub : Nat → Nat) (pm : Nat) (jm : Nat) (lm : Nat) (du : Nat) (pr : Nat → Nat) (ja : Nat → Nat) (rt : Nat → Nat) (pm2 : Nat) (jm2 : Nat) (lm2 : Nat) (du2 : Nat) (pr2 : Nat → Nat) (ja2 : Nat → Nat) (rt2 : Nat → Nat) (lt : Nat) (hh : Int64) (rs : Nat → Nat) (os : Nat → Nat) (hI : sInv n tx T C K (L, P, u, ua, ub) (pm, jm, lm, du, pr, ja)) (H : Heap) (locs : List Loc) (ls : Array Slot) (hV : qV D A s.heap ((wC h (g 0) (k 0) cA n tx T C K L P u ua ub) ++ (wT g cA pm jm lm du pr ja rt) ++ (wT k cA pm2 jm2 lm2 du2 pr2 ja2 rt2) ++ (wD f cA n tx T C K P L u ua ub pm jm lm du lt hh) ++ (wY f cA pr ja rs os)) H locs) (hl : lv_has ls 4 [(0, .ref b), (1, .ref (h 0)), (2, .ref (f 0)), (3, .int (nI i))]) : W p l e room_1 s m #[Value.ref b] below meth c H locs 24 792 (lw_Z below #[Value.ref b] s) (F0 m 152 ls []) := by
  obtain ⟨hx, hb, hr, hml, hown, hts, hX, hbl, hlocks, hgv⟩ := id C0
  have hts : ∀ w ∈ wsL_law, w.before #[Value.ref b] s = true := fun w h => hts w (wsL_law_in w h)
  have hown : s.vm.findClass RL = some m.cls := hown
  obtain ⟨hn, htx, hT, hC, hK5, ⟨hp, hu, hua, hub⟩, h_pm, h_jm⟩ := id hI
  refine lv_aload_n hx hb dL_law_152 rfl (lv_at hl 1 rfl) ?_
  refine lv_aload_n hx hb dL_law_153 rfl (lv_at hl 0 rfl) ?_
  refine lv_iload_n hx hb dL_law_154 rfl (lv_at hl 3 rfl) ?_
  refine lv_iconst (v := nI 1) hx hb dL_law_155 (by decide) ?_
  refine q_iadd2 (x := i) (y := 1) (z := i + 1) hx hb (by omega) dL_law_156 ?_
  refine q_sld (k := i + 1) hx hb hX hbl hbA hV.2.2 (by omega) (by omega) dL_law_157 ?_
  have hV : qV D A s.heap ((wT g cA pm jm lm du pr ja rt) ++ (wT k cA pm2 jm2 lm2 du2 pr2 ja2 rt2) ++ (wD f cA n tx T C K P L u ua ub pm jm lm du lt hh) ++ (wY f cA pr ja rs os) ++ (wC h (g 0) (k 0) cA n tx T C K L P u ua ub)) H locs := hV.sub [6, 7, 8, 9, 10, 11, 12, 13, 14, 15, 16, 17, 18, 19, 20, 21, 22, 23, 0, 1, 2, 3, 4, 5] rfl rfl
  refine k_V_i (w0 := (wT g cA pm jm lm du pr ja rt) ++ (wT k cA pm2 jm2 lm2 du2 pr2 ja2 rt2) ++ (wD f cA n tx T C K P L u ua ub pm jm lm du lt hh) ++ (wY f cA pr ja rs os)) (wc := wC h (g 0) (k 0) cA n tx T C K L P u ua ub) (b := h 0) (As := [.int (xs (i + 1))]) (rest := []) hx hb hml hown hts hK hA hN hV hl.1 (c_X1_append l D h (g 0) (k 0) cA n tx T C K L P u ua ub (xs (i + 1)) (by first | omega | assumption)) gL_law_X1_append rfl rfl rfl hdX1_append ⟨Nat.le_of_ble_eq_true rfl, Nat.le_of_ble_eq_true rfl⟩ 18 1 rfl rfl rfl rfl rfl (Nat.le_of_ble_eq_true rfl) dL_law_158 ⟨Nat.le_of_ble_eq_true rfl, Nat.le_of_ble_eq_true rfl⟩ (fun r W1 H locs hp hV => ?_)
  obtain ⟨hp1, hp2⟩ := hp
  replace hp1 := hp1.symm
  subst hp1
  replace hp2 := hp2.symm
  subst hp2
  have hV : qV D A s.heap ((wT g cA pm jm lm du pr ja rt) ++ (wT k cA pm2 jm2 lm2 du2 pr2 ja2 rt2) ++ (wD f cA n tx T C K P L u ua ub pm jm lm du lt hh) ++ (wY f cA pr ja rs os) ++ (wC h (g 0) (k 0) cA (nApp n (xs (i + 1))) (tApp n tx (xs (i + 1))) T C K L P u ua ub)) H locs := hV
  have hV : qV D A s.heap ((wC h (g 0) (k 0) cA (nApp n (xs (i + 1))) (tApp n tx (xs (i + 1))) T C K L P u ua ub) ++ (wT g cA pm jm lm du pr ja rt) ++ (wT k cA pm2 jm2 lm2 du2 pr2 ja2 rt2) ++ (wD f cA n tx T C K P L u ua ub pm jm lm du lt hh) ++ (wY f cA pr ja rs os)) H locs := hV.sub [18, 19, 20, 21, 22, 23, 0, 1, 2, 3, 4, 5, 6, 7, 8, 9, 10, 11, 12, 13, 14, 15, 16, 17] rfl rfl
  refine lv_aload_n hx hb dL_law_161 rfl (lv_at hl 2 rfl) ?_
  refine lv_aload_n hx hb dL_law_162 rfl (lv_at hl 0 rfl) ?_
  refine lv_iload_n hx hb dL_law_163 rfl (lv_at hl 3 rfl) ?_
  refine lv_iconst (v := nI 1) hx hb dL_law_164 (by decide) ?_
  refine q_iadd2 (x := i) (y := 1) (z := i + 1) hx hb (by omega) dL_law_165 ?_
  refine q_sld (k := i + 1) hx hb hX hbl hbA hV.2.2 (by omega) (by omega) dL_law_166 ?_
  have hV : qV D A s.heap ((wC h (g 0) (k 0) cA (nApp n (xs (i + 1))) (tApp n tx (xs (i + 1))) T C K L P u ua ub) ++ (wT g cA pm jm lm du pr ja rt) ++ (wT k cA pm2 jm2 lm2 du2 pr2 ja2 rt2) ++ (wY f cA pr ja rs os) ++ (wD f cA n tx T C K P L u ua ub pm jm lm du lt hh)) H locs := hV.sub [0, 1, 2, 3, 4, 5, 6, 7, 8, 9, 10, 11, 12, 13, 20, 21, 22, 23, 14, 15, 16, 17, 18, 19] rfl rfl
  refine k_V_i (w0 := (wC h (g 0) (k 0) cA (nApp n (xs (i + 1))) (tApp n tx (xs (i + 1))) T C K L P u ua ub) ++ (wT g cA pm jm lm du pr ja rt) ++ (wT k cA pm2 jm2 lm2 du2 pr2 ja2 rt2) ++ (wY f cA pr ja rs os)) (wc := wD f cA n tx T C K P L u ua ub pm jm lm du lt hh) (b := f 0) (As := [.int (xs (i + 1))]) (rest := [.int (aApp n (xs (i + 1)))]) hx hb hml hown hts hK hA hN hV hl.1 (c_X2_append l D f cA n tx T C K P L u ua ub pm jm lm du lt hh (xs (i + 1)) (by first | omega | assumption)) gL_law_X2_append rfl rfl rfl hdX2_append ⟨Nat.le_of_ble_eq_true rfl, Nat.le_of_ble_eq_true rfl⟩ 18 2 rfl rfl rfl rfl rfl (Nat.le_of_ble_eq_true rfl) dL_law_167 ⟨Nat.le_of_ble_eq_true rfl, Nat.le_of_ble_eq_true rfl⟩ (fun r W1 H locs hp hV => ?_)
  obtain ⟨hp1, hp2⟩ := hp
  replace hp1 := hp1.symm
  subst hp1
  replace hp2 := hp2.symm
  subst hp2
  have hV : qV D A s.heap ((wC h (g 0) (k 0) cA (nApp n (xs (i + 1))) (tApp n tx (xs (i + 1))) T C K L P u ua ub) ++ (wT g cA pm jm lm du pr ja rt) ++ (wT k cA pm2 jm2 lm2 du2 pr2 ja2 rt2) ++ (wY f cA pr ja rs os) ++ (wD f cA (nApp n (xs (i + 1))) (tApp n tx (xs (i + 1))) T C K P L u ua ub pm jm lm du lt hh)) H locs := hV
  have hV : qV D A s.heap ((wC h (g 0) (k 0) cA (nApp n (xs (i + 1))) (tApp n tx (xs (i + 1))) T C K L P u ua ub) ++ (wT g cA pm jm lm du pr ja rt) ++ (wT k cA pm2 jm2 lm2 du2 pr2 ja2 rt2) ++ (wD f cA (nApp n (xs (i + 1))) (tApp n tx (xs (i + 1))) T C K P L u ua ub pm jm lm du lt hh) ++ (wY f cA pr ja rs os)) H locs := hV.sub [0, 1, 2, 3, 4, 5, 6, 7, 8, 9, 10, 11, 12, 13, 18, 19, 20, 21, 22, 23, 14, 15, 16, 17] rfl rfl
  refine z_icmp_eq (tgt := 651) hx hb dL_law_170 (by decide) (fun _ => ?_) (fun c1 => absurd rfl c1)
  exact ih _ _ _ _ _ _ _ _ _ _ _ _ _ _ _ _ _ _ _ _ _ _ _ _ _ _ _ _ (hI.append (xs (i + 1))) _ _ _ hV hl
set_option maxHeartbeats 4000000 in
set_option maxRecDepth 100000 in
theorem lc_1 {p : Program} {e : Env} {s : State} {m : MethodId} {below : List Frame} {meth : Method} {c : Code} (l : Launch) {b Ln : Nat} {xs : Nat → Int32} (hL : Ln ≤ 1536) (C0 : lw_At p s m meth c b Ln xs) (D : va_G) (cA : ClassId) (A : Nat → Prop) (hA : ∀ q, s.heap.size ≤ q → A q) (hbA : ¬ A b) (hK : va_K D vwCl [(cA, .int)] s) (hN : nW s) (h g k f : Nat → Nat) (i : Nat) (hi : i + 3 ≤ Ln) (ih : LK p l e s m below meth c b D cA A h g k f i) (n : Nat) (tx : Nat → Nat) (T : Nat) (C : Nat) (K : Nat) (L : Nat → Nat) (P : Nat → Nat) (u : Nat) (ua : Nat → Nat) (ub : Nat → Nat) (pm : Nat) (jm : Nat) (lm : Nat) (du : Nat) (pr : Nat → Nat) (ja : Nat → Nat) (rt : Nat → Nat) (pm2 : Nat) (jm2 : Nat) (lm2 : Nat) (du2 : Nat) (pr2 : Nat → Nat) (ja2 : Nat → Nat) (rt2 : Nat → Nat) (lt : Nat) (hh : Int64) (rs : Nat → Nat) (os : Nat → Nat) (hI : sInv n tx T C K (L, P, u, ua, ub) (pm, jm, lm, du, pr, ja)) (H : Heap) (locs : List Loc) (ls : Array Slot) (hV : qV D A s.heap ((wC h (g 0) (k 0) cA n tx T C K L P u ua ub) ++ (wT g cA pm jm lm du pr ja rt) ++ (wT k cA pm2 jm2 lm2 du2 pr2 ja2 rt2) ++ (wD f cA n tx T C K P L u ua ub pm jm lm du lt hh) ++ (wY f cA pr ja rs os)) H locs) (hl : lv_has ls 4 [(0, .ref b), (1, .ref (h 0)), (2, .ref (f 0)), (3, .int (nI i))]) : W p l e room_1 s m #[Value.ref b] below meth c H locs 24 792 (lw_Z below #[Value.ref b] s) (F0 m 175 ls []) := by
  obtain ⟨hx, hb, hr, hml, hown, hts, hX, hbl, hlocks, hgv⟩ := id C0
  have hts : ∀ w ∈ wsL_law, w.before #[Value.ref b] s = true := fun w h => hts w (wsL_law_in w h)
  have hown : s.vm.findClass RL = some m.cls := hown
  obtain ⟨hn, htx, hT, hC, hK5, ⟨hp, hu, hua, hub⟩, h_pm, h_jm⟩ := id hI
  refine lv_aload_n hx hb dL_law_175 rfl (lv_at hl 1 rfl) ?_
  have hV : qV D A s.heap ((wT g cA pm jm lm du pr ja rt) ++ (wT k cA pm2 jm2 lm2 du2 pr2 ja2 rt2) ++ (wD f cA n tx T C K P L u ua ub pm jm lm du lt hh) ++ (wY f cA pr ja rs os) ++ (wC h (g 0) (k 0) cA n tx T C K L P u ua ub)) H locs := hV.sub [6, 7, 8, 9, 10, 11, 12, 13, 14, 15, 16, 17, 18, 19, 20, 21, 22, 23, 0, 1, 2, 3, 4, 5] rfl rfl
  refine k_V_i (w0 := (wT g cA pm jm lm du pr ja rt) ++ (wT k cA pm2 jm2 lm2 du2 pr2 ja2 rt2) ++ (wD f cA n tx T C K P L u ua ub pm jm lm du lt hh) ++ (wY f cA pr ja rs os)) (wc := wC h (g 0) (k 0) cA n tx T C K L P u ua ub) (b := h 0) (As := []) (rest := []) hx hb hml hown hts hK hA hN hV hl.1 (c_X1_clearText l D h (g 0) (k 0) cA n tx T C K L P u ua ub  ) gL_law_X1_clearText rfl rfl rfl hdX1_clearText ⟨Nat.le_of_ble_eq_true rfl, Nat.le_of_ble_eq_true rfl⟩ 18 1 rfl rfl rfl rfl rfl (Nat.le_of_ble_eq_true rfl) dL_law_176 ⟨Nat.le_of_ble_eq_true rfl, Nat.le_of_ble_eq_true rfl⟩ (fun r W1 H locs hp hV => ?_)
  obtain ⟨hp1, hp2⟩ := hp
  replace hp1 := hp1.symm
  subst hp1
  replace hp2 := hp2.symm
  subst hp2
  have hV : qV D A s.heap ((wT g cA pm jm lm du pr ja rt) ++ (wT k cA pm2 jm2 lm2 du2 pr2 ja2 rt2) ++ (wD f cA n tx T C K P L u ua ub pm jm lm du lt hh) ++ (wY f cA pr ja rs os) ++ (wC h (g 0) (k 0) cA 0 tx T C K L P u ua ub)) H locs := hV
  have hV : qV D A s.heap ((wC h (g 0) (k 0) cA 0 tx T C K L P u ua ub) ++ (wT g cA pm jm lm du pr ja rt) ++ (wT k cA pm2 jm2 lm2 du2 pr2 ja2 rt2) ++ (wD f cA n tx T C K P L u ua ub pm jm lm du lt hh) ++ (wY f cA pr ja rs os)) H locs := hV.sub [18, 19, 20, 21, 22, 23, 0, 1, 2, 3, 4, 5, 6, 7, 8, 9, 10, 11, 12, 13, 14, 15, 16, 17] rfl rfl
  refine lv_aload_n hx hb dL_law_179 rfl (lv_at hl 2 rfl) ?_
  have hV : qV D A s.heap ((wC h (g 0) (k 0) cA 0 tx T C K L P u ua ub) ++ (wT g cA pm jm lm du pr ja rt) ++ (wT k cA pm2 jm2 lm2 du2 pr2 ja2 rt2) ++ (wY f cA pr ja rs os) ++ (wD f cA n tx T C K P L u ua ub pm jm lm du lt hh)) H locs := hV.sub [0, 1, 2, 3, 4, 5, 6, 7, 8, 9, 10, 11, 12, 13, 20, 21, 22, 23, 14, 15, 16, 17, 18, 19] rfl rfl
  refine k_V_i (w0 := (wC h (g 0) (k 0) cA 0 tx T C K L P u ua ub) ++ (wT g cA pm jm lm du pr ja rt) ++ (wT k cA pm2 jm2 lm2 du2 pr2 ja2 rt2) ++ (wY f cA pr ja rs os)) (wc := wD f cA n tx T C K P L u ua ub pm jm lm du lt hh) (b := f 0) (As := []) (rest := [.int (nI n)]) hx hb hml hown hts hK hA hN hV hl.1 (c_X2_clearText l D f cA n tx T C K P L u ua ub pm jm lm du lt hh  ) gL_law_X2_clearText rfl rfl rfl hdX2_clearText ⟨Nat.le_of_ble_eq_true rfl, Nat.le_of_ble_eq_true rfl⟩ 18 2 rfl rfl rfl rfl rfl (Nat.le_of_ble_eq_true rfl) dL_law_180 ⟨Nat.le_of_ble_eq_true rfl, Nat.le_of_ble_eq_true rfl⟩ (fun r W1 H locs hp hV => ?_)
  obtain ⟨hp1, hp2⟩ := hp
  replace hp1 := hp1.symm
  subst hp1
  replace hp2 := hp2.symm
  subst hp2
  have hV : qV D A s.heap ((wC h (g 0) (k 0) cA 0 tx T C K L P u ua ub) ++ (wT g cA pm jm lm du pr ja rt) ++ (wT k cA pm2 jm2 lm2 du2 pr2 ja2 rt2) ++ (wY f cA pr ja rs os) ++ (wD f cA 0 tx T C K P L u ua ub pm jm lm du lt hh)) H locs := hV
  have hV : qV D A s.heap ((wC h (g 0) (k 0) cA 0 tx T C K L P u ua ub) ++ (wT g cA pm jm lm du pr ja rt) ++ (wT k cA pm2 jm2 lm2 du2 pr2 ja2 rt2) ++ (wD f cA 0 tx T C K P L u ua ub pm jm lm du lt hh) ++ (wY f cA pr ja rs os)) H locs := hV.sub [0, 1, 2, 3, 4, 5, 6, 7, 8, 9, 10, 11, 12, 13, 18, 19, 20, 21, 22, 23, 14, 15, 16, 17] rfl rfl
  refine z_icmp_eq (tgt := 651) hx hb dL_law_183 (by decide) (fun _ => ?_) (fun c1 => absurd rfl c1)
  exact ih _ _ _ _ _ _ _ _ _ _ _ _ _ _ _ _ _ _ _ _ _ _ _ _ _ _ _ _ (hI.clearText) _ _ _ hV hl
set_option maxHeartbeats 4000000 in
set_option maxRecDepth 100000 in
theorem lc_2 {p : Program} {e : Env} {s : State} {m : MethodId} {below : List Frame} {meth : Method} {c : Code} (l : Launch) {b Ln : Nat} {xs : Nat → Int32} (hL : Ln ≤ 1536) (C0 : lw_At p s m meth c b Ln xs) (D : va_G) (cA : ClassId) (A : Nat → Prop) (hA : ∀ q, s.heap.size ≤ q → A q) (hbA : ¬ A b) (hK : va_K D vwCl [(cA, .int)] s) (hN : nW s) (h g k f : Nat → Nat) (i : Nat) (hi : i + 3 ≤ Ln) (ih : LK p l e s m below meth c b D cA A h g k f i) (n : Nat) (tx : Nat → Nat) (T : Nat) (C : Nat) (K : Nat) (L : Nat → Nat) (P : Nat → Nat) (u : Nat) (ua : Nat → Nat) (ub : Nat → Nat) (pm : Nat) (jm : Nat) (lm : Nat) (du : Nat) (pr : Nat → Nat) (ja : Nat → Nat) (rt : Nat → Nat) (pm2 : Nat) (jm2 : Nat) (lm2 : Nat) (du2 : Nat) (pr2 : Nat → Nat) (ja2 : Nat → Nat) (rt2 : Nat → Nat) (lt : Nat) (hh : Int64) (rs : Nat → Nat) (os : Nat → Nat) (hI : sInv n tx T C K (L, P, u, ua, ub) (pm, jm, lm, du, pr, ja)) (H : Heap) (locs : List Loc) (ls : Array Slot) (hV : qV D A s.heap ((wC h (g 0) (k 0) cA n tx T C K L P u ua ub) ++ (wT g cA pm jm lm du pr ja rt) ++ (wT k cA pm2 jm2 lm2 du2 pr2 ja2 rt2) ++ (wD f cA n tx T C K P L u ua ub pm jm lm du lt hh) ++ (wY f cA pr ja rs os)) H locs) (hl : lv_has ls 4 [(0, .ref b), (1, .ref (h 0)), (2, .ref (f 0)), (3, .int (nI i))]) : W p l e room_1 s m #[Value.ref b] below meth c H locs 24 792 (lw_Z below #[Value.ref b] s) (F0 m 188 ls []) := by
  obtain ⟨hx, hb, hr, hml, hown, hts, hX, hbl, hlocks, hgv⟩ := id C0
  have hts : ∀ w ∈ wsL_law, w.before #[Value.ref b] s = true := fun w h => hts w (wsL_law_in w h)
  have hown : s.vm.findClass RL = some m.cls := hown
  obtain ⟨hn, htx, hT, hC, hK5, ⟨hp, hu, hua, hub⟩, h_pm, h_jm⟩ := id hI
  refine lv_aload_n hx hb dL_law_188 rfl (lv_at hl 1 rfl) ?_
  refine lv_aload_n hx hb dL_law_189 rfl (lv_at hl 0 rfl) ?_
  refine lv_iload_n hx hb dL_law_190 rfl (lv_at hl 3 rfl) ?_
  refine lv_iconst (v := nI 1) hx hb dL_law_191 (by decide) ?_
  refine q_iadd2 (x := i) (y := 1) (z := i + 1) hx hb (by omega) dL_law_192 ?_
  refine q_sld (k := i + 1) hx hb hX hbl hbA hV.2.2 (by omega) (by omega) dL_law_193 ?_
  refine lv_aload_n hx hb dL_law_194 rfl (lv_at hl 0 rfl) ?_
  refine lv_iload_n hx hb dL_law_195 rfl (lv_at hl 3 rfl) ?_
  refine lv_iconst (v := nI 2) hx hb dL_law_196 (by decide) ?_
  refine q_iadd2 (x := i) (y := 2) (z := i + 2) hx hb (by omega) dL_law_197 ?_
  refine q_sld (k := i + 2) hx hb hX hbl hbA hV.2.2 (by omega) (by omega) dL_law_198 ?_
  have hV : qV D A s.heap ((wT g cA pm jm lm du pr ja rt) ++ (wT k cA pm2 jm2 lm2 du2 pr2 ja2 rt2) ++ (wD f cA n tx T C K P L u ua ub pm jm lm du lt hh) ++ (wY f cA pr ja rs os) ++ (wC h (g 0) (k 0) cA n tx T C K L P u ua ub)) H locs := hV.sub [6, 7, 8, 9, 10, 11, 12, 13, 14, 15, 16, 17, 18, 19, 20, 21, 22, 23, 0, 1, 2, 3, 4, 5] rfl rfl
  refine k_V_i (w0 := (wT g cA pm jm lm du pr ja rt) ++ (wT k cA pm2 jm2 lm2 du2 pr2 ja2 rt2) ++ (wD f cA n tx T C K P L u ua ub pm jm lm du lt hh) ++ (wY f cA pr ja rs os)) (wc := wC h (g 0) (k 0) cA n tx T C K L P u ua ub) (b := h 0) (As := [.int (xs (i + 1)), .int (xs (i + 2))]) (rest := []) hx hb hml hown hts hK hA hN hV hl.1 (c_X1_pairCount l D h (g 0) (k 0) cA n tx T C K L P u ua ub (xs (i + 1)) (xs (i + 2)) (by first | omega | assumption) (by first | omega | assumption)) gL_law_X1_pairCount rfl rfl rfl hdX1_pairCount ⟨Nat.le_of_ble_eq_true rfl, Nat.le_of_ble_eq_true rfl⟩ 18 1 rfl rfl rfl rfl rfl (Nat.le_of_ble_eq_true rfl) dL_law_199 ⟨Nat.le_of_ble_eq_true rfl, Nat.le_of_ble_eq_true rfl⟩ (fun r W1 H locs hp hV => ?_)
  obtain ⟨hp1, hp2⟩ := hp
  replace hp1 := hp1.symm
  subst hp1
  replace hp2 := hp2.symm
  subst hp2
  have hV : qV D A s.heap ((wT g cA pm jm lm du pr ja rt) ++ (wT k cA pm2 jm2 lm2 du2 pr2 ja2 rt2) ++ (wD f cA n tx T C K P L u ua ub pm jm lm du lt hh) ++ (wY f cA pr ja rs os) ++ (wC h (g 0) (k 0) cA n tx T C K L P u ua ub)) H locs := hV
  have hV : qV D A s.heap ((wC h (g 0) (k 0) cA n tx T C K L P u ua ub) ++ (wT g cA pm jm lm du pr ja rt) ++ (wT k cA pm2 jm2 lm2 du2 pr2 ja2 rt2) ++ (wD f cA n tx T C K P L u ua ub pm jm lm du lt hh) ++ (wY f cA pr ja rs os)) H locs := hV.sub [18, 19, 20, 21, 22, 23, 0, 1, 2, 3, 4, 5, 6, 7, 8, 9, 10, 11, 12, 13, 14, 15, 16, 17] rfl rfl
  refine lv_aload_n hx hb dL_law_202 rfl (lv_at hl 2 rfl) ?_
  refine lv_aload_n hx hb dL_law_203 rfl (lv_at hl 0 rfl) ?_
  refine lv_iload_n hx hb dL_law_204 rfl (lv_at hl 3 rfl) ?_
  refine lv_iconst (v := nI 1) hx hb dL_law_205 (by decide) ?_
  refine q_iadd2 (x := i) (y := 1) (z := i + 1) hx hb (by omega) dL_law_206 ?_
  refine q_sld (k := i + 1) hx hb hX hbl hbA hV.2.2 (by omega) (by omega) dL_law_207 ?_
  refine lv_aload_n hx hb dL_law_208 rfl (lv_at hl 0 rfl) ?_
  refine lv_iload_n hx hb dL_law_209 rfl (lv_at hl 3 rfl) ?_
  refine lv_iconst (v := nI 2) hx hb dL_law_210 (by decide) ?_
  refine q_iadd2 (x := i) (y := 2) (z := i + 2) hx hb (by omega) dL_law_211 ?_
  refine q_sld (k := i + 2) hx hb hX hbl hbA hV.2.2 (by omega) (by omega) dL_law_212 ?_
  have hV : qV D A s.heap ((wC h (g 0) (k 0) cA n tx T C K L P u ua ub) ++ (wT g cA pm jm lm du pr ja rt) ++ (wT k cA pm2 jm2 lm2 du2 pr2 ja2 rt2) ++ (wY f cA pr ja rs os) ++ (wD f cA n tx T C K P L u ua ub pm jm lm du lt hh)) H locs := hV.sub [0, 1, 2, 3, 4, 5, 6, 7, 8, 9, 10, 11, 12, 13, 20, 21, 22, 23, 14, 15, 16, 17, 18, 19] rfl rfl
  refine k_V_i (w0 := (wC h (g 0) (k 0) cA n tx T C K L P u ua ub) ++ (wT g cA pm jm lm du pr ja rt) ++ (wT k cA pm2 jm2 lm2 du2 pr2 ja2 rt2) ++ (wY f cA pr ja rs os)) (wc := wD f cA n tx T C K P L u ua ub pm jm lm du lt hh) (b := f 0) (As := [.int (xs (i + 1)), .int (xs (i + 2))]) (rest := [.int (aPair n tx (xs (i + 1)) (xs (i + 2)))]) hx hb hml hown hts hK hA hN hV hl.1 (c_X2_pairCount l D f cA n tx T C K P L u ua ub pm jm lm du lt hh (xs (i + 1)) (xs (i + 2)) (by first | omega | assumption) (by first | omega | assumption)) gL_law_X2_pairCount rfl rfl rfl hdX2_pairCount ⟨Nat.le_of_ble_eq_true rfl, Nat.le_of_ble_eq_true rfl⟩ 18 2 rfl rfl rfl rfl rfl (Nat.le_of_ble_eq_true rfl) dL_law_213 ⟨Nat.le_of_ble_eq_true rfl, Nat.le_of_ble_eq_true rfl⟩ (fun r W1 H locs hp hV => ?_)
  obtain ⟨hp1, hp2⟩ := hp
  replace hp1 := hp1.symm
  subst hp1
  replace hp2 := hp2.symm
  subst hp2
  have hV : qV D A s.heap ((wC h (g 0) (k 0) cA n tx T C K L P u ua ub) ++ (wT g cA pm jm lm du pr ja rt) ++ (wT k cA pm2 jm2 lm2 du2 pr2 ja2 rt2) ++ (wY f cA pr ja rs os) ++ (wD f cA n tx T C K P L u ua ub pm jm lm du lt hh)) H locs := hV
  have hV : qV D A s.heap ((wC h (g 0) (k 0) cA n tx T C K L P u ua ub) ++ (wT g cA pm jm lm du pr ja rt) ++ (wT k cA pm2 jm2 lm2 du2 pr2 ja2 rt2) ++ (wD f cA n tx T C K P L u ua ub pm jm lm du lt hh) ++ (wY f cA pr ja rs os)) H locs := hV.sub [0, 1, 2, 3, 4, 5, 6, 7, 8, 9, 10, 11, 12, 13, 18, 19, 20, 21, 22, 23, 14, 15, 16, 17] rfl rfl
  refine z_icmp_eq (tgt := 651) hx hb dL_law_216 (by decide) (fun _ => ?_) (fun c1 => absurd rfl c1)
  exact ih _ _ _ _ _ _ _ _ _ _ _ _ _ _ _ _ _ _ _ _ _ _ _ _ _ _ _ _ (hI) _ _ _ hV hl
set_option maxHeartbeats 4000000 in
set_option maxRecDepth 100000 in
theorem lc_3 {p : Program} {e : Env} {s : State} {m : MethodId} {below : List Frame} {meth : Method} {c : Code} (l : Launch) {b Ln : Nat} {xs : Nat → Int32} (hL : Ln ≤ 1536) (C0 : lw_At p s m meth c b Ln xs) (D : va_G) (cA : ClassId) (A : Nat → Prop) (hA : ∀ q, s.heap.size ≤ q → A q) (hbA : ¬ A b) (hK : va_K D vwCl [(cA, .int)] s) (hN : nW s) (h g k f : Nat → Nat) (i : Nat) (hi : i + 3 ≤ Ln) (ih : LK p l e s m below meth c b D cA A h g k f i) (n : Nat) (tx : Nat → Nat) (T : Nat) (C : Nat) (K : Nat) (L : Nat → Nat) (P : Nat → Nat) (u : Nat) (ua : Nat → Nat) (ub : Nat → Nat) (pm : Nat) (jm : Nat) (lm : Nat) (du : Nat) (pr : Nat → Nat) (ja : Nat → Nat) (rt : Nat → Nat) (pm2 : Nat) (jm2 : Nat) (lm2 : Nat) (du2 : Nat) (pr2 : Nat → Nat) (ja2 : Nat → Nat) (rt2 : Nat → Nat) (lt : Nat) (hh : Int64) (rs : Nat → Nat) (os : Nat → Nat) (hI : sInv n tx T C K (L, P, u, ua, ub) (pm, jm, lm, du, pr, ja)) (H : Heap) (locs : List Loc) (ls : Array Slot) (hV : qV D A s.heap ((wC h (g 0) (k 0) cA n tx T C K L P u ua ub) ++ (wT g cA pm jm lm du pr ja rt) ++ (wT k cA pm2 jm2 lm2 du2 pr2 ja2 rt2) ++ (wD f cA n tx T C K P L u ua ub pm jm lm du lt hh) ++ (wY f cA pr ja rs os)) H locs) (hl : lv_has ls 4 [(0, .ref b), (1, .ref (h 0)), (2, .ref (f 0)), (3, .int (nI i))]) : W p l e room_1 s m #[Value.ref b] below meth c H locs 24 792 (lw_Z below #[Value.ref b] s) (F0 m 221 ls []) := by
  obtain ⟨hx, hb, hr, hml, hown, hts, hX, hbl, hlocks, hgv⟩ := id C0
  have hts : ∀ w ∈ wsL_law, w.before #[Value.ref b] s = true := fun w h => hts w (wsL_law_in w h)
  have hown : s.vm.findClass RL = some m.cls := hown
  obtain ⟨hn, htx, hT, hC, hK5, ⟨hp, hu, hua, hub⟩, h_pm, h_jm⟩ := id hI
  refine lv_aload_n hx hb dL_law_221 rfl (lv_at hl 1 rfl) ?_
  refine lv_aload_n hx hb dL_law_222 rfl (lv_at hl 0 rfl) ?_
  refine lv_iload_n hx hb dL_law_223 rfl (lv_at hl 3 rfl) ?_
  refine lv_iconst (v := nI 1) hx hb dL_law_224 (by decide) ?_
  refine q_iadd2 (x := i) (y := 1) (z := i + 1) hx hb (by omega) dL_law_225 ?_
  refine q_sld (k := i + 1) hx hb hX hbl hbA hV.2.2 (by omega) (by omega) dL_law_226 ?_
  have hV : qV D A s.heap ((wT g cA pm jm lm du pr ja rt) ++ (wT k cA pm2 jm2 lm2 du2 pr2 ja2 rt2) ++ (wD f cA n tx T C K P L u ua ub pm jm lm du lt hh) ++ (wY f cA pr ja rs os) ++ (wC h (g 0) (k 0) cA n tx T C K L P u ua ub)) H locs := hV.sub [6, 7, 8, 9, 10, 11, 12, 13, 14, 15, 16, 17, 18, 19, 20, 21, 22, 23, 0, 1, 2, 3, 4, 5] rfl rfl
  refine k_V_i (w0 := (wT g cA pm jm lm du pr ja rt) ++ (wT k cA pm2 jm2 lm2 du2 pr2 ja2 rt2) ++ (wD f cA n tx T C K P L u ua ub pm jm lm du lt hh) ++ (wY f cA pr ja rs os)) (wc := wC h (g 0) (k 0) cA n tx T C K L P u ua ub) (b := h 0) (As := [.int (xs (i + 1))]) (rest := []) hx hb hml hown hts hK hA hN hV hl.1 (c_X1_setTravelTime l D h (g 0) (k 0) cA n tx T C K L P u ua ub (xs (i + 1)) ) gL_law_X1_setTravelTime rfl rfl rfl hdX1_setTravelTime ⟨Nat.le_of_ble_eq_true rfl, Nat.le_of_ble_eq_true rfl⟩ 18 1 rfl rfl rfl rfl rfl (Nat.le_of_ble_eq_true rfl) dL_law_227 ⟨Nat.le_of_ble_eq_true rfl, Nat.le_of_ble_eq_true rfl⟩ (fun r W1 H locs hp hV => ?_)
  obtain ⟨hp1, hp2⟩ := hp
  replace hp1 := hp1.symm
  subst hp1
  replace hp2 := hp2.symm
  subst hp2
  have hV : qV D A s.heap ((wT g cA pm jm lm du pr ja rt) ++ (wT k cA pm2 jm2 lm2 du2 pr2 ja2 rt2) ++ (wD f cA n tx T C K P L u ua ub pm jm lm du lt hh) ++ (wY f cA pr ja rs os) ++ (wC h (g 0) (k 0) cA n tx (nSet 1 20 T (xs (i + 1))) C K L P u ua ub)) H locs := hV
  have hV : qV D A s.heap ((wC h (g 0) (k 0) cA n tx (nSet 1 20 T (xs (i + 1))) C K L P u ua ub) ++ (wT g cA pm jm lm du pr ja rt) ++ (wT k cA pm2 jm2 lm2 du2 pr2 ja2 rt2) ++ (wD f cA n tx T C K P L u ua ub pm jm lm du lt hh) ++ (wY f cA pr ja rs os)) H locs := hV.sub [18, 19, 20, 21, 22, 23, 0, 1, 2, 3, 4, 5, 6, 7, 8, 9, 10, 11, 12, 13, 14, 15, 16, 17] rfl rfl
  refine lv_aload_n hx hb dL_law_230 rfl (lv_at hl 2 rfl) ?_
  refine lv_aload_n hx hb dL_law_231 rfl (lv_at hl 0 rfl) ?_
  refine lv_iload_n hx hb dL_law_232 rfl (lv_at hl 3 rfl) ?_
  refine lv_iconst (v := nI 1) hx hb dL_law_233 (by decide) ?_
  refine q_iadd2 (x := i) (y := 1) (z := i + 1) hx hb (by omega) dL_law_234 ?_
  refine q_sld (k := i + 1) hx hb hX hbl hbA hV.2.2 (by omega) (by omega) dL_law_235 ?_
  have hV : qV D A s.heap ((wC h (g 0) (k 0) cA n tx (nSet 1 20 T (xs (i + 1))) C K L P u ua ub) ++ (wT g cA pm jm lm du pr ja rt) ++ (wT k cA pm2 jm2 lm2 du2 pr2 ja2 rt2) ++ (wY f cA pr ja rs os) ++ (wD f cA n tx T C K P L u ua ub pm jm lm du lt hh)) H locs := hV.sub [0, 1, 2, 3, 4, 5, 6, 7, 8, 9, 10, 11, 12, 13, 20, 21, 22, 23, 14, 15, 16, 17, 18, 19] rfl rfl
  refine k_V_i (w0 := (wC h (g 0) (k 0) cA n tx (nSet 1 20 T (xs (i + 1))) C K L P u ua ub) ++ (wT g cA pm jm lm du pr ja rt) ++ (wT k cA pm2 jm2 lm2 du2 pr2 ja2 rt2) ++ (wY f cA pr ja rs os)) (wc := wD f cA n tx T C K P L u ua ub pm jm lm du lt hh) (b := f 0) (As := [.int (xs (i + 1))]) (rest := [.int (aSet 1 20 T (xs (i + 1)))]) hx hb hml hown hts hK hA hN hV hl.1 (c_X2_setTravelTime l D f cA n tx T C K P L u ua ub pm jm lm du lt hh (xs (i + 1)) ) gL_law_X2_setTravelTime rfl rfl rfl hdX2_setTravelTime ⟨Nat.le_of_ble_eq_true rfl, Nat.le_of_ble_eq_true rfl⟩ 18 2 rfl rfl rfl rfl rfl (Nat.le_of_ble_eq_true rfl) dL_law_236 ⟨Nat.le_of_ble_eq_true rfl, Nat.le_of_ble_eq_true rfl⟩ (fun r W1 H locs hp hV => ?_)
  obtain ⟨hp1, hp2⟩ := hp
  replace hp1 := hp1.symm
  subst hp1
  replace hp2 := hp2.symm
  subst hp2
  have hV : qV D A s.heap ((wC h (g 0) (k 0) cA n tx (nSet 1 20 T (xs (i + 1))) C K L P u ua ub) ++ (wT g cA pm jm lm du pr ja rt) ++ (wT k cA pm2 jm2 lm2 du2 pr2 ja2 rt2) ++ (wY f cA pr ja rs os) ++ (wD f cA n tx (nSet 1 20 T (xs (i + 1))) C K P L u ua ub pm jm lm du lt hh)) H locs := hV
  have hV : qV D A s.heap ((wC h (g 0) (k 0) cA n tx (nSet 1 20 T (xs (i + 1))) C K L P u ua ub) ++ (wT g cA pm jm lm du pr ja rt) ++ (wT k cA pm2 jm2 lm2 du2 pr2 ja2 rt2) ++ (wD f cA n tx (nSet 1 20 T (xs (i + 1))) C K P L u ua ub pm jm lm du lt hh) ++ (wY f cA pr ja rs os)) H locs := hV.sub [0, 1, 2, 3, 4, 5, 6, 7, 8, 9, 10, 11, 12, 13, 18, 19, 20, 21, 22, 23, 14, 15, 16, 17] rfl rfl
  refine z_icmp_eq (tgt := 651) hx hb dL_law_239 (by decide) (fun _ => ?_) (fun c1 => absurd rfl c1)
  exact ih _ _ _ _ _ _ _ _ _ _ _ _ _ _ _ _ _ _ _ _ _ _ _ _ _ _ _ _ (hI.setTravelTime (xs (i + 1))) _ _ _ hV hl
set_option maxHeartbeats 4000000 in
set_option maxRecDepth 100000 in
theorem lc_4 {p : Program} {e : Env} {s : State} {m : MethodId} {below : List Frame} {meth : Method} {c : Code} (l : Launch) {b Ln : Nat} {xs : Nat → Int32} (hL : Ln ≤ 1536) (C0 : lw_At p s m meth c b Ln xs) (D : va_G) (cA : ClassId) (A : Nat → Prop) (hA : ∀ q, s.heap.size ≤ q → A q) (hbA : ¬ A b) (hK : va_K D vwCl [(cA, .int)] s) (hN : nW s) (h g k f : Nat → Nat) (i : Nat) (hi : i + 3 ≤ Ln) (ih : LK p l e s m below meth c b D cA A h g k f i) (n : Nat) (tx : Nat → Nat) (T : Nat) (C : Nat) (K : Nat) (L : Nat → Nat) (P : Nat → Nat) (u : Nat) (ua : Nat → Nat) (ub : Nat → Nat) (pm : Nat) (jm : Nat) (lm : Nat) (du : Nat) (pr : Nat → Nat) (ja : Nat → Nat) (rt : Nat → Nat) (pm2 : Nat) (jm2 : Nat) (lm2 : Nat) (du2 : Nat) (pr2 : Nat → Nat) (ja2 : Nat → Nat) (rt2 : Nat → Nat) (lt : Nat) (hh : Int64) (rs : Nat → Nat) (os : Nat → Nat) (hI : sInv n tx T C K (L, P, u, ua, ub) (pm, jm, lm, du, pr, ja)) (H : Heap) (locs : List Loc) (ls : Array Slot) (hV : qV D A s.heap ((wC h (g 0) (k 0) cA n tx T C K L P u ua ub) ++ (wT g cA pm jm lm du pr ja rt) ++ (wT k cA pm2 jm2 lm2 du2 pr2 ja2 rt2) ++ (wD f cA n tx T C K P L u ua ub pm jm lm du lt hh) ++ (wY f cA pr ja rs os)) H locs) (hl : lv_has ls 4 [(0, .ref b), (1, .ref (h 0)), (2, .ref (f 0)), (3, .int (nI i))]) : W p l e room_1 s m #[Value.ref b] below meth c H locs 24 792 (lw_Z below #[Value.ref b] s) (F0 m 244 ls []) := by
  obtain ⟨hx, hb, hr, hml, hown, hts, hX, hbl, hlocks, hgv⟩ := id C0
  have hts : ∀ w ∈ wsL_law, w.before #[Value.ref b] s = true := fun w h => hts w (wsL_law_in w h)
  have hown : s.vm.findClass RL = some m.cls := hown
  obtain ⟨hn, htx, hT, hC, hK5, ⟨hp, hu, hua, hub⟩, h_pm, h_jm⟩ := id hI
  refine lv_aload_n hx hb dL_law_244 rfl (lv_at hl 1 rfl) ?_
  refine lv_aload_n hx hb dL_law_245 rfl (lv_at hl 0 rfl) ?_
  refine lv_iload_n hx hb dL_law_246 rfl (lv_at hl 3 rfl) ?_
  refine lv_iconst (v := nI 1) hx hb dL_law_247 (by decide) ?_
  refine q_iadd2 (x := i) (y := 1) (z := i + 1) hx hb (by omega) dL_law_248 ?_
  refine q_sld (k := i + 1) hx hb hX hbl hbA hV.2.2 (by omega) (by omega) dL_law_249 ?_
  have hV : qV D A s.heap ((wT g cA pm jm lm du pr ja rt) ++ (wT k cA pm2 jm2 lm2 du2 pr2 ja2 rt2) ++ (wD f cA n tx T C K P L u ua ub pm jm lm du lt hh) ++ (wY f cA pr ja rs os) ++ (wC h (g 0) (k 0) cA n tx T C K L P u ua ub)) H locs := hV.sub [6, 7, 8, 9, 10, 11, 12, 13, 14, 15, 16, 17, 18, 19, 20, 21, 22, 23, 0, 1, 2, 3, 4, 5] rfl rfl
  refine k_V_i (w0 := (wT g cA pm jm lm du pr ja rt) ++ (wT k cA pm2 jm2 lm2 du2 pr2 ja2 rt2) ++ (wD f cA n tx T C K P L u ua ub pm jm lm du lt hh) ++ (wY f cA pr ja rs os)) (wc := wC h (g 0) (k 0) cA n tx T C K L P u ua ub) (b := h 0) (As := [.int (xs (i + 1))]) (rest := []) hx hb hml hown hts hK hA hN hV hl.1 (c_X1_setClashDistance l D h (g 0) (k 0) cA n tx T C K L P u ua ub (xs (i + 1)) ) gL_law_X1_setClashDistance rfl rfl rfl hdX1_setClashDistance ⟨Nat.le_of_ble_eq_true rfl, Nat.le_of_ble_eq_true rfl⟩ 18 1 rfl rfl rfl rfl rfl (Nat.le_of_ble_eq_true rfl) dL_law_250 ⟨Nat.le_of_ble_eq_true rfl, Nat.le_of_ble_eq_true rfl⟩ (fun r W1 H locs hp hV => ?_)
  obtain ⟨hp1, hp2⟩ := hp
  replace hp1 := hp1.symm
  subst hp1
  replace hp2 := hp2.symm
  subst hp2
  have hV : qV D A s.heap ((wT g cA pm jm lm du pr ja rt) ++ (wT k cA pm2 jm2 lm2 du2 pr2 ja2 rt2) ++ (wD f cA n tx T C K P L u ua ub pm jm lm du lt hh) ++ (wY f cA pr ja rs os) ++ (wC h (g 0) (k 0) cA n tx T (nSet 1 5 C (xs (i + 1))) K L P u ua ub)) H locs := hV
  have hV : qV D A s.heap ((wC h (g 0) (k 0) cA n tx T (nSet 1 5 C (xs (i + 1))) K L P u ua ub) ++ (wT g cA pm jm lm du pr ja rt) ++ (wT k cA pm2 jm2 lm2 du2 pr2 ja2 rt2) ++ (wD f cA n tx T C K P L u ua ub pm jm lm du lt hh) ++ (wY f cA pr ja rs os)) H locs := hV.sub [18, 19, 20, 21, 22, 23, 0, 1, 2, 3, 4, 5, 6, 7, 8, 9, 10, 11, 12, 13, 14, 15, 16, 17] rfl rfl
  refine lv_aload_n hx hb dL_law_253 rfl (lv_at hl 2 rfl) ?_
  refine lv_aload_n hx hb dL_law_254 rfl (lv_at hl 0 rfl) ?_
  refine lv_iload_n hx hb dL_law_255 rfl (lv_at hl 3 rfl) ?_
  refine lv_iconst (v := nI 1) hx hb dL_law_256 (by decide) ?_
  refine q_iadd2 (x := i) (y := 1) (z := i + 1) hx hb (by omega) dL_law_257 ?_
  refine q_sld (k := i + 1) hx hb hX hbl hbA hV.2.2 (by omega) (by omega) dL_law_258 ?_
  have hV : qV D A s.heap ((wC h (g 0) (k 0) cA n tx T (nSet 1 5 C (xs (i + 1))) K L P u ua ub) ++ (wT g cA pm jm lm du pr ja rt) ++ (wT k cA pm2 jm2 lm2 du2 pr2 ja2 rt2) ++ (wY f cA pr ja rs os) ++ (wD f cA n tx T C K P L u ua ub pm jm lm du lt hh)) H locs := hV.sub [0, 1, 2, 3, 4, 5, 6, 7, 8, 9, 10, 11, 12, 13, 20, 21, 22, 23, 14, 15, 16, 17, 18, 19] rfl rfl
  refine k_V_i (w0 := (wC h (g 0) (k 0) cA n tx T (nSet 1 5 C (xs (i + 1))) K L P u ua ub) ++ (wT g cA pm jm lm du pr ja rt) ++ (wT k cA pm2 jm2 lm2 du2 pr2 ja2 rt2) ++ (wY f cA pr ja rs os)) (wc := wD f cA n tx T C K P L u ua ub pm jm lm du lt hh) (b := f 0) (As := [.int (xs (i + 1))]) (rest := [.int (aSet 1 5 C (xs (i + 1)))]) hx hb hml hown hts hK hA hN hV hl.1 (c_X2_setClashDistance l D f cA n tx T C K P L u ua ub pm jm lm du lt hh (xs (i + 1)) ) gL_law_X2_setClashDistance rfl rfl rfl hdX2_setClashDistance ⟨Nat.le_of_ble_eq_true rfl, Nat.le_of_ble_eq_true rfl⟩ 18 2 rfl rfl rfl rfl rfl (Nat.le_of_ble_eq_true rfl) dL_law_259 ⟨Nat.le_of_ble_eq_true rfl, Nat.le_of_ble_eq_true rfl⟩ (fun r W1 H locs hp hV => ?_)
  obtain ⟨hp1, hp2⟩ := hp
  replace hp1 := hp1.symm
  subst hp1
  replace hp2 := hp2.symm
  subst hp2
  have hV : qV D A s.heap ((wC h (g 0) (k 0) cA n tx T (nSet 1 5 C (xs (i + 1))) K L P u ua ub) ++ (wT g cA pm jm lm du pr ja rt) ++ (wT k cA pm2 jm2 lm2 du2 pr2 ja2 rt2) ++ (wY f cA pr ja rs os) ++ (wD f cA n tx T (nSet 1 5 C (xs (i + 1))) K P L u ua ub pm jm lm du lt hh)) H locs := hV
  have hV : qV D A s.heap ((wC h (g 0) (k 0) cA n tx T (nSet 1 5 C (xs (i + 1))) K L P u ua ub) ++ (wT g cA pm jm lm du pr ja rt) ++ (wT k cA pm2 jm2 lm2 du2 pr2 ja2 rt2) ++ (wD f cA n tx T (nSet 1 5 C (xs (i + 1))) K P L u ua ub pm jm lm du lt hh) ++ (wY f cA pr ja rs os)) H locs := hV.sub [0, 1, 2, 3, 4, 5, 6, 7, 8, 9, 10, 11, 12, 13, 18, 19, 20, 21, 22, 23, 14, 15, 16, 17] rfl rfl
  refine z_icmp_eq (tgt := 651) hx hb dL_law_262 (by decide) (fun _ => ?_) (fun c1 => absurd rfl c1)
  exact ih _ _ _ _ _ _ _ _ _ _ _ _ _ _ _ _ _ _ _ _ _ _ _ _ _ _ _ _ (hI.setClashDistance (xs (i + 1))) _ _ _ hV hl
set_option maxHeartbeats 4000000 in
set_option maxRecDepth 100000 in
theorem lc_5 {p : Program} {e : Env} {s : State} {m : MethodId} {below : List Frame} {meth : Method} {c : Code} (l : Launch) {b Ln : Nat} {xs : Nat → Int32} (hL : Ln ≤ 1536) (C0 : lw_At p s m meth c b Ln xs) (D : va_G) (cA : ClassId) (A : Nat → Prop) (hA : ∀ q, s.heap.size ≤ q → A q) (hbA : ¬ A b) (hK : va_K D vwCl [(cA, .int)] s) (hN : nW s) (h g k f : Nat → Nat) (i : Nat) (hi : i + 3 ≤ Ln) (ih : LK p l e s m below meth c b D cA A h g k f i) (n : Nat) (tx : Nat → Nat) (T : Nat) (C : Nat) (K : Nat) (L : Nat → Nat) (P : Nat → Nat) (u : Nat) (ua : Nat → Nat) (ub : Nat → Nat) (pm : Nat) (jm : Nat) (lm : Nat) (du : Nat) (pr : Nat → Nat) (ja : Nat → Nat) (rt : Nat → Nat) (pm2 : Nat) (jm2 : Nat) (lm2 : Nat) (du2 : Nat) (pr2 : Nat → Nat) (ja2 : Nat → Nat) (rt2 : Nat → Nat) (lt : Nat) (hh : Int64) (rs : Nat → Nat) (os : Nat → Nat) (hI : sInv n tx T C K (L, P, u, ua, ub) (pm, jm, lm, du, pr, ja)) (H : Heap) (locs : List Loc) (ls : Array Slot) (hV : qV D A s.heap ((wC h (g 0) (k 0) cA n tx T C K L P u ua ub) ++ (wT g cA pm jm lm du pr ja rt) ++ (wT k cA pm2 jm2 lm2 du2 pr2 ja2 rt2) ++ (wD f cA n tx T C K P L u ua ub pm jm lm du lt hh) ++ (wY f cA pr ja rs os)) H locs) (hl : lv_has ls 4 [(0, .ref b), (1, .ref (h 0)), (2, .ref (f 0)), (3, .int (nI i))]) : W p l e room_1 s m #[Value.ref b] below meth c H locs 24 792 (lw_Z below #[Value.ref b] s) (F0 m 267 ls []) := by
  obtain ⟨hx, hb, hr, hml, hown, hts, hX, hbl, hlocks, hgv⟩ := id C0
  have hts : ∀ w ∈ wsL_law, w.before #[Value.ref b] s = true := fun w h => hts w (wsL_law_in w h)
  have hown : s.vm.findClass RL = some m.cls := hown
  obtain ⟨hn, htx, hT, hC, hK5, ⟨hp, hu, hua, hub⟩, h_pm, h_jm⟩ := id hI
  refine lv_aload_n hx hb dL_law_267 rfl (lv_at hl 1 rfl) ?_
  refine lv_aload_n hx hb dL_law_268 rfl (lv_at hl 0 rfl) ?_
  refine lv_iload_n hx hb dL_law_269 rfl (lv_at hl 3 rfl) ?_
  refine lv_iconst (v := nI 1) hx hb dL_law_270 (by decide) ?_
  refine q_iadd2 (x := i) (y := 1) (z := i + 1) hx hb (by omega) dL_law_271 ?_
  refine q_sld (k := i + 1) hx hb hX hbl hbA hV.2.2 (by omega) (by omega) dL_law_272 ?_
  have hV : qV D A s.heap ((wT g cA pm jm lm du pr ja rt) ++ (wT k cA pm2 jm2 lm2 du2 pr2 ja2 rt2) ++ (wD f cA n tx T C K P L u ua ub pm jm lm du lt hh) ++ (wY f cA pr ja rs os) ++ (wC h (g 0) (k 0) cA n tx T C K L P u ua ub)) H locs := hV.sub [6, 7, 8, 9, 10, 11, 12, 13, 14, 15, 16, 17, 18, 19, 20, 21, 22, 23, 0, 1, 2, 3, 4, 5] rfl rfl
  refine k_V_i (w0 := (wT g cA pm jm lm du pr ja rt) ++ (wT k cA pm2 jm2 lm2 du2 pr2 ja2 rt2) ++ (wD f cA n tx T C K P L u ua ub pm jm lm du lt hh) ++ (wY f cA pr ja rs os)) (wc := wC h (g 0) (k 0) cA n tx T C K L P u ua ub) (b := h 0) (As := [.int (xs (i + 1))]) (rest := []) hx hb hml hown hts hK hA hN hV hl.1 (c_X1_setClearingTime l D h (g 0) (k 0) cA n tx T C K L P u ua ub (xs (i + 1)) ) gL_law_X1_setClearingTime rfl rfl rfl hdX1_setClearingTime ⟨Nat.le_of_ble_eq_true rfl, Nat.le_of_ble_eq_true rfl⟩ 18 1 rfl rfl rfl rfl rfl (Nat.le_of_ble_eq_true rfl) dL_law_273 ⟨Nat.le_of_ble_eq_true rfl, Nat.le_of_ble_eq_true rfl⟩ (fun r W1 H locs hp hV => ?_)
  obtain ⟨hp1, hp2⟩ := hp
  replace hp1 := hp1.symm
  subst hp1
  replace hp2 := hp2.symm
  subst hp2
  have hV : qV D A s.heap ((wT g cA pm jm lm du pr ja rt) ++ (wT k cA pm2 jm2 lm2 du2 pr2 ja2 rt2) ++ (wD f cA n tx T C K P L u ua ub pm jm lm du lt hh) ++ (wY f cA pr ja rs os) ++ (wC h (g 0) (k 0) cA n tx T C (nSet 0 50 K (xs (i + 1))) L P u ua ub)) H locs := hV
  have hV : qV D A s.heap ((wC h (g 0) (k 0) cA n tx T C (nSet 0 50 K (xs (i + 1))) L P u ua ub) ++ (wT g cA pm jm lm du pr ja rt) ++ (wT k cA pm2 jm2 lm2 du2 pr2 ja2 rt2) ++ (wD f cA n tx T C K P L u ua ub pm jm lm du lt hh) ++ (wY f cA pr ja rs os)) H locs := hV.sub [18, 19, 20, 21, 22, 23, 0, 1, 2, 3, 4, 5, 6, 7, 8, 9, 10, 11, 12, 13, 14, 15, 16, 17] rfl rfl
  refine lv_aload_n hx hb dL_law_276 rfl (lv_at hl 2 rfl) ?_
  refine lv_aload_n hx hb dL_law_277 rfl (lv_at hl 0 rfl) ?_
  refine lv_iload_n hx hb dL_law_278 rfl (lv_at hl 3 rfl) ?_
  refine lv_iconst (v := nI 1) hx hb dL_law_279 (by decide) ?_
  refine q_iadd2 (x := i) (y := 1) (z := i + 1) hx hb (by omega) dL_law_280 ?_
  refine q_sld (k := i + 1) hx hb hX hbl hbA hV.2.2 (by omega) (by omega) dL_law_281 ?_
  have hV : qV D A s.heap ((wC h (g 0) (k 0) cA n tx T C (nSet 0 50 K (xs (i + 1))) L P u ua ub) ++ (wT g cA pm jm lm du pr ja rt) ++ (wT k cA pm2 jm2 lm2 du2 pr2 ja2 rt2) ++ (wY f cA pr ja rs os) ++ (wD f cA n tx T C K P L u ua ub pm jm lm du lt hh)) H locs := hV.sub [0, 1, 2, 3, 4, 5, 6, 7, 8, 9, 10, 11, 12, 13, 20, 21, 22, 23, 14, 15, 16, 17, 18, 19] rfl rfl
  refine k_V_i (w0 := (wC h (g 0) (k 0) cA n tx T C (nSet 0 50 K (xs (i + 1))) L P u ua ub) ++ (wT g cA pm jm lm du pr ja rt) ++ (wT k cA pm2 jm2 lm2 du2 pr2 ja2 rt2) ++ (wY f cA pr ja rs os)) (wc := wD f cA n tx T C K P L u ua ub pm jm lm du lt hh) (b := f 0) (As := [.int (xs (i + 1))]) (rest := [.int (aSet 0 50 K (xs (i + 1)))]) hx hb hml hown hts hK hA hN hV hl.1 (c_X2_setClearingTime l D f cA n tx T C K P L u ua ub pm jm lm du lt hh (xs (i + 1)) ) gL_law_X2_setClearingTime rfl rfl rfl hdX2_setClearingTime ⟨Nat.le_of_ble_eq_true rfl, Nat.le_of_ble_eq_true rfl⟩ 18 2 rfl rfl rfl rfl rfl (Nat.le_of_ble_eq_true rfl) dL_law_282 ⟨Nat.le_of_ble_eq_true rfl, Nat.le_of_ble_eq_true rfl⟩ (fun r W1 H locs hp hV => ?_)
  obtain ⟨hp1, hp2⟩ := hp
  replace hp1 := hp1.symm
  subst hp1
  replace hp2 := hp2.symm
  subst hp2
  have hV : qV D A s.heap ((wC h (g 0) (k 0) cA n tx T C (nSet 0 50 K (xs (i + 1))) L P u ua ub) ++ (wT g cA pm jm lm du pr ja rt) ++ (wT k cA pm2 jm2 lm2 du2 pr2 ja2 rt2) ++ (wY f cA pr ja rs os) ++ (wD f cA n tx T C (nSet 0 50 K (xs (i + 1))) P L u ua ub pm jm lm du lt hh)) H locs := hV
  have hV : qV D A s.heap ((wC h (g 0) (k 0) cA n tx T C (nSet 0 50 K (xs (i + 1))) L P u ua ub) ++ (wT g cA pm jm lm du pr ja rt) ++ (wT k cA pm2 jm2 lm2 du2 pr2 ja2 rt2) ++ (wD f cA n tx T C (nSet 0 50 K (xs (i + 1))) P L u ua ub pm jm lm du lt hh) ++ (wY f cA pr ja rs os)) H locs := hV.sub [0, 1, 2, 3, 4, 5, 6, 7, 8, 9, 10, 11, 12, 13, 18, 19, 20, 21, 22, 23, 14, 15, 16, 17] rfl rfl
  refine z_icmp_eq (tgt := 651) hx hb dL_law_285 (by decide) (fun _ => ?_) (fun c1 => absurd rfl c1)
  exact ih _ _ _ _ _ _ _ _ _ _ _ _ _ _ _ _ _ _ _ _ _ _ _ _ _ _ _ _ (hI.setClearingTime (xs (i + 1))) _ _ _ hV hl
set_option maxHeartbeats 4000000 in
set_option maxRecDepth 100000 in
theorem lc_6 {p : Program} {e : Env} {s : State} {m : MethodId} {below : List Frame} {meth : Method} {c : Code} (l : Launch) {b Ln : Nat} {xs : Nat → Int32} (hL : Ln ≤ 1536) (C0 : lw_At p s m meth c b Ln xs) (D : va_G) (cA : ClassId) (A : Nat → Prop) (hA : ∀ q, s.heap.size ≤ q → A q) (hbA : ¬ A b) (hK : va_K D vwCl [(cA, .int)] s) (hN : nW s) (h g k f : Nat → Nat) (i : Nat) (hi : i + 3 ≤ Ln) (ih : LK p l e s m below meth c b D cA A h g k f i) (n : Nat) (tx : Nat → Nat) (T : Nat) (C : Nat) (K : Nat) (L : Nat → Nat) (P : Nat → Nat) (u : Nat) (ua : Nat → Nat) (ub : Nat → Nat) (pm : Nat) (jm : Nat) (lm : Nat) (du : Nat) (pr : Nat → Nat) (ja : Nat → Nat) (rt : Nat → Nat) (pm2 : Nat) (jm2 : Nat) (lm2 : Nat) (du2 : Nat) (pr2 : Nat → Nat) (ja2 : Nat → Nat) (rt2 : Nat → Nat) (lt : Nat) (hh : Int64) (rs : Nat → Nat) (os : Nat → Nat) (hI : sInv n tx T C K (L, P, u, ua, ub) (pm, jm, lm, du, pr, ja)) (H : Heap) (locs : List Loc) (ls : Array Slot) (hV : qV D A s.heap ((wC h (g 0) (k 0) cA n tx T C K L P u ua ub) ++ (wT g cA pm jm lm du pr ja rt) ++ (wT k cA pm2 jm2 lm2 du2 pr2 ja2 rt2) ++ (wD f cA n tx T C K P L u ua ub pm jm lm du lt hh) ++ (wY f cA pr ja rs os)) H locs) (hl : lv_has ls 4 [(0, .ref b), (1, .ref (h 0)), (2, .ref (f 0)), (3, .int (nI i))]) : W p l e room_1 s m #[Value.ref b] below meth c H locs 24 792 (lw_Z below #[Value.ref b] s) (F0 m 290 ls []) := by
  obtain ⟨hx, hb, hr, hml, hown, hts, hX, hbl, hlocks, hgv⟩ := id C0
  have hts : ∀ w ∈ wsL_law, w.before #[Value.ref b] s = true := fun w h => hts w (wsL_law_in w h)
  have hown : s.vm.findClass RL = some m.cls := hown
  obtain ⟨hn, htx, hT, hC, hK5, ⟨hp, hu, hua, hub⟩, h_pm, h_jm⟩ := id hI
  refine lv_aload_n hx hb dL_law_290 rfl (lv_at hl 1 rfl) ?_
  have hV : qV D A s.heap ((wT g cA pm jm lm du pr ja rt) ++ (wT k cA pm2 jm2 lm2 du2 pr2 ja2 rt2) ++ (wD f cA n tx T C K P L u ua ub pm jm lm du lt hh) ++ (wY f cA pr ja rs os) ++ (wC h (g 0) (k 0) cA n tx T C K L P u ua ub)) H locs := hV.sub [6, 7, 8, 9, 10, 11, 12, 13, 14, 15, 16, 17, 18, 19, 20, 21, 22, 23, 0, 1, 2, 3, 4, 5] rfl rfl
  refine k_V_i (w0 := (wT g cA pm jm lm du pr ja rt) ++ (wT k cA pm2 jm2 lm2 du2 pr2 ja2 rt2) ++ (wD f cA n tx T C K P L u ua ub pm jm lm du lt hh) ++ (wY f cA pr ja rs os)) (wc := wC h (g 0) (k 0) cA n tx T C K L P u ua ub) (b := h 0) (As := []) (rest := []) hx hb hml hown hts hK hA hN hV hl.1 (c_X1_loadLayout l D h (g 0) (k 0) cA n tx T C K L P u ua ub  (by first | omega | assumption) (by first | omega | assumption)) gL_law_X1_loadLayout rfl rfl rfl hdX1_loadLayout ⟨Nat.le_of_ble_eq_true rfl, Nat.le_of_ble_eq_true rfl⟩ 18 1 rfl rfl rfl rfl rfl (Nat.le_of_ble_eq_true rfl) dL_law_291 ⟨Nat.le_of_ble_eq_true rfl, Nat.le_of_ble_eq_true rfl⟩ (fun r W1 H locs hp hV => ?_)
  obtain ⟨hp1, hp2⟩ := hp
  replace hp1 := hp1.symm
  subst hp1
  replace hp2 := hp2.symm
  subst hp2
  have hV : qV D A s.heap ((wT g cA pm jm lm du pr ja rt) ++ (wT k cA pm2 jm2 lm2 du2 pr2 ja2 rt2) ++ (wD f cA n tx T C K P L u ua ub pm jm lm du lt hh) ++ (wY f cA pr ja rs os) ++ (wC h (g 0) (k 0) cA (nLd n tx) tx T C K ((yLd n tx (L, P, u, ua, ub)).1) ((yLd n tx (L, P, u, ua, ub)).2.1) ((yLd n tx (L, P, u, ua, ub)).2.2.1) ((yLd n tx (L, P, u, ua, ub)).2.2.2.1) ((yLd n tx (L, P, u, ua, ub)).2.2.2.2))) H locs := hV
  have hV : qV D A s.heap ((wC h (g 0) (k 0) cA (nLd n tx) tx T C K ((yLd n tx (L, P, u, ua, ub)).1) ((yLd n tx (L, P, u, ua, ub)).2.1) ((yLd n tx (L, P, u, ua, ub)).2.2.1) ((yLd n tx (L, P, u, ua, ub)).2.2.2.1) ((yLd n tx (L, P, u, ua, ub)).2.2.2.2)) ++ (wT g cA pm jm lm du pr ja rt) ++ (wT k cA pm2 jm2 lm2 du2 pr2 ja2 rt2) ++ (wD f cA n tx T C K P L u ua ub pm jm lm du lt hh) ++ (wY f cA pr ja rs os)) H locs := hV.sub [18, 19, 20, 21, 22, 23, 0, 1, 2, 3, 4, 5, 6, 7, 8, 9, 10, 11, 12, 13, 14, 15, 16, 17] rfl rfl
  refine lv_aload_n hx hb dL_law_294 rfl (lv_at hl 2 rfl) ?_
  have hV : qV D A s.heap ((wC h (g 0) (k 0) cA (nLd n tx) tx T C K ((yLd n tx (L, P, u, ua, ub)).1) ((yLd n tx (L, P, u, ua, ub)).2.1) ((yLd n tx (L, P, u, ua, ub)).2.2.1) ((yLd n tx (L, P, u, ua, ub)).2.2.2.1) ((yLd n tx (L, P, u, ua, ub)).2.2.2.2)) ++ (wT g cA pm jm lm du pr ja rt) ++ (wT k cA pm2 jm2 lm2 du2 pr2 ja2 rt2) ++ (wY f cA pr ja rs os) ++ (wD f cA n tx T C K P L u ua ub pm jm lm du lt hh)) H locs := hV.sub [0, 1, 2, 3, 4, 5, 6, 7, 8, 9, 10, 11, 12, 13, 20, 21, 22, 23, 14, 15, 16, 17, 18, 19] rfl rfl
  refine k_V_i (w0 := (wC h (g 0) (k 0) cA (nLd n tx) tx T C K ((yLd n tx (L, P, u, ua, ub)).1) ((yLd n tx (L, P, u, ua, ub)).2.1) ((yLd n tx (L, P, u, ua, ub)).2.2.1) ((yLd n tx (L, P, u, ua, ub)).2.2.2.1) ((yLd n tx (L, P, u, ua, ub)).2.2.2.2)) ++ (wT g cA pm jm lm du pr ja rt) ++ (wT k cA pm2 jm2 lm2 du2 pr2 ja2 rt2) ++ (wY f cA pr ja rs os)) (wc := wD f cA n tx T C K P L u ua ub pm jm lm du lt hh) (b := f 0) (As := []) (rest := [.int (aLd n tx)]) hx hb hml hown hts hK hA hN hV hl.1 (c_X2_loadLayout l D f cA n tx T C K P L u ua ub pm jm lm du lt hh  (by first | omega | assumption) (by first | omega | assumption)) gL_law_X2_loadLayout rfl rfl rfl hdX2_loadLayout ⟨Nat.le_of_ble_eq_true rfl, Nat.le_of_ble_eq_true rfl⟩ 18 2 rfl rfl rfl rfl rfl (Nat.le_of_ble_eq_true rfl) dL_law_295 ⟨Nat.le_of_ble_eq_true rfl, Nat.le_of_ble_eq_true rfl⟩ (fun r W1 H locs hp hV => ?_)
  obtain ⟨hp1, hp2⟩ := hp
  replace hp1 := hp1.symm
  subst hp1
  replace hp2 := hp2.symm
  subst hp2
  have hV : qV D A s.heap ((wC h (g 0) (k 0) cA (nLd n tx) tx T C K ((yLd n tx (L, P, u, ua, ub)).1) ((yLd n tx (L, P, u, ua, ub)).2.1) ((yLd n tx (L, P, u, ua, ub)).2.2.1) ((yLd n tx (L, P, u, ua, ub)).2.2.2.1) ((yLd n tx (L, P, u, ua, ub)).2.2.2.2)) ++ (wT g cA pm jm lm du pr ja rt) ++ (wT k cA pm2 jm2 lm2 du2 pr2 ja2 rt2) ++ (wY f cA pr ja rs os) ++ (wD f cA (nLd n tx) tx T C K ((yLd n tx (L, P, u, ua, ub)).2.1) ((yLd n tx (L, P, u, ua, ub)).1) ((yLd n tx (L, P, u, ua, ub)).2.2.1) ((yLd n tx (L, P, u, ua, ub)).2.2.2.1) ((yLd n tx (L, P, u, ua, ub)).2.2.2.2) pm jm lm du lt hh)) H locs := hV
  have hV : qV D A s.heap ((wC h (g 0) (k 0) cA (nLd n tx) tx T C K ((yLd n tx (L, P, u, ua, ub)).1) ((yLd n tx (L, P, u, ua, ub)).2.1) ((yLd n tx (L, P, u, ua, ub)).2.2.1) ((yLd n tx (L, P, u, ua, ub)).2.2.2.1) ((yLd n tx (L, P, u, ua, ub)).2.2.2.2)) ++ (wT g cA pm jm lm du pr ja rt) ++ (wT k cA pm2 jm2 lm2 du2 pr2 ja2 rt2) ++ (wD f cA (nLd n tx) tx T C K ((yLd n tx (L, P, u, ua, ub)).2.1) ((yLd n tx (L, P, u, ua, ub)).1) ((yLd n tx (L, P, u, ua, ub)).2.2.1) ((yLd n tx (L, P, u, ua, ub)).2.2.2.1) ((yLd n tx (L, P, u, ua, ub)).2.2.2.2) pm jm lm du lt hh) ++ (wY f cA pr ja rs os)) H locs := hV.sub [0, 1, 2, 3, 4, 5, 6, 7, 8, 9, 10, 11, 12, 13, 18, 19, 20, 21, 22, 23, 14, 15, 16, 17] rfl rfl
  refine z_icmp_eq (tgt := 651) hx hb dL_law_298 (by decide) (fun _ => ?_) (fun c1 => absurd rfl c1)
  exact ih _ _ _ _ _ _ _ _ _ _ _ _ _ _ _ _ _ _ _ _ _ _ _ _ _ _ _ _ (hI.loadLayout) _ _ _ hV hl
set_option maxHeartbeats 4000000 in
set_option maxRecDepth 100000 in
theorem lc_7 {p : Program} {e : Env} {s : State} {m : MethodId} {below : List Frame} {meth : Method} {c : Code} (l : Launch) {b Ln : Nat} {xs : Nat → Int32} (hL : Ln ≤ 1536) (C0 : lw_At p s m meth c b Ln xs) (D : va_G) (cA : ClassId) (A : Nat → Prop) (hA : ∀ q, s.heap.size ≤ q → A q) (hbA : ¬ A b) (hK : va_K D vwCl [(cA, .int)] s) (hN : nW s) (h g k f : Nat → Nat) (i : Nat) (hi : i + 3 ≤ Ln) (ih : LK p l e s m below meth c b D cA A h g k f i) (n : Nat) (tx : Nat → Nat) (T : Nat) (C : Nat) (K : Nat) (L : Nat → Nat) (P : Nat → Nat) (u : Nat) (ua : Nat → Nat) (ub : Nat → Nat) (pm : Nat) (jm : Nat) (lm : Nat) (du : Nat) (pr : Nat → Nat) (ja : Nat → Nat) (rt : Nat → Nat) (pm2 : Nat) (jm2 : Nat) (lm2 : Nat) (du2 : Nat) (pr2 : Nat → Nat) (ja2 : Nat → Nat) (rt2 : Nat → Nat) (lt : Nat) (hh : Int64) (rs : Nat → Nat) (os : Nat → Nat) (hI : sInv n tx T C K (L, P, u, ua, ub) (pm, jm, lm, du, pr, ja)) (H : Heap) (locs : List Loc) (ls : Array Slot) (hV : qV D A s.heap ((wC h (g 0) (k 0) cA n tx T C K L P u ua ub) ++ (wT g cA pm jm lm du pr ja rt) ++ (wT k cA pm2 jm2 lm2 du2 pr2 ja2 rt2) ++ (wD f cA n tx T C K P L u ua ub pm jm lm du lt hh) ++ (wY f cA pr ja rs os)) H locs) (hl : lv_has ls 4 [(0, .ref b), (1, .ref (h 0)), (2, .ref (f 0)), (3, .int (nI i))]) : W p l e room_1 s m #[Value.ref b] below meth c H locs 24 792 (lw_Z below #[Value.ref b] s) (F0 m 303 ls []) := by
  obtain ⟨hx, hb, hr, hml, hown, hts, hX, hbl, hlocks, hgv⟩ := id C0
  have hts : ∀ w ∈ wsL_law, w.before #[Value.ref b] s = true := fun w h => hts w (wsL_law_in w h)
  have hown : s.vm.findClass RL = some m.cls := hown
  obtain ⟨hn, htx, hT, hC, hK5, ⟨hp, hu, hua, hub⟩, h_pm, h_jm⟩ := id hI
  refine lv_aload_n hx hb dL_law_303 rfl (lv_at hl 1 rfl) ?_
  refine lv_aload_n hx hb dL_law_304 rfl (lv_at hl 0 rfl) ?_
  refine lv_iload_n hx hb dL_law_305 rfl (lv_at hl 3 rfl) ?_
  refine lv_iconst (v := nI 1) hx hb dL_law_306 (by decide) ?_
  refine q_iadd2 (x := i) (y := 1) (z := i + 1) hx hb (by omega) dL_law_307 ?_
  refine q_sld (k := i + 1) hx hb hX hbl hbA hV.2.2 (by omega) (by omega) dL_law_308 ?_
  have hV : qV D A s.heap ((wT g cA pm jm lm du pr ja rt) ++ (wT k cA pm2 jm2 lm2 du2 pr2 ja2 rt2) ++ (wD f cA n tx T C K P L u ua ub pm jm lm du lt hh) ++ (wY f cA pr ja rs os) ++ (wC h (g 0) (k 0) cA n tx T C K L P u ua ub)) H locs := hV.sub [6, 7, 8, 9, 10, 11, 12, 13, 14, 15, 16, 17, 18, 19, 20, 21, 22, 23, 0, 1, 2, 3, 4, 5] rfl rfl
  refine k_V_i (w0 := (wT g cA pm jm lm du pr ja rt) ++ (wT k cA pm2 jm2 lm2 du2 pr2 ja2 rt2) ++ (wD f cA n tx T C K P L u ua ub pm jm lm du lt hh) ++ (wY f cA pr ja rs os)) (wc := wC h (g 0) (k 0) cA n tx T C K L P u ua ub) (b := h 0) (As := [.int (xs (i + 1))]) (rest := []) hx hb hml hown hts hK hA hN hV hl.1 (c_X1_letterAt l D h (g 0) (k 0) cA n tx T C K L P u ua ub (xs (i + 1)) ) gL_law_X1_letterAt rfl rfl rfl hdX1_letterAt ⟨Nat.le_of_ble_eq_true rfl, Nat.le_of_ble_eq_true rfl⟩ 18 1 rfl rfl rfl rfl rfl (Nat.le_of_ble_eq_true rfl) dL_law_309 ⟨Nat.le_of_ble_eq_true rfl, Nat.le_of_ble_eq_true rfl⟩ (fun r W1 H locs hp hV => ?_)
  obtain ⟨hp1, hp2⟩ := hp
  replace hp1 := hp1.symm
  subst hp1
  replace hp2 := hp2.symm
  subst hp2
  have hV : qV D A s.heap ((wT g cA pm jm lm du pr ja rt) ++ (wT k cA pm2 jm2 lm2 du2 pr2 ja2 rt2) ++ (wD f cA n tx T C K P L u ua ub pm jm lm du lt hh) ++ (wY f cA pr ja rs os) ++ (wC h (g 0) (k 0) cA n tx T C K L P u ua ub)) H locs := hV
  have hV : qV D A s.heap ((wC h (g 0) (k 0) cA n tx T C K L P u ua ub) ++ (wT g cA pm jm lm du pr ja rt) ++ (wT k cA pm2 jm2 lm2 du2 pr2 ja2 rt2) ++ (wD f cA n tx T C K P L u ua ub pm jm lm du lt hh) ++ (wY f cA pr ja rs os)) H locs := hV.sub [18, 19, 20, 21, 22, 23, 0, 1, 2, 3, 4, 5, 6, 7, 8, 9, 10, 11, 12, 13, 14, 15, 16, 17] rfl rfl
  refine lv_aload_n hx hb dL_law_312 rfl (lv_at hl 2 rfl) ?_
  refine lv_aload_n hx hb dL_law_313 rfl (lv_at hl 0 rfl) ?_
  refine lv_iload_n hx hb dL_law_314 rfl (lv_at hl 3 rfl) ?_
  refine lv_iconst (v := nI 1) hx hb dL_law_315 (by decide) ?_
  refine q_iadd2 (x := i) (y := 1) (z := i + 1) hx hb (by omega) dL_law_316 ?_
  refine q_sld (k := i + 1) hx hb hX hbl hbA hV.2.2 (by omega) (by omega) dL_law_317 ?_
  have hV : qV D A s.heap ((wC h (g 0) (k 0) cA n tx T C K L P u ua ub) ++ (wT g cA pm jm lm du pr ja rt) ++ (wT k cA pm2 jm2 lm2 du2 pr2 ja2 rt2) ++ (wY f cA pr ja rs os) ++ (wD f cA n tx T C K P L u ua ub pm jm lm du lt hh)) H locs := hV.sub [0, 1, 2, 3, 4, 5, 6, 7, 8, 9, 10, 11, 12, 13, 20, 21, 22, 23, 14, 15, 16, 17, 18, 19] rfl rfl
  refine k_V_i (w0 := (wC h (g 0) (k 0) cA n tx T C K L P u ua ub) ++ (wT g cA pm jm lm du pr ja rt) ++ (wT k cA pm2 jm2 lm2 du2 pr2 ja2 rt2) ++ (wY f cA pr ja rs os)) (wc := wD f cA n tx T C K P L u ua ub pm jm lm du lt hh) (b := f 0) (As := [.int (xs (i + 1))]) (rest := [.int (aAt L (xs (i + 1)))]) hx hb hml hown hts hK hA hN hV hl.1 (c_X2_letterAt l D f cA n tx T C K P L u ua ub pm jm lm du lt hh (xs (i + 1)) ) gL_law_X2_letterAt rfl rfl rfl hdX2_letterAt ⟨Nat.le_of_ble_eq_true rfl, Nat.le_of_ble_eq_true rfl⟩ 18 2 rfl rfl rfl rfl rfl (Nat.le_of_ble_eq_true rfl) dL_law_318 ⟨Nat.le_of_ble_eq_true rfl, Nat.le_of_ble_eq_true rfl⟩ (fun r W1 H locs hp hV => ?_)
  obtain ⟨hp1, hp2⟩ := hp
  replace hp1 := hp1.symm
  subst hp1
  replace hp2 := hp2.symm
  subst hp2
  have hV : qV D A s.heap ((wC h (g 0) (k 0) cA n tx T C K L P u ua ub) ++ (wT g cA pm jm lm du pr ja rt) ++ (wT k cA pm2 jm2 lm2 du2 pr2 ja2 rt2) ++ (wY f cA pr ja rs os) ++ (wD f cA n tx T C K P L u ua ub pm jm lm du lt hh)) H locs := hV
  have hV : qV D A s.heap ((wC h (g 0) (k 0) cA n tx T C K L P u ua ub) ++ (wT g cA pm jm lm du pr ja rt) ++ (wT k cA pm2 jm2 lm2 du2 pr2 ja2 rt2) ++ (wD f cA n tx T C K P L u ua ub pm jm lm du lt hh) ++ (wY f cA pr ja rs os)) H locs := hV.sub [0, 1, 2, 3, 4, 5, 6, 7, 8, 9, 10, 11, 12, 13, 18, 19, 20, 21, 22, 23, 14, 15, 16, 17] rfl rfl
  refine z_icmp_eq (tgt := 651) hx hb dL_law_321 (by decide) (fun _ => ?_) (fun c1 => absurd rfl c1)
  exact ih _ _ _ _ _ _ _ _ _ _ _ _ _ _ _ _ _ _ _ _ _ _ _ _ _ _ _ _ (hI) _ _ _ hV hl
set_option maxHeartbeats 4000000 in
set_option maxRecDepth 100000 in
theorem lc_8 {p : Program} {e : Env} {s : State} {m : MethodId} {below : List Frame} {meth : Method} {c : Code} (l : Launch) {b Ln : Nat} {xs : Nat → Int32} (hL : Ln ≤ 1536) (C0 : lw_At p s m meth c b Ln xs) (D : va_G) (cA : ClassId) (A : Nat → Prop) (hA : ∀ q, s.heap.size ≤ q → A q) (hbA : ¬ A b) (hK : va_K D vwCl [(cA, .int)] s) (hN : nW s) (h g k f : Nat → Nat) (i : Nat) (hi : i + 3 ≤ Ln) (ih : LK p l e s m below meth c b D cA A h g k f i) (n : Nat) (tx : Nat → Nat) (T : Nat) (C : Nat) (K : Nat) (L : Nat → Nat) (P : Nat → Nat) (u : Nat) (ua : Nat → Nat) (ub : Nat → Nat) (pm : Nat) (jm : Nat) (lm : Nat) (du : Nat) (pr : Nat → Nat) (ja : Nat → Nat) (rt : Nat → Nat) (pm2 : Nat) (jm2 : Nat) (lm2 : Nat) (du2 : Nat) (pr2 : Nat → Nat) (ja2 : Nat → Nat) (rt2 : Nat → Nat) (lt : Nat) (hh : Int64) (rs : Nat → Nat) (os : Nat → Nat) (hI : sInv n tx T C K (L, P, u, ua, ub) (pm, jm, lm, du, pr, ja)) (H : Heap) (locs : List Loc) (ls : Array Slot) (hV : qV D A s.heap ((wC h (g 0) (k 0) cA n tx T C K L P u ua ub) ++ (wT g cA pm jm lm du pr ja rt) ++ (wT k cA pm2 jm2 lm2 du2 pr2 ja2 rt2) ++ (wD f cA n tx T C K P L u ua ub pm jm lm du lt hh) ++ (wY f cA pr ja rs os)) H locs) (hl : lv_has ls 4 [(0, .ref b), (1, .ref (h 0)), (2, .ref (f 0)), (3, .int (nI i))]) : W p l e room_1 s m #[Value.ref b] below meth c H locs 24 792 (lw_Z below #[Value.ref b] s) (F0 m 326 ls []) := by
  obtain ⟨hx, hb, hr, hml, hown, hts, hX, hbl, hlocks, hgv⟩ := id C0
  have hts : ∀ w ∈ wsL_law, w.before #[Value.ref b] s = true := fun w h => hts w (wsL_law_in w h)
  have hown : s.vm.findClass RL = some m.cls := hown
  obtain ⟨hn, htx, hT, hC, hK5, ⟨hp, hu, hua, hub⟩, h_pm, h_jm⟩ := id hI
  refine lv_aload_n hx hb dL_law_326 rfl (lv_at hl 1 rfl) ?_
  refine lv_aload_n hx hb dL_law_327 rfl (lv_at hl 0 rfl) ?_
  refine lv_iload_n hx hb dL_law_328 rfl (lv_at hl 3 rfl) ?_
  refine lv_iconst (v := nI 1) hx hb dL_law_329 (by decide) ?_
  refine q_iadd2 (x := i) (y := 1) (z := i + 1) hx hb (by omega) dL_law_330 ?_
  refine q_sld (k := i + 1) hx hb hX hbl hbA hV.2.2 (by omega) (by omega) dL_law_331 ?_
  have hV : qV D A s.heap ((wT g cA pm jm lm du pr ja rt) ++ (wT k cA pm2 jm2 lm2 du2 pr2 ja2 rt2) ++ (wD f cA n tx T C K P L u ua ub pm jm lm du lt hh) ++ (wY f cA pr ja rs os) ++ (wC h (g 0) (k 0) cA n tx T C K L P u ua ub)) H locs := hV.sub [6, 7, 8, 9, 10, 11, 12, 13, 14, 15, 16, 17, 18, 19, 20, 21, 22, 23, 0, 1, 2, 3, 4, 5] rfl rfl
  refine k_V_i (w0 := (wT g cA pm jm lm du pr ja rt) ++ (wT k cA pm2 jm2 lm2 du2 pr2 ja2 rt2) ++ (wD f cA n tx T C K P L u ua ub pm jm lm du lt hh) ++ (wY f cA pr ja rs os)) (wc := wC h (g 0) (k 0) cA n tx T C K L P u ua ub) (b := h 0) (As := [.int (xs (i + 1))]) (rest := []) hx hb hml hown hts hK hA hN hV hl.1 (c_X1_positionOf l D h (g 0) (k 0) cA n tx T C K L P u ua ub (xs (i + 1)) ) gL_law_X1_positionOf rfl rfl rfl hdX1_positionOf ⟨Nat.le_of_ble_eq_true rfl, Nat.le_of_ble_eq_true rfl⟩ 18 1 rfl rfl rfl rfl rfl (Nat.le_of_ble_eq_true rfl) dL_law_332 ⟨Nat.le_of_ble_eq_true rfl, Nat.le_of_ble_eq_true rfl⟩ (fun r W1 H locs hp hV => ?_)
  obtain ⟨hp1, hp2⟩ := hp
  replace hp1 := hp1.symm
  subst hp1
  replace hp2 := hp2.symm
  subst hp2
  have hV : qV D A s.heap ((wT g cA pm jm lm du pr ja rt) ++ (wT k cA pm2 jm2 lm2 du2 pr2 ja2 rt2) ++ (wD f cA n tx T C K P L u ua ub pm jm lm du lt hh) ++ (wY f cA pr ja rs os) ++ (wC h (g 0) (k 0) cA n tx T C K L P u ua ub)) H locs := hV
  have hV : qV D A s.heap ((wC h (g 0) (k 0) cA n tx T C K L P u ua ub) ++ (wT g cA pm jm lm du pr ja rt) ++ (wT k cA pm2 jm2 lm2 du2 pr2 ja2 rt2) ++ (wD f cA n tx T C K P L u ua ub pm jm lm du lt hh) ++ (wY f cA pr ja rs os)) H locs := hV.sub [18, 19, 20, 21, 22, 23, 0, 1, 2, 3, 4, 5, 6, 7, 8, 9, 10, 11, 12, 13, 14, 15, 16, 17] rfl rfl
  refine lv_aload_n hx hb dL_law_335 rfl (lv_at hl 2 rfl) ?_
  refine lv_aload_n hx hb dL_law_336 rfl (lv_at hl 0 rfl) ?_
  refine lv_iload_n hx hb dL_law_337 rfl (lv_at hl 3 rfl) ?_
  refine lv_iconst (v := nI 1) hx hb dL_law_338 (by decide) ?_
  refine q_iadd2 (x := i) (y := 1) (z := i + 1) hx hb (by omega) dL_law_339 ?_
  refine q_sld (k := i + 1) hx hb hX hbl hbA hV.2.2 (by omega) (by omega) dL_law_340 ?_
  have hV : qV D A s.heap ((wC h (g 0) (k 0) cA n tx T C K L P u ua ub) ++ (wT g cA pm jm lm du pr ja rt) ++ (wT k cA pm2 jm2 lm2 du2 pr2 ja2 rt2) ++ (wY f cA pr ja rs os) ++ (wD f cA n tx T C K P L u ua ub pm jm lm du lt hh)) H locs := hV.sub [0, 1, 2, 3, 4, 5, 6, 7, 8, 9, 10, 11, 12, 13, 20, 21, 22, 23, 14, 15, 16, 17, 18, 19] rfl rfl
  refine k_V_i (w0 := (wC h (g 0) (k 0) cA n tx T C K L P u ua ub) ++ (wT g cA pm jm lm du pr ja rt) ++ (wT k cA pm2 jm2 lm2 du2 pr2 ja2 rt2) ++ (wY f cA pr ja rs os)) (wc := wD f cA n tx T C K P L u ua ub pm jm lm du lt hh) (b := f 0) (As := [.int (xs (i + 1))]) (rest := [.int (aAt P (xs (i + 1)))]) hx hb hml hown hts hK hA hN hV hl.1 (c_X2_positionOf l D f cA n tx T C K P L u ua ub pm jm lm du lt hh (xs (i + 1)) ) gL_law_X2_positionOf rfl rfl rfl hdX2_positionOf ⟨Nat.le_of_ble_eq_true rfl, Nat.le_of_ble_eq_true rfl⟩ 18 2 rfl rfl rfl rfl rfl (Nat.le_of_ble_eq_true rfl) dL_law_341 ⟨Nat.le_of_ble_eq_true rfl, Nat.le_of_ble_eq_true rfl⟩ (fun r W1 H locs hp hV => ?_)
  obtain ⟨hp1, hp2⟩ := hp
  replace hp1 := hp1.symm
  subst hp1
  replace hp2 := hp2.symm
  subst hp2
  have hV : qV D A s.heap ((wC h (g 0) (k 0) cA n tx T C K L P u ua ub) ++ (wT g cA pm jm lm du pr ja rt) ++ (wT k cA pm2 jm2 lm2 du2 pr2 ja2 rt2) ++ (wY f cA pr ja rs os) ++ (wD f cA n tx T C K P L u ua ub pm jm lm du lt hh)) H locs := hV
  have hV : qV D A s.heap ((wC h (g 0) (k 0) cA n tx T C K L P u ua ub) ++ (wT g cA pm jm lm du pr ja rt) ++ (wT k cA pm2 jm2 lm2 du2 pr2 ja2 rt2) ++ (wD f cA n tx T C K P L u ua ub pm jm lm du lt hh) ++ (wY f cA pr ja rs os)) H locs := hV.sub [0, 1, 2, 3, 4, 5, 6, 7, 8, 9, 10, 11, 12, 13, 18, 19, 20, 21, 22, 23, 14, 15, 16, 17] rfl rfl
  refine z_icmp_eq (tgt := 651) hx hb dL_law_344 (by decide) (fun _ => ?_) (fun c1 => absurd rfl c1)
  exact ih _ _ _ _ _ _ _ _ _ _ _ _ _ _ _ _ _ _ _ _ _ _ _ _ _ _ _ _ (hI) _ _ _ hV hl
set_option maxHeartbeats 4000000 in
set_option maxRecDepth 100000 in
theorem lc_9 {p : Program} {e : Env} {s : State} {m : MethodId} {below : List Frame} {meth : Method} {c : Code} (l : Launch) {b Ln : Nat} {xs : Nat → Int32} (hL : Ln ≤ 1536) (C0 : lw_At p s m meth c b Ln xs) (D : va_G) (cA : ClassId) (A : Nat → Prop) (hA : ∀ q, s.heap.size ≤ q → A q) (hbA : ¬ A b) (hK : va_K D vwCl [(cA, .int)] s) (hN : nW s) (h g k f : Nat → Nat) (i : Nat) (hi : i + 3 ≤ Ln) (ih : LK p l e s m below meth c b D cA A h g k f i) (n : Nat) (tx : Nat → Nat) (T : Nat) (C : Nat) (K : Nat) (L : Nat → Nat) (P : Nat → Nat) (u : Nat) (ua : Nat → Nat) (ub : Nat → Nat) (pm : Nat) (jm : Nat) (lm : Nat) (du : Nat) (pr : Nat → Nat) (ja : Nat → Nat) (rt : Nat → Nat) (pm2 : Nat) (jm2 : Nat) (lm2 : Nat) (du2 : Nat) (pr2 : Nat → Nat) (ja2 : Nat → Nat) (rt2 : Nat → Nat) (lt : Nat) (hh : Int64) (rs : Nat → Nat) (os : Nat → Nat) (hI : sInv n tx T C K (L, P, u, ua, ub) (pm, jm, lm, du, pr, ja)) (H : Heap) (locs : List Loc) (ls : Array Slot) (hV : qV D A s.heap ((wC h (g 0) (k 0) cA n tx T C K L P u ua ub) ++ (wT g cA pm jm lm du pr ja rt) ++ (wT k cA pm2 jm2 lm2 du2 pr2 ja2 rt2) ++ (wD f cA n tx T C K P L u ua ub pm jm lm du lt hh) ++ (wY f cA pr ja rs os)) H locs) (hl : lv_has ls 4 [(0, .ref b), (1, .ref (h 0)), (2, .ref (f 0)), (3, .int (nI i))]) : W p l e room_1 s m #[Value.ref b] below meth c H locs 24 792 (lw_Z below #[Value.ref b] s) (F0 m 349 ls []) := by
  obtain ⟨hx, hb, hr, hml, hown, hts, hX, hbl, hlocks, hgv⟩ := id C0
  have hts : ∀ w ∈ wsL_law, w.before #[Value.ref b] s = true := fun w h => hts w (wsL_law_in w h)
  have hown : s.vm.findClass RL = some m.cls := hown
  obtain ⟨hn, htx, hT, hC, hK5, ⟨hp, hu, hua, hub⟩, h_pm, h_jm⟩ := id hI
  refine lv_aload_n hx hb dL_law_349 rfl (lv_at hl 1 rfl) ?_
  refine lv_aload_n hx hb dL_law_350 rfl (lv_at hl 0 rfl) ?_
  refine lv_iload_n hx hb dL_law_351 rfl (lv_at hl 3 rfl) ?_
  refine lv_iconst (v := nI 1) hx hb dL_law_352 (by decide) ?_
  refine q_iadd2 (x := i) (y := 1) (z := i + 1) hx hb (by omega) dL_law_353 ?_
  refine q_sld (k := i + 1) hx hb hX hbl hbA hV.2.2 (by omega) (by omega) dL_law_354 ?_
  refine lv_aload_n hx hb dL_law_355 rfl (lv_at hl 0 rfl) ?_
  refine lv_iload_n hx hb dL_law_356 rfl (lv_at hl 3 rfl) ?_
  refine lv_iconst (v := nI 2) hx hb dL_law_357 (by decide) ?_
  refine q_iadd2 (x := i) (y := 2) (z := i + 2) hx hb (by omega) dL_law_358 ?_
  refine q_sld (k := i + 2) hx hb hX hbl hbA hV.2.2 (by omega) (by omega) dL_law_359 ?_
  have hV : qV D A s.heap ((wT g cA pm jm lm du pr ja rt) ++ (wT k cA pm2 jm2 lm2 du2 pr2 ja2 rt2) ++ (wD f cA n tx T C K P L u ua ub pm jm lm du lt hh) ++ (wY f cA pr ja rs os) ++ (wC h (g 0) (k 0) cA n tx T C K L P u ua ub)) H locs := hV.sub [6, 7, 8, 9, 10, 11, 12, 13, 14, 15, 16, 17, 18, 19, 20, 21, 22, 23, 0, 1, 2, 3, 4, 5] rfl rfl
  refine k_V_i (w0 := (wT g cA pm jm lm du pr ja rt) ++ (wT k cA pm2 jm2 lm2 du2 pr2 ja2 rt2) ++ (wD f cA n tx T C K P L u ua ub pm jm lm du lt hh) ++ (wY f cA pr ja rs os)) (wc := wC h (g 0) (k 0) cA n tx T C K L P u ua ub) (b := h 0) (As := [.int (xs (i + 1)), .int (xs (i + 2))]) (rest := []) hx hb hml hown hts hK hA hN hV hl.1 (c_X1_swap l D h (g 0) (k 0) cA n tx T C K L P u ua ub (xs (i + 1)) (xs (i + 2)) (by first | omega | assumption) (by first | omega | assumption) (by first | omega | assumption) (by first | omega | assumption) (by first | omega | assumption)) gL_law_X1_swap rfl rfl rfl hdX1_swap ⟨Nat.le_of_ble_eq_true rfl, Nat.le_of_ble_eq_true rfl⟩ 18 1 rfl rfl rfl rfl rfl (Nat.le_of_ble_eq_true rfl) dL_law_360 ⟨Nat.le_of_ble_eq_true rfl, Nat.le_of_ble_eq_true rfl⟩ (fun r W1 H locs hp hV => ?_)
  obtain ⟨hp1, hp2⟩ := hp
  replace hp1 := hp1.symm
  subst hp1
  replace hp2 := hp2.symm
  subst hp2
  have hV : qV D A s.heap ((wT g cA pm jm lm du pr ja rt) ++ (wT k cA pm2 jm2 lm2 du2 pr2 ja2 rt2) ++ (wD f cA n tx T C K P L u ua ub pm jm lm du lt hh) ++ (wY f cA pr ja rs os) ++ (wC h (g 0) (k 0) cA n tx T C K ((ySw (xs (i + 1)) (xs (i + 2)) (L, P, u, ua, ub)).1) ((ySw (xs (i + 1)) (xs (i + 2)) (L, P, u, ua, ub)).2.1) ((ySw (xs (i + 1)) (xs (i + 2)) (L, P, u, ua, ub)).2.2.1) ((ySw (xs (i + 1)) (xs (i + 2)) (L, P, u, ua, ub)).2.2.2.1) ((ySw (xs (i + 1)) (xs (i + 2)) (L, P, u, ua, ub)).2.2.2.2))) H locs := hV
  have hV : qV D A s.heap ((wC h (g 0) (k 0) cA n tx T C K ((ySw (xs (i + 1)) (xs (i + 2)) (L, P, u, ua, ub)).1) ((ySw (xs (i + 1)) (xs (i + 2)) (L, P, u, ua, ub)).2.1) ((ySw (xs (i + 1)) (xs (i + 2)) (L, P, u, ua, ub)).2.2.1) ((ySw (xs (i + 1)) (xs (i + 2)) (L, P, u, ua, ub)).2.2.2.1) ((ySw (xs (i + 1)) (xs (i + 2)) (L, P, u, ua, ub)).2.2.2.2)) ++ (wT g cA pm jm lm du pr ja rt) ++ (wT k cA pm2 jm2 lm2 du2 pr2 ja2 rt2) ++ (wD f cA n tx T C K P L u ua ub pm jm lm du lt hh) ++ (wY f cA pr ja rs os)) H locs := hV.sub [18, 19, 20, 21, 22, 23, 0, 1, 2, 3, 4, 5, 6, 7, 8, 9, 10, 11, 12, 13, 14, 15, 16, 17] rfl rfl
  refine lv_aload_n hx hb dL_law_363 rfl (lv_at hl 2 rfl) ?_
  refine lv_aload_n hx hb dL_law_364 rfl (lv_at hl 0 rfl) ?_
  refine lv_iload_n hx hb dL_law_365 rfl (lv_at hl 3 rfl) ?_
  refine lv_iconst (v := nI 1) hx hb dL_law_366 (by decide) ?_
  refine q_iadd2 (x := i) (y := 1) (z := i + 1) hx hb (by omega) dL_law_367 ?_
  refine q_sld (k := i + 1) hx hb hX hbl hbA hV.2.2 (by omega) (by omega) dL_law_368 ?_
  refine lv_aload_n hx hb dL_law_369 rfl (lv_at hl 0 rfl) ?_
  refine lv_iload_n hx hb dL_law_370 rfl (lv_at hl 3 rfl) ?_
  refine lv_iconst (v := nI 2) hx hb dL_law_371 (by decide) ?_
  refine q_iadd2 (x := i) (y := 2) (z := i + 2) hx hb (by omega) dL_law_372 ?_
  refine q_sld (k := i + 2) hx hb hX hbl hbA hV.2.2 (by omega) (by omega) dL_law_373 ?_
  have hV : qV D A s.heap ((wC h (g 0) (k 0) cA n tx T C K ((ySw (xs (i + 1)) (xs (i + 2)) (L, P, u, ua, ub)).1) ((ySw (xs (i + 1)) (xs (i + 2)) (L, P, u, ua, ub)).2.1) ((ySw (xs (i + 1)) (xs (i + 2)) (L, P, u, ua, ub)).2.2.1) ((ySw (xs (i + 1)) (xs (i + 2)) (L, P, u, ua, ub)).2.2.2.1) ((ySw (xs (i + 1)) (xs (i + 2)) (L, P, u, ua, ub)).2.2.2.2)) ++ (wT g cA pm jm lm du pr ja rt) ++ (wT k cA pm2 jm2 lm2 du2 pr2 ja2 rt2) ++ (wY f cA pr ja rs os) ++ (wD f cA n tx T C K P L u ua ub pm jm lm du lt hh)) H locs := hV.sub [0, 1, 2, 3, 4, 5, 6, 7, 8, 9, 10, 11, 12, 13, 20, 21, 22, 23, 14, 15, 16, 17, 18, 19] rfl rfl
  refine k_V_i (w0 := (wC h (g 0) (k 0) cA n tx T C K ((ySw (xs (i + 1)) (xs (i + 2)) (L, P, u, ua, ub)).1) ((ySw (xs (i + 1)) (xs (i + 2)) (L, P, u, ua, ub)).2.1) ((ySw (xs (i + 1)) (xs (i + 2)) (L, P, u, ua, ub)).2.2.1) ((ySw (xs (i + 1)) (xs (i + 2)) (L, P, u, ua, ub)).2.2.2.1) ((ySw (xs (i + 1)) (xs (i + 2)) (L, P, u, ua, ub)).2.2.2.2)) ++ (wT g cA pm jm lm du pr ja rt) ++ (wT k cA pm2 jm2 lm2 du2 pr2 ja2 rt2) ++ (wY f cA pr ja rs os)) (wc := wD f cA n tx T C K P L u ua ub pm jm lm du lt hh) (b := f 0) (As := [.int (xs (i + 1)), .int (xs (i + 2))]) (rest := [.int (aSw C tx n (xs (i + 1)) (xs (i + 2)) (L, P, u, ua, ub))]) hx hb hml hown hts hK hA hN hV hl.1 (c_X2_swap l D f cA n tx T C K P L u ua ub pm jm lm du lt hh (xs (i + 1)) (xs (i + 2)) (by first | omega | assumption) (by first | omega | assumption) (by first | omega | assumption) (by first | omega | assumption) (by first | omega | assumption)) gL_law_X2_swap rfl rfl rfl hdX2_swap ⟨Nat.le_of_ble_eq_true rfl, Nat.le_of_ble_eq_true rfl⟩ 18 2 rfl rfl rfl rfl rfl (Nat.le_of_ble_eq_true rfl) dL_law_374 ⟨Nat.le_of_ble_eq_true rfl, Nat.le_of_ble_eq_true rfl⟩ (fun r W1 H locs hp hV => ?_)
  obtain ⟨hp1, hp2⟩ := hp
  replace hp1 := hp1.symm
  subst hp1
  replace hp2 := hp2.symm
  subst hp2
  have hV : qV D A s.heap ((wC h (g 0) (k 0) cA n tx T C K ((ySw (xs (i + 1)) (xs (i + 2)) (L, P, u, ua, ub)).1) ((ySw (xs (i + 1)) (xs (i + 2)) (L, P, u, ua, ub)).2.1) ((ySw (xs (i + 1)) (xs (i + 2)) (L, P, u, ua, ub)).2.2.1) ((ySw (xs (i + 1)) (xs (i + 2)) (L, P, u, ua, ub)).2.2.2.1) ((ySw (xs (i + 1)) (xs (i + 2)) (L, P, u, ua, ub)).2.2.2.2)) ++ (wT g cA pm jm lm du pr ja rt) ++ (wT k cA pm2 jm2 lm2 du2 pr2 ja2 rt2) ++ (wY f cA pr ja rs os) ++ (wD f cA n tx T C K ((ySw (xs (i + 1)) (xs (i + 2)) (L, P, u, ua, ub)).2.1) ((ySw (xs (i + 1)) (xs (i + 2)) (L, P, u, ua, ub)).1) ((ySw (xs (i + 1)) (xs (i + 2)) (L, P, u, ua, ub)).2.2.1) ((ySw (xs (i + 1)) (xs (i + 2)) (L, P, u, ua, ub)).2.2.2.1) ((ySw (xs (i + 1)) (xs (i + 2)) (L, P, u, ua, ub)).2.2.2.2) pm jm lm du lt hh)) H locs := hV
  have hV : qV D A s.heap ((wC h (g 0) (k 0) cA n tx T C K ((ySw (xs (i + 1)) (xs (i + 2)) (L, P, u, ua, ub)).1) ((ySw (xs (i + 1)) (xs (i + 2)) (L, P, u, ua, ub)).2.1) ((ySw (xs (i + 1)) (xs (i + 2)) (L, P, u, ua, ub)).2.2.1) ((ySw (xs (i + 1)) (xs (i + 2)) (L, P, u, ua, ub)).2.2.2.1) ((ySw (xs (i + 1)) (xs (i + 2)) (L, P, u, ua, ub)).2.2.2.2)) ++ (wT g cA pm jm lm du pr ja rt) ++ (wT k cA pm2 jm2 lm2 du2 pr2 ja2 rt2) ++ (wD f cA n tx T C K ((ySw (xs (i + 1)) (xs (i + 2)) (L, P, u, ua, ub)).2.1) ((ySw (xs (i + 1)) (xs (i + 2)) (L, P, u, ua, ub)).1) ((ySw (xs (i + 1)) (xs (i + 2)) (L, P, u, ua, ub)).2.2.1) ((ySw (xs (i + 1)) (xs (i + 2)) (L, P, u, ua, ub)).2.2.2.1) ((ySw (xs (i + 1)) (xs (i + 2)) (L, P, u, ua, ub)).2.2.2.2) pm jm lm du lt hh) ++ (wY f cA pr ja rs os)) H locs := hV.sub [0, 1, 2, 3, 4, 5, 6, 7, 8, 9, 10, 11, 12, 13, 18, 19, 20, 21, 22, 23, 14, 15, 16, 17] rfl rfl
  refine z_icmp_eq (tgt := 651) hx hb dL_law_377 (by decide) (fun _ => ?_) (fun c1 => absurd rfl c1)
  exact ih _ _ _ _ _ _ _ _ _ _ _ _ _ _ _ _ _ _ _ _ _ _ _ _ _ _ _ _ (hI.lay (hI.yi.sw (xs (i + 1)) (xs (i + 2)))) _ _ _ hV hl
set_option maxHeartbeats 4000000 in
set_option maxRecDepth 100000 in
theorem lc_10 {p : Program} {e : Env} {s : State} {m : MethodId} {below : List Frame} {meth : Method} {c : Code} (l : Launch) {b Ln : Nat} {xs : Nat → Int32} (hL : Ln ≤ 1536) (C0 : lw_At p s m meth c b Ln xs) (D : va_G) (cA : ClassId) (A : Nat → Prop) (hA : ∀ q, s.heap.size ≤ q → A q) (hbA : ¬ A b) (hK : va_K D vwCl [(cA, .int)] s) (hN : nW s) (h g k f : Nat → Nat) (i : Nat) (hi : i + 3 ≤ Ln) (ih : LK p l e s m below meth c b D cA A h g k f i) (n : Nat) (tx : Nat → Nat) (T : Nat) (C : Nat) (K : Nat) (L : Nat → Nat) (P : Nat → Nat) (u : Nat) (ua : Nat → Nat) (ub : Nat → Nat) (pm : Nat) (jm : Nat) (lm : Nat) (du : Nat) (pr : Nat → Nat) (ja : Nat → Nat) (rt : Nat → Nat) (pm2 : Nat) (jm2 : Nat) (lm2 : Nat) (du2 : Nat) (pr2 : Nat → Nat) (ja2 : Nat → Nat) (rt2 : Nat → Nat) (lt : Nat) (hh : Int64) (rs : Nat → Nat) (os : Nat → Nat) (hI : sInv n tx T C K (L, P, u, ua, ub) (pm, jm, lm, du, pr, ja)) (H : Heap) (locs : List Loc) (ls : Array Slot) (hV : qV D A s.heap ((wC h (g 0) (k 0) cA n tx T C K L P u ua ub) ++ (wT g cA pm jm lm du pr ja rt) ++ (wT k cA pm2 jm2 lm2 du2 pr2 ja2 rt2) ++ (wD f cA n tx T C K P L u ua ub pm jm lm du lt hh) ++ (wY f cA pr ja rs os)) H locs) (hl : lv_has ls 4 [(0, .ref b), (1, .ref (h 0)), (2, .ref (f 0)), (3, .int (nI i))]) : W p l e room_1 s m #[Value.ref b] below meth c H locs 24 792 (lw_Z below #[Value.ref b] s) (F0 m 382 ls []) := by
  obtain ⟨hx, hb, hr, hml, hown, hts, hX, hbl, hlocks, hgv⟩ := id C0
  have hts : ∀ w ∈ wsL_law, w.before #[Value.ref b] s = true := fun w h => hts w (wsL_law_in w h)
  have hown : s.vm.findClass RL = some m.cls := hown
  obtain ⟨hn, htx, hT, hC, hK5, ⟨hp, hu, hua, hub⟩, h_pm, h_jm⟩ := id hI
  refine lv_aload_n hx hb dL_law_382 rfl (lv_at hl 1 rfl) ?_
  have hV : qV D A s.heap ((wT g cA pm jm lm du pr ja rt) ++ (wT k cA pm2 jm2 lm2 du2 pr2 ja2 rt2) ++ (wD f cA n tx T C K P L u ua ub pm jm lm du lt hh) ++ (wY f cA pr ja rs os) ++ (wC h (g 0) (k 0) cA n tx T C K L P u ua ub)) H locs := hV.sub [6, 7, 8, 9, 10, 11, 12, 13, 14, 15, 16, 17, 18, 19, 20, 21, 22, 23, 0, 1, 2, 3, 4, 5] rfl rfl
  refine k_V_i (w0 := (wT g cA pm jm lm du pr ja rt) ++ (wT k cA pm2 jm2 lm2 du2 pr2 ja2 rt2) ++ (wD f cA n tx T C K P L u ua ub pm jm lm du lt hh) ++ (wY f cA pr ja rs os)) (wc := wC h (g 0) (k 0) cA n tx T C K L P u ua ub) (b := h 0) (As := []) (rest := []) hx hb hml hown hts hK hA hN hV hl.1 (c_X1_undo l D h (g 0) (k 0) cA n tx T C K L P u ua ub  (by first | omega | assumption) (by first | omega | assumption) (by first | omega | assumption) (by first | omega | assumption) (by first | omega | assumption) (by first | omega | assumption) (by first | omega | assumption)) gL_law_X1_undo rfl rfl rfl hdX1_undo ⟨Nat.le_of_ble_eq_true rfl, Nat.le_of_ble_eq_true rfl⟩ 18 1 rfl rfl rfl rfl rfl (Nat.le_of_ble_eq_true rfl) dL_law_383 ⟨Nat.le_of_ble_eq_true rfl, Nat.le_of_ble_eq_true rfl⟩ (fun r W1 H locs hp hV => ?_)
  obtain ⟨hp1, hp2⟩ := hp
  replace hp1 := hp1.symm
  subst hp1
  replace hp2 := hp2.symm
  subst hp2
  have hV : qV D A s.heap ((wT g cA pm jm lm du pr ja rt) ++ (wT k cA pm2 jm2 lm2 du2 pr2 ja2 rt2) ++ (wD f cA n tx T C K P L u ua ub pm jm lm du lt hh) ++ (wY f cA pr ja rs os) ++ (wC h (g 0) (k 0) cA n tx T C K ((yUn (L, P, u, ua, ub)).1) ((yUn (L, P, u, ua, ub)).2.1) ((yUn (L, P, u, ua, ub)).2.2.1) ((yUn (L, P, u, ua, ub)).2.2.2.1) ((yUn (L, P, u, ua, ub)).2.2.2.2))) H locs := hV
  have hV : qV D A s.heap ((wC h (g 0) (k 0) cA n tx T C K ((yUn (L, P, u, ua, ub)).1) ((yUn (L, P, u, ua, ub)).2.1) ((yUn (L, P, u, ua, ub)).2.2.1) ((yUn (L, P, u, ua, ub)).2.2.2.1) ((yUn (L, P, u, ua, ub)).2.2.2.2)) ++ (wT g cA pm jm lm du pr ja rt) ++ (wT k cA pm2 jm2 lm2 du2 pr2 ja2 rt2) ++ (wD f cA n tx T C K P L u ua ub pm jm lm du lt hh) ++ (wY f cA pr ja rs os)) H locs := hV.sub [18, 19, 20, 21, 22, 23, 0, 1, 2, 3, 4, 5, 6, 7, 8, 9, 10, 11, 12, 13, 14, 15, 16, 17] rfl rfl
  refine lv_aload_n hx hb dL_law_386 rfl (lv_at hl 2 rfl) ?_
  have hV : qV D A s.heap ((wC h (g 0) (k 0) cA n tx T C K ((yUn (L, P, u, ua, ub)).1) ((yUn (L, P, u, ua, ub)).2.1) ((yUn (L, P, u, ua, ub)).2.2.1) ((yUn (L, P, u, ua, ub)).2.2.2.1) ((yUn (L, P, u, ua, ub)).2.2.2.2)) ++ (wT g cA pm jm lm du pr ja rt) ++ (wT k cA pm2 jm2 lm2 du2 pr2 ja2 rt2) ++ (wY f cA pr ja rs os) ++ (wD f cA n tx T C K P L u ua ub pm jm lm du lt hh)) H locs := hV.sub [0, 1, 2, 3, 4, 5, 6, 7, 8, 9, 10, 11, 12, 13, 20, 21, 22, 23, 14, 15, 16, 17, 18, 19] rfl rfl
  refine k_V_i (w0 := (wC h (g 0) (k 0) cA n tx T C K ((yUn (L, P, u, ua, ub)).1) ((yUn (L, P, u, ua, ub)).2.1) ((yUn (L, P, u, ua, ub)).2.2.1) ((yUn (L, P, u, ua, ub)).2.2.2.1) ((yUn (L, P, u, ua, ub)).2.2.2.2)) ++ (wT g cA pm jm lm du pr ja rt) ++ (wT k cA pm2 jm2 lm2 du2 pr2 ja2 rt2) ++ (wY f cA pr ja rs os)) (wc := wD f cA n tx T C K P L u ua ub pm jm lm du lt hh) (b := f 0) (As := []) (rest := [.int (aUn C tx n (L, P, u, ua, ub))]) hx hb hml hown hts hK hA hN hV hl.1 (c_X2_undo l D f cA n tx T C K P L u ua ub pm jm lm du lt hh  (by first | omega | assumption) (by first | omega | assumption) (by first | omega | assumption) (by first | omega | assumption) (by first | omega | assumption) (by first | omega | assumption) (by first | omega | assumption)) gL_law_X2_undo rfl rfl rfl hdX2_undo ⟨Nat.le_of_ble_eq_true rfl, Nat.le_of_ble_eq_true rfl⟩ 18 2 rfl rfl rfl rfl rfl (Nat.le_of_ble_eq_true rfl) dL_law_387 ⟨Nat.le_of_ble_eq_true rfl, Nat.le_of_ble_eq_true rfl⟩ (fun r W1 H locs hp hV => ?_)
  obtain ⟨hp1, hp2⟩ := hp
  replace hp1 := hp1.symm
  subst hp1
  replace hp2 := hp2.symm
  subst hp2
  have hV : qV D A s.heap ((wC h (g 0) (k 0) cA n tx T C K ((yUn (L, P, u, ua, ub)).1) ((yUn (L, P, u, ua, ub)).2.1) ((yUn (L, P, u, ua, ub)).2.2.1) ((yUn (L, P, u, ua, ub)).2.2.2.1) ((yUn (L, P, u, ua, ub)).2.2.2.2)) ++ (wT g cA pm jm lm du pr ja rt) ++ (wT k cA pm2 jm2 lm2 du2 pr2 ja2 rt2) ++ (wY f cA pr ja rs os) ++ (wD f cA n tx T C K ((yUn (L, P, u, ua, ub)).2.1) ((yUn (L, P, u, ua, ub)).1) ((yUn (L, P, u, ua, ub)).2.2.1) ((yUn (L, P, u, ua, ub)).2.2.2.1) ((yUn (L, P, u, ua, ub)).2.2.2.2) pm jm lm du lt hh)) H locs := hV
  have hV : qV D A s.heap ((wC h (g 0) (k 0) cA n tx T C K ((yUn (L, P, u, ua, ub)).1) ((yUn (L, P, u, ua, ub)).2.1) ((yUn (L, P, u, ua, ub)).2.2.1) ((yUn (L, P, u, ua, ub)).2.2.2.1) ((yUn (L, P, u, ua, ub)).2.2.2.2)) ++ (wT g cA pm jm lm du pr ja rt) ++ (wT k cA pm2 jm2 lm2 du2 pr2 ja2 rt2) ++ (wD f cA n tx T C K ((yUn (L, P, u, ua, ub)).2.1) ((yUn (L, P, u, ua, ub)).1) ((yUn (L, P, u, ua, ub)).2.2.1) ((yUn (L, P, u, ua, ub)).2.2.2.1) ((yUn (L, P, u, ua, ub)).2.2.2.2) pm jm lm du lt hh) ++ (wY f cA pr ja rs os)) H locs := hV.sub [0, 1, 2, 3, 4, 5, 6, 7, 8, 9, 10, 11, 12, 13, 18, 19, 20, 21, 22, 23, 14, 15, 16, 17] rfl rfl
  refine z_icmp_eq (tgt := 651) hx hb dL_law_390 (by decide) (fun _ => ?_) (fun c1 => absurd rfl c1)
  exact ih _ _ _ _ _ _ _ _ _ _ _ _ _ _ _ _ _ _ _ _ _ _ _ _ _ _ _ _ (hI.lay hI.yi.un) _ _ _ hV hl
set_option maxHeartbeats 4000000 in
set_option maxRecDepth 100000 in
theorem lc_11 {p : Program} {e : Env} {s : State} {m : MethodId} {below : List Frame} {meth : Method} {c : Code} (l : Launch) {b Ln : Nat} {xs : Nat → Int32} (hL : Ln ≤ 1536) (C0 : lw_At p s m meth c b Ln xs) (D : va_G) (cA : ClassId) (A : Nat → Prop) (hA : ∀ q, s.heap.size ≤ q → A q) (hbA : ¬ A b) (hK : va_K D vwCl [(cA, .int)] s) (hN : nW s) (h g k f : Nat → Nat) (i : Nat) (hi : i + 3 ≤ Ln) (ih : LK p l e s m below meth c b D cA A h g k f i) (n : Nat) (tx : Nat → Nat) (T : Nat) (C : Nat) (K : Nat) (L : Nat → Nat) (P : Nat → Nat) (u : Nat) (ua : Nat → Nat) (ub : Nat → Nat) (pm : Nat) (jm : Nat) (lm : Nat) (du : Nat) (pr : Nat → Nat) (ja : Nat → Nat) (rt : Nat → Nat) (pm2 : Nat) (jm2 : Nat) (lm2 : Nat) (du2 : Nat) (pr2 : Nat → Nat) (ja2 : Nat → Nat) (rt2 : Nat → Nat) (lt : Nat) (hh : Int64) (rs : Nat → Nat) (os : Nat → Nat) (hI : sInv n tx T C K (L, P, u, ua, ub) (pm, jm, lm, du, pr, ja)) (H : Heap) (locs : List Loc) (ls : Array Slot) (hV : qV D A s.heap ((wC h (g 0) (k 0) cA n tx T C K L P u ua ub) ++ (wT g cA pm jm lm du pr ja rt) ++ (wT k cA pm2 jm2 lm2 du2 pr2 ja2 rt2) ++ (wD f cA n tx T C K P L u ua ub pm jm lm du lt hh) ++ (wY f cA pr ja rs os)) H locs) (hl : lv_has ls 4 [(0, .ref b), (1, .ref (h 0)), (2, .ref (f 0)), (3, .int (nI i))]) : W p l e room_1 s m #[Value.ref b] below meth c H locs 24 792 (lw_Z below #[Value.ref b] s) (F0 m 395 ls []) := by
  obtain ⟨hx, hb, hr, hml, hown, hts, hX, hbl, hlocks, hgv⟩ := id C0
  have hts : ∀ w ∈ wsL_law, w.before #[Value.ref b] s = true := fun w h => hts w (wsL_law_in w h)
  have hown : s.vm.findClass RL = some m.cls := hown
  obtain ⟨hn, htx, hT, hC, hK5, ⟨hp, hu, hua, hub⟩, h_pm, h_jm⟩ := id hI
  refine lv_aload_n hx hb dL_law_395 rfl (lv_at hl 1 rfl) ?_
  have hV : qV D A s.heap ((wT g cA pm jm lm du pr ja rt) ++ (wT k cA pm2 jm2 lm2 du2 pr2 ja2 rt2) ++ (wD f cA n tx T C K P L u ua ub pm jm lm du lt hh) ++ (wY f cA pr ja rs os) ++ (wC h (g 0) (k 0) cA n tx T C K L P u ua ub)) H locs := hV.sub [6, 7, 8, 9, 10, 11, 12, 13, 14, 15, 16, 17, 18, 19, 20, 21, 22, 23, 0, 1, 2, 3, 4, 5] rfl rfl
  refine k_V_i (w0 := (wT g cA pm jm lm du pr ja rt) ++ (wT k cA pm2 jm2 lm2 du2 pr2 ja2 rt2) ++ (wD f cA n tx T C K P L u ua ub pm jm lm du lt hh) ++ (wY f cA pr ja rs os)) (wc := wC h (g 0) (k 0) cA n tx T C K L P u ua ub) (b := h 0) (As := []) (rest := []) hx hb hml hown hts hK hA hN hV hl.1 (c_X1_undoCount l D h (g 0) (k 0) cA n tx T C K L P u ua ub  ) gL_law_X1_undoCount rfl rfl rfl hdX1_undoCount ⟨Nat.le_of_ble_eq_true rfl, Nat.le_of_ble_eq_true rfl⟩ 18 1 rfl rfl rfl rfl rfl (Nat.le_of_ble_eq_true rfl) dL_law_396 ⟨Nat.le_of_ble_eq_true rfl, Nat.le_of_ble_eq_true rfl⟩ (fun r W1 H locs hp hV => ?_)
  obtain ⟨hp1, hp2⟩ := hp
  replace hp1 := hp1.symm
  subst hp1
  replace hp2 := hp2.symm
  subst hp2
  have hV : qV D A s.heap ((wT g cA pm jm lm du pr ja rt) ++ (wT k cA pm2 jm2 lm2 du2 pr2 ja2 rt2) ++ (wD f cA n tx T C K P L u ua ub pm jm lm du lt hh) ++ (wY f cA pr ja rs os) ++ (wC h (g 0) (k 0) cA n tx T C K L P u ua ub)) H locs := hV
  have hV : qV D A s.heap ((wC h (g 0) (k 0) cA n tx T C K L P u ua ub) ++ (wT g cA pm jm lm du pr ja rt) ++ (wT k cA pm2 jm2 lm2 du2 pr2 ja2 rt2) ++ (wD f cA n tx T C K P L u ua ub pm jm lm du lt hh) ++ (wY f cA pr ja rs os)) H locs := hV.sub [18, 19, 20, 21, 22, 23, 0, 1, 2, 3, 4, 5, 6, 7, 8, 9, 10, 11, 12, 13, 14, 15, 16, 17] rfl rfl
  refine lv_aload_n hx hb dL_law_399 rfl (lv_at hl 2 rfl) ?_
  have hV : qV D A s.heap ((wC h (g 0) (k 0) cA n tx T C K L P u ua ub) ++ (wT g cA pm jm lm du pr ja rt) ++ (wT k cA pm2 jm2 lm2 du2 pr2 ja2 rt2) ++ (wY f cA pr ja rs os) ++ (wD f cA n tx T C K P L u ua ub pm jm lm du lt hh)) H locs := hV.sub [0, 1, 2, 3, 4, 5, 6, 7, 8, 9, 10, 11, 12, 13, 20, 21, 22, 23, 14, 15, 16, 17, 18, 19] rfl rfl
  refine k_V_i (w0 := (wC h (g 0) (k 0) cA n tx T C K L P u ua ub) ++ (wT g cA pm jm lm du pr ja rt) ++ (wT k cA pm2 jm2 lm2 du2 pr2 ja2 rt2) ++ (wY f cA pr ja rs os)) (wc := wD f cA n tx T C K P L u ua ub pm jm lm du lt hh) (b := f 0) (As := []) (rest := [.int (nI u)]) hx hb hml hown hts hK hA hN hV hl.1 (c_X2_undoCount l D f cA n tx T C K P L u ua ub pm jm lm du lt hh  ) gL_law_X2_undoCount rfl rfl rfl hdX2_undoCount ⟨Nat.le_of_ble_eq_true rfl, Nat.le_of_ble_eq_true rfl⟩ 18 2 rfl rfl rfl rfl rfl (Nat.le_of_ble_eq_true rfl) dL_law_400 ⟨Nat.le_of_ble_eq_true rfl, Nat.le_of_ble_eq_true rfl⟩ (fun r W1 H locs hp hV => ?_)
  obtain ⟨hp1, hp2⟩ := hp
  replace hp1 := hp1.symm
  subst hp1
  replace hp2 := hp2.symm
  subst hp2
  have hV : qV D A s.heap ((wC h (g 0) (k 0) cA n tx T C K L P u ua ub) ++ (wT g cA pm jm lm du pr ja rt) ++ (wT k cA pm2 jm2 lm2 du2 pr2 ja2 rt2) ++ (wY f cA pr ja rs os) ++ (wD f cA n tx T C K P L u ua ub pm jm lm du lt hh)) H locs := hV
  have hV : qV D A s.heap ((wC h (g 0) (k 0) cA n tx T C K L P u ua ub) ++ (wT g cA pm jm lm du pr ja rt) ++ (wT k cA pm2 jm2 lm2 du2 pr2 ja2 rt2) ++ (wD f cA n tx T C K P L u ua ub pm jm lm du lt hh) ++ (wY f cA pr ja rs os)) H locs := hV.sub [0, 1, 2, 3, 4, 5, 6, 7, 8, 9, 10, 11, 12, 13, 18, 19, 20, 21, 22, 23, 14, 15, 16, 17] rfl rfl
  refine z_icmp_eq (tgt := 651) hx hb dL_law_403 (by decide) (fun _ => ?_) (fun c1 => absurd rfl c1)
  exact ih _ _ _ _ _ _ _ _ _ _ _ _ _ _ _ _ _ _ _ _ _ _ _ _ _ _ _ _ (hI) _ _ _ hV hl
set_option maxHeartbeats 4000000 in
set_option maxRecDepth 100000 in
theorem lc_12 {p : Program} {e : Env} {s : State} {m : MethodId} {below : List Frame} {meth : Method} {c : Code} (l : Launch) {b Ln : Nat} {xs : Nat → Int32} (hL : Ln ≤ 1536) (C0 : lw_At p s m meth c b Ln xs) (D : va_G) (cA : ClassId) (A : Nat → Prop) (hA : ∀ q, s.heap.size ≤ q → A q) (hbA : ¬ A b) (hK : va_K D vwCl [(cA, .int)] s) (hN : nW s) (h g k f : Nat → Nat) (i : Nat) (hi : i + 3 ≤ Ln) (ih : LK p l e s m below meth c b D cA A h g k f i) (n : Nat) (tx : Nat → Nat) (T : Nat) (C : Nat) (K : Nat) (L : Nat → Nat) (P : Nat → Nat) (u : Nat) (ua : Nat → Nat) (ub : Nat → Nat) (pm : Nat) (jm : Nat) (lm : Nat) (du : Nat) (pr : Nat → Nat) (ja : Nat → Nat) (rt : Nat → Nat) (pm2 : Nat) (jm2 : Nat) (lm2 : Nat) (du2 : Nat) (pr2 : Nat → Nat) (ja2 : Nat → Nat) (rt2 : Nat → Nat) (lt : Nat) (hh : Int64) (rs : Nat → Nat) (os : Nat → Nat) (hI : sInv n tx T C K (L, P, u, ua, ub) (pm, jm, lm, du, pr, ja)) (H : Heap) (locs : List Loc) (ls : Array Slot) (hV : qV D A s.heap ((wC h (g 0) (k 0) cA n tx T C K L P u ua ub) ++ (wT g cA pm jm lm du pr ja rt) ++ (wT k cA pm2 jm2 lm2 du2 pr2 ja2 rt2) ++ (wD f cA n tx T C K P L u ua ub pm jm lm du lt hh) ++ (wY f cA pr ja rs os)) H locs) (hl : lv_has ls 4 [(0, .ref b), (1, .ref (h 0)), (2, .ref (f 0)), (3, .int (nI i))]) : W p l e room_1 s m #[Value.ref b] below meth c H locs 24 792 (lw_Z below #[Value.ref b] s) (F0 m 408 ls []) := by
  obtain ⟨hx, hb, hr, hml, hown, hts, hX, hbl, hlocks, hgv⟩ := id C0
  have hts : ∀ w ∈ wsL_law, w.before #[Value.ref b] s = true := fun w h => hts w (wsL_law_in w h)
  have hown : s.vm.findClass RL = some m.cls := hown
  obtain ⟨hn, htx, hT, hC, hK5, ⟨hp, hu, hua, hub⟩, h_pm, h_jm⟩ := id hI
  refine lv_aload_n hx hb dL_law_408 rfl (lv_at hl 1 rfl) ?_
  have hV : qV D A s.heap ((wT g cA pm jm lm du pr ja rt) ++ (wT k cA pm2 jm2 lm2 du2 pr2 ja2 rt2) ++ (wD f cA n tx T C K P L u ua ub pm jm lm du lt hh) ++ (wY f cA pr ja rs os) ++ (wC h (g 0) (k 0) cA n tx T C K L P u ua ub)) H locs := hV.sub [6, 7, 8, 9, 10, 11, 12, 13, 14, 15, 16, 17, 18, 19, 20, 21, 22, 23, 0, 1, 2, 3, 4, 5] rfl rfl
  refine k_V_i (w0 := (wT g cA pm jm lm du pr ja rt) ++ (wT k cA pm2 jm2 lm2 du2 pr2 ja2 rt2) ++ (wD f cA n tx T C K P L u ua ub pm jm lm du lt hh) ++ (wY f cA pr ja rs os)) (wc := wC h (g 0) (k 0) cA n tx T C K L P u ua ub) (b := h 0) (As := []) (rest := []) hx hb hml hown hts hK hA hN hV hl.1 (c_X1_mirror l D h (g 0) (k 0) cA n tx T C K L P u ua ub  (by first | omega | assumption) (by first | omega | assumption) (by first | omega | assumption) (by first | omega | assumption)) gL_law_X1_mirror rfl rfl rfl hdX1_mirror ⟨Nat.le_of_ble_eq_true rfl, Nat.le_of_ble_eq_true rfl⟩ 18 1 rfl rfl rfl rfl rfl (Nat.le_of_ble_eq_true rfl) dL_law_409 ⟨Nat.le_of_ble_eq_true rfl, Nat.le_of_ble_eq_true rfl⟩ (fun r W1 H locs hp hV => ?_)
  obtain ⟨hp1, hp2⟩ := hp
  replace hp1 := hp1.symm
  subst hp1
  replace hp2 := hp2.symm
  subst hp2
  have hV : qV D A s.heap ((wT g cA pm jm lm du pr ja rt) ++ (wT k cA pm2 jm2 lm2 du2 pr2 ja2 rt2) ++ (wD f cA n tx T C K P L u ua ub pm jm lm du lt hh) ++ (wY f cA pr ja rs os) ++ (wC h (g 0) (k 0) cA n tx T C K ((mir L P 6).1) ((mir L P 6).2) 0 ua ub)) H locs := hV
  have hV : qV D A s.heap ((wC h (g 0) (k 0) cA n tx T C K ((mir L P 6).1) ((mir L P 6).2) 0 ua ub) ++ (wT g cA pm jm lm du pr ja rt) ++ (wT k cA pm2 jm2 lm2 du2 pr2 ja2 rt2) ++ (wD f cA n tx T C K P L u ua ub pm jm lm du lt hh) ++ (wY f cA pr ja rs os)) H locs := hV.sub [18, 19, 20, 21, 22, 23, 0, 1, 2, 3, 4, 5, 6, 7, 8, 9, 10, 11, 12, 13, 14, 15, 16, 17] rfl rfl
  refine lv_aload_n hx hb dL_law_412 rfl (lv_at hl 2 rfl) ?_
  have hV : qV D A s.heap ((wC h (g 0) (k 0) cA n tx T C K ((mir L P 6).1) ((mir L P 6).2) 0 ua ub) ++ (wT g cA pm jm lm du pr ja rt) ++ (wT k cA pm2 jm2 lm2 du2 pr2 ja2 rt2) ++ (wY f cA pr ja rs os) ++ (wD f cA n tx T C K P L u ua ub pm jm lm du lt hh)) H locs := hV.sub [0, 1, 2, 3, 4, 5, 6, 7, 8, 9, 10, 11, 12, 13, 20, 21, 22, 23, 14, 15, 16, 17, 18, 19] rfl rfl
  refine k_V_i (w0 := (wC h (g 0) (k 0) cA n tx T C K ((mir L P 6).1) ((mir L P 6).2) 0 ua ub) ++ (wT g cA pm jm lm du pr ja rt) ++ (wT k cA pm2 jm2 lm2 du2 pr2 ja2 rt2) ++ (wY f cA pr ja rs os)) (wc := wD f cA n tx T C K P L u ua ub pm jm lm du lt hh) (b := f 0) (As := []) (rest := [.int (nI (cst C (mir L P 6).2 tx (n - 1)))]) hx hb hml hown hts hK hA hN hV hl.1 (c_X2_mirror l D f cA n tx T C K P L u ua ub pm jm lm du lt hh  (by first | omega | assumption) (by first | omega | assumption) (by first | omega | assumption) (by first | omega | assumption)) gL_law_X2_mirror rfl rfl rfl hdX2_mirror ⟨Nat.le_of_ble_eq_true rfl, Nat.le_of_ble_eq_true rfl⟩ 18 2 rfl rfl rfl rfl rfl (Nat.le_of_ble_eq_true rfl) dL_law_413 ⟨Nat.le_of_ble_eq_true rfl, Nat.le_of_ble_eq_true rfl⟩ (fun r W1 H locs hp hV => ?_)
  obtain ⟨hp1, hp2⟩ := hp
  replace hp1 := hp1.symm
  subst hp1
  replace hp2 := hp2.symm
  subst hp2
  have hV : qV D A s.heap ((wC h (g 0) (k 0) cA n tx T C K ((mir L P 6).1) ((mir L P 6).2) 0 ua ub) ++ (wT g cA pm jm lm du pr ja rt) ++ (wT k cA pm2 jm2 lm2 du2 pr2 ja2 rt2) ++ (wY f cA pr ja rs os) ++ (wD f cA n tx T C K ((mir L P 6).2) ((mir L P 6).1) 0 ua ub pm jm lm du lt hh)) H locs := hV
  have hV : qV D A s.heap ((wC h (g 0) (k 0) cA n tx T C K ((mir L P 6).1) ((mir L P 6).2) 0 ua ub) ++ (wT g cA pm jm lm du pr ja rt) ++ (wT k cA pm2 jm2 lm2 du2 pr2 ja2 rt2) ++ (wD f cA n tx T C K ((mir L P 6).2) ((mir L P 6).1) 0 ua ub pm jm lm du lt hh) ++ (wY f cA pr ja rs os)) H locs := hV.sub [0, 1, 2, 3, 4, 5, 6, 7, 8, 9, 10, 11, 12, 13, 18, 19, 20, 21, 22, 23, 14, 15, 16, 17] rfl rfl
  refine z_icmp_eq (tgt := 651) hx hb dL_law_416 (by decide) (fun _ => ?_) (fun c1 => absurd rfl c1)
  exact ih _ _ _ _ _ _ _ _ _ _ _ _ _ _ _ _ _ _ _ _ _ _ _ _ _ _ _ _ (hI.mirror) _ _ _ hV hl
