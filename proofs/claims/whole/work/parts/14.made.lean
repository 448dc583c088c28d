/-! constructors: a contract that makes cells -/
def CTc (l : Launch) (D : va_G) (cA : ClassId) (y : MethodName) (wsy : List Cond) (rm : Room) (av : List Value) (ws : va_W) (mc ms : Nat) (post : va_W → Prop) : Prop := ∀ sz : Nat, Met l y wsy rm (va_Pc av (cPre D cA sz ws)) (va_Qv post (cPost D (va_A ws sz)) (va_A ws sz)) mc ms (va_A ws sz)
theorem CTc.mk {l : Launch} {D : va_G} {cA : ClassId} {y : MethodName} {wsy ws' : List Cond} {rm : Room} {av : List Value} {ws : va_W} {mc ms : Nat} {post : va_W → Prop} {cc : ByteArray} {maxL : Nat} {ret : Option FieldType}
    (hy : plainName y.cls = true) (hw : wsy = Cond.code y cc maxL ret :: ws') (hlen : (lg_sl av).length ≤ maxL) (hnm : y.name = "<init>")
    (body : ∀ (p : Program) (e : Env) (s : State) (m : MethodId) (below : List Frame) (meth : Method) (c : Code) (A : Nat → Prop) (ls : Array Slot), qE p s m meth c cc maxL ret y.cls wsy av.toArray D cA A → meth.name = "<init>" → qV D A s.heap ws s.heap [] → lv_has ls maxL (lv_args 0 av) →
      W p l e rm s m av.toArray below meth c s.heap [] 0 0 (MQ below (va_Qv post (cPost D A) A) av.toArray s mc ms A) (F0 m 0 ls [])) : CTc l D cA y wsy rm av ws mc ms post := by
  intro sz
  refine Met.ofW (cc := cc) (maxL := maxL) (ret := ret) hy hw ?_
  intro p e s m args below meth c s₁ B hml hv
  obtain ⟨rfl, hsz, hP, hK, hD0, hN⟩ := hv
  subst hsz
  have hl := lv_entry av (n := maxL) hlen
  rw [lg_entry_eq]
  exact body p e s m below meth c (va_A ws s.heap.size) _ ⟨B.exec, B.bytes, hml, B.returns, findClass_of_methodNamed B.named, atoms_spec (ws := wsy) B.pre, B.notSynchronized, hK, fun q h => Or.inr h, hN⟩ ((name_of_methodNamed B.named B.method).1.trans hnm) ⟨hP, hD0.self, va_S.rf⟩ hl
section QN
variable {p : Program} {l : Launch} {e : Env} {R : Room} {s : State} {m : MethodId} {args : Array Value} {below : List Frame} {meth : Method} {c : Code} {H : Heap} {locs : List Loc} {cells slots : Nat} {Q : State → Prop} {cc : ByteArray} {pc nL : Nat} {ls : Array Slot} {rest : List Value} {D : va_G} {cA : ClassId} {A : Nat → Prop} {b : Nat} {own : String} {index maxL n : Nat} {y : MethodName} {bytes : ByteArray} {Ts wsy ws' : List Cond} {rm : Room} {w0 wc ws : va_W} {As : List Value} {st : List Value} {mc ms : Nat}
theorem q_newa {H0 : Heap} {N : Nat} (hx : p.tables.exec = Jvm.exec) (hb : c.code = cc) (harr : (Cond.arrayClass .int).before args s = true) (hK : va_K D vwCl [(cA, .int)] s) (hV : qV D A H0 ws H locs) (hA : ∀ q, H0.size ≤ q → A q) (hN : N ≤ 60) (hcells : cells + 1 ≤ R.cells) (hslots : slots + N ≤ R.slots) (hdg : decode cc pc = .ok (.newarray .int, 2))
    (kk : ∀ (q : Nat) (H1 : Heap), qV D A H0 (ws ++ [(q, aE cA N (fun _ => 0))]) H1 locs → W p l e R s m args below meth c H1 locs (cells + 1) (slots + N) Q (F0 m (pc + 2) ls (.ref q :: rest))) : W p l e R s m args below meth c H locs cells slots Q (F0 m pc ls (.int (nI N) :: rest)) := by
  refine va_newa (atype := .int) (ty := .int) (N' := N) (a0 := (N, .inl (nF (fun _ => 0)))) hx hb harr rfl hK hV.1 hV.2.1 hV.2.2 hA (fun _ => rfl) (nI_pos (by omega)) (nI_clamp (by omega)) (by show N * 4 ≤ _; omega) hcells hslots hdg (fun q cA' H1 hK' hP hD hS => ?_)
  have e1 := (hK.2 0 _ rfl).2
  have e2 := (hK'.2 1 _ rfl).2
  have e3 : cA' = cA := Option.some.inj (e2.symm.trans e1)
  subst e3
  exact kk q H1 ⟨hP, hD, hS⟩
theorem k_NI {host : String} {post : va_W → Prop} (hx : p.tables.exec = Jvm.exec) (hb : c.code = cc) (hml : c.maxLocals = nL) (hown : s.vm.findClass own = some m.cls) (hts : ∀ w ∈ Ts, w.before args s = true) (hK : va_K D vwCl [(cA, .int)] s) (hA : ∀ q, s.heap.size ≤ q → A q) (hN : nW s) (hV : qV D A s.heap (w0 ++ wc) H locs) (hls : ls.size = nL)
    (hM : CTc l D cA y wsy rm (.ref b :: As) wc mc ms post) (hT : GoodIn Ts wsy) (hw : wsy = Cond.code y bytes maxL none :: ws') (hrc : rm.cells = mc) (hrs : rm.slots = ms) (hlink : Cond.methodLinkNest own index y host ∈ nwL) (hini : Cond.initialized y.cls ∈ Ts) (hins : Cond.instanceMethod y ∈ Ts) (hnm : y.name = "<init>")
    (hd : y.cls ≠ "java/lang/invoke/MethodHandle" ∧ y.cls ≠ "java/lang/invoke/VarHandle" ∧ (parseMethodDescriptor y.desc).map (fun d => d.parameters.length) = some n) (hR : rm.frames + 1 ≤ R.frames ∧ 8 + (maxL + 11) + rm.locals ≤ R.locals)
    (hn : As.length = n) (hst : st = As.reverse ++ .ref b :: rest) (hroom : (rest.map fun v => v.category).sum ≤ 8) (hdg : decode cc pc = .ok (.invokespecial index, 3)) (hcs : cells + mc ≤ R.cells ∧ slots + ms ≤ R.slots)
    (kk : ∀ (W1 : va_W) (H1 : Heap) (locs1 : List Loc), post W1 → qV D A s.heap (w0 ++ W1) H1 locs1 → W p l e R s m args below meth c H1 locs1 (cells + mc) (slots + ms) Q (F0 m (pc + 3) ls rest)) : W p l e R s m args below meth c H locs cells slots Q (F0 m pc ls st) := by
  subst hst
  refine va_callv (va_runIN (As := As) (rest := rest) ⟨hx, hb, hml, hown, hts⟩ (hM H.size) ⟨va_cnB n hts hT hw hrc hrs (hN _ hlink) (hts _ hini) hd hR, hnm, hts _ hins⟩ ⟨cPre_blind D cA H.size wc _, cPre_of hK hN hV⟩ rfl hn hls rfl (lv_room hroom) hdg hcs) hV.2.2 (fun q _ h => hV.free hA q h) (hV.free hA) (fun u t H1 locs1 ht hvm hp hB hz hk hS => ?_)
  rw [← ht] at hk hS ⊢
  exact kk u _ locs1 hp (hV.glue hA hk hB.1 hB.2 hS)
theorem k_I {post : va_W → Prop} (hx : p.tables.exec = Jvm.exec) (hb : c.code = cc) (hml : c.maxLocals = nL) (hown : s.vm.findClass own = some m.cls) (hts : ∀ w ∈ Ts, w.before args s = true) (hK : va_K D vwCl [(cA, .int)] s) (hA : ∀ q, s.heap.size ≤ q → A q) (hN : nW s) (hV : qV D A s.heap (w0 ++ wc) H locs) (hls : ls.size = nL)
    (hM : CTc l D cA y wsy rm (.ref b :: As) wc mc ms post) (hT : GoodIn Ts wsy) (hw : wsy = Cond.code y bytes maxL none :: ws') (hrc : rm.cells = mc) (hrs : rm.slots = ms) (hlink : Cond.methodLink own index y ∈ Ts) (hini : Cond.initialized y.cls ∈ Ts) (hins : Cond.instanceMethod y ∈ Ts) (hnm : y.name = "<init>")
    (hd : y.cls ≠ "java/lang/invoke/MethodHandle" ∧ y.cls ≠ "java/lang/invoke/VarHandle" ∧ (parseMethodDescriptor y.desc).map (fun d => d.parameters.length) = some n) (hR : rm.frames + 1 ≤ R.frames ∧ 8 + (maxL + 11) + rm.locals ≤ R.locals)
    (hn : As.length = n) (hst : st = As.reverse ++ .ref b :: rest) (hroom : (rest.map fun v => v.category).sum ≤ 8) (hdg : decode cc pc = .ok (.invokespecial index, 3)) (hcs : cells + mc ≤ R.cells ∧ slots + ms ≤ R.slots)
    (kk : ∀ (W1 : va_W) (H1 : Heap) (locs1 : List Loc), post W1 → qV D A s.heap (w0 ++ W1) H1 locs1 → W p l e R s m args below meth c H1 locs1 (cells + mc) (slots + ms) Q (F0 m (pc + 3) ls rest)) : W p l e R s m args below meth c H locs cells slots Q (F0 m pc ls st) := by
  subst hst
  refine va_callv (va_runI (As := As) (rest := rest) ⟨hx, hb, hml, hown, hts⟩ (hM H.size) (cwI n hts hT hw hrc hrs (hts _ hini) (hts _ hlink) (hts _ hins) hnm hd hR) ⟨cPre_blind D cA H.size wc _, cPre_of hK hN hV⟩ rfl hn hls rfl (lv_room hroom) hdg hcs) hV.2.2 (fun q _ h => hV.free hA q h) (hV.free hA) (fun u t H1 locs1 ht hvm hp hB hz hk hS => ?_)
  rw [← ht] at hk hS ⊢
  exact kk u _ locs1 hp (hV.glue hA hk hB.1 hB.2 hS)
end QN
def zf : Nat → Nat := fun _ => 0
def idF : Nat → (Nat → Nat) := osF (fun i => i) zf
theorem idF_at {j i : Nat} (h : i < j) : idF j i = i := osF_at _ _ _ _ h
abbrev rm_X0_init : Room := { frames := 1, cells := 3, slots := 132, locals := 12 }
set_option maxHeartbeats 4000000 in
set_option maxRecDepth 100000 in
theorem c_X0_init (l : Launch) (D : va_G) (cA : ClassId) (aa : Nat) : CTc l D cA yX0_init wsX0_init rm_X0_init [.ref aa] ([(aa, .inr (0, [.null, .int (nI 0), .null, .int (nI 0), .int (nI 0), .int (nI 0), .null]))]) 3 132 (fun W1 => ∃ g : Nat → Nat, g 0 = aa ∧ W1 = wT g cA 0 0 0 0 zf zf zf) := by
  refine CTc.mk (cc := cX0_init) (maxL := 1) (ret := none) (by decide) rfl (Nat.le_of_ble_eq_true rfl) rfl ?_
  intro p e s m below meth c A ls E hnm hV hl
  obtain ⟨hx, hb, hml, hr, hown, hts, hlocks, hK, hA, hN⟩ := E
  have hown : s.vm.findClass RX0 = some m.cls := hown
  have hin0 : ∀ w ∈ wsX00, w ∈ wsX0_init := fun _ h => List.mem_cons_of_mem _ (List.mem_append_right _ h)
  have hl : lv_has ls 1 [(0, .ref aa)] := hl
  refine lv_aload_n hx hb dX0_init_0 rfl (lv_at hl 0 rfl) ?_
  refine W.objInit hx hb hown (hts _ (List.mem_of_getElem? (i := 1) rfl)) (hts _ (List.mem_of_getElem? (i := 2) rfl)) (hts _ (List.mem_of_getElem? (i := 3) rfl)) rfl (by rw [hml]; exact hl.1) rfl dX0_init_1 (Nat.le_of_ble_eq_true rfl) (Nat.le_of_ble_eq_true rfl) ?_
  refine W.eq (g2 := F0 m 4 ls []) rfl ?_
  refine lv_aload_n hx hb dX0_init_4 rfl (lv_at hl 0 rfl) ?_
  refine lv_bipush (v := nI 60) hx hb dX0_init_5 (by decide) ?_
  refine q_newa (N := 60) hx hb (hts _ (List.mem_of_getElem? (i := 4) rfl)) hK hV hA (by decide) (Nat.le_of_ble_eq_true rfl) (Nat.le_of_ble_eq_true rfl) dX0_init_7 (fun q7 H hV => ?_)
  have hV : qV D A s.heap ([(aa, .inr (0, [.null, .int (nI 0), .null, .int (nI 0), .int (nI 0), .int (nI 0), .null])), (q7, aE cA 60 zf)]) H _ := hV
  refine q_putF (C := RX0) (T := TX0) (N := 7) (ci := 0) (v := .ref q7) ([(aa, .inr (0, [.ref q7, .int (nI 0), .null, .int (nI 0), .int (nI 0), .int (nI 0), .null])), (q7, aE cA 60 zf)]) hx hb hts hin0 tyX0 tyX0_ok nmX0 hown hK hV 0 rfl rfl 0 (by decide) (List.mem_of_getElem? (i := 5) rfl) rfl hnm rfl rfl rfl (Nat.le_of_ble_eq_true rfl) rfl dX0_init_9 (fun H locs hV => ?_)
  refine lv_aload_n hx hb dX0_init_12 rfl (lv_at hl 0 rfl) ?_
  refine lv_iconst (v := nI 0) hx hb dX0_init_13 (by decide) ?_
  refine q_put (C := RX0) (T := TX0) (N := 7) (ci := 0) (v := .int (nI 0)) ([(aa, .inr (0, [.ref q7, .int (nI 0), .null, .int (nI 0), .int (nI 0), .int (nI 0), .null])), (q7, aE cA 60 zf)]) hx hb hts hin0 tyX0 tyX0_ok nmX0 hown hK hV 0 rfl rfl 1 (by decide) (List.mem_of_getElem? (i := 6) rfl) rfl rfl rfl (Nat.le_of_ble_eq_true rfl) rfl dX0_init_14 (fun H locs hV => ?_)
  refine lv_aload_n hx hb dX0_init_17 rfl (lv_at hl 0 rfl) ?_
  refine lv_bipush (v := nI 60) hx hb dX0_init_18 (by decide) ?_
  refine q_newa (N := 60) hx hb (hts _ (List.mem_of_getElem? (i := 4) rfl)) hK hV hA (by decide) (Nat.le_of_ble_eq_true rfl) (Nat.le_of_ble_eq_true rfl) dX0_init_20 (fun q20 H hV => ?_)
  have hV : qV D A s.heap ([(aa, .inr (0, [.ref q7, .int (nI 0), .null, .int (nI 0), .int (nI 0), .int (nI 0), .null])), (q7, aE cA 60 zf), (q20, aE cA 60 zf)]) H _ := hV
  refine q_putF (C := RX0) (T := TX0) (N := 7) (ci := 0) (v := .ref q20) ([(aa, .inr (0, [.ref q7, .int (nI 0), .ref q20, .int (nI 0), .int (nI 0), .int (nI 0), .null])), (q7, aE cA 60 zf), (q20, aE cA 60 zf)]) hx hb hts hin0 tyX0 tyX0_ok nmX0 hown hK hV 0 rfl rfl 2 (by decide) (List.mem_of_getElem? (i := 7) rfl) rfl hnm rfl rfl rfl (Nat.le_of_ble_eq_true rfl) rfl dX0_init_22 (fun H locs hV => ?_)
  refine lv_aload_n hx hb dX0_init_25 rfl (lv_at hl 0 rfl) ?_
  refine lv_iconst (v := nI 0) hx hb dX0_init_26 (by decide) ?_
  refine q_put (C := RX0) (T := TX0) (N := 7) (ci := 0) (v := .int (nI 0)) ([(aa, .inr (0, [.ref q7, .int (nI 0), .ref q20, .int (nI 0), .int (nI 0), .int (nI 0), .null])), (q7, aE cA 60 zf), (q20, aE cA 60 zf)]) hx hb hts hin0 tyX0 tyX0_ok nmX0 hown hK hV 0 rfl rfl 3 (by decide) (List.mem_of_getElem? (i := 8) rfl) rfl rfl rfl (Nat.le_of_ble_eq_true rfl) rfl dX0_init_27 (fun H locs hV => ?_)
  refine lv_aload_n hx hb dX0_init_30 rfl (lv_at hl 0 rfl) ?_
  refine lv_iconst (v := nI 0) hx hb dX0_init_31 (by decide) ?_
  refine q_put (C := RX0) (T := TX0) (N := 7) (ci := 0) (v := .int (nI 0)) ([(aa, .inr (0, [.ref q7, .int (nI 0), .ref q20, .int (nI 0), .int (nI 0), .int (nI 0), .null])), (q7, aE cA 60 zf), (q20, aE cA 60 zf)]) hx hb hts hin0 tyX0 tyX0_ok nmX0 hown hK hV 0 rfl rfl 4 (by decide) (List.mem_of_getElem? (i := 9) rfl) rfl rfl rfl (Nat.le_of_ble_eq_true rfl) rfl dX0_init_32 (fun H locs hV => ?_)
  refine lv_aload_n hx hb dX0_init_35 rfl (lv_at hl 0 rfl) ?_
  refine lv_iconst (v := nI 0) hx hb dX0_init_36 (by decide) ?_
  refine q_put (C := RX0) (T := TX0) (N := 7) (ci := 0) (v := .int (nI 0)) ([(aa, .inr (0, [.ref q7, .int (nI 0), .ref q20, .int (nI 0), .int (nI 0), .int (nI 0), .null])), (q7, aE cA 60 zf), (q20, aE cA 60 zf)]) hx hb hts hin0 tyX0 tyX0_ok nmX0 hown hK hV 0 rfl rfl 5 (by decide) (List.mem_of_getElem? (i := 10) rfl) rfl rfl rfl (Nat.le_of_ble_eq_true rfl) rfl dX0_init_37 (fun H locs hV => ?_)
  refine lv_aload_n hx hb dX0_init_40 rfl (lv_at hl 0 rfl) ?_
  refine lv_bipush (v := nI 12) hx hb dX0_init_41 (by decide) ?_
  refine q_newa (N := 12) hx hb (hts _ (List.mem_of_getElem? (i := 4) rfl)) hK hV hA (by decide) (Nat.le_of_ble_eq_true rfl) (Nat.le_of_ble_eq_true rfl) dX0_init_43 (fun q43 H hV => ?_)
  have hV : qV D A s.heap ([(aa, .inr (0, [.ref q7, .int (nI 0), .ref q20, .int (nI 0), .int (nI 0), .int (nI 0), .null])), (q7, aE cA 60 zf), (q20, aE cA 60 zf), (q43, aE cA 12 zf)]) H _ := hV
  refine q_putF (C := RX0) (T := TX0) (N := 7) (ci := 0) (v := .ref q43) ([(aa, .inr (0, [.ref q7, .int (nI 0), .ref q20, .int (nI 0), .int (nI 0), .int (nI 0), .ref q43])), (q7, aE cA 60 zf), (q20, aE cA 60 zf), (q43, aE cA 12 zf)]) hx hb hts hin0 tyX0 tyX0_ok nmX0 hown hK hV 0 rfl rfl 6 (by decide) (List.mem_of_getElem? (i := 11) rfl) rfl hnm rfl rfl rfl (Nat.le_of_ble_eq_true rfl) rfl dX0_init_45 (fun H locs hV => ?_)
  exact q_vret (W1 := wT (fun i => match i with | 0 => aa | 1 => q7 | 2 => q20 | _ => q43) cA 0 0 0 0 zf zf zf) hx hb hr hlocks hV dX0_init_48 ⟨(fun i => match i with | 0 => aa | 1 => q7 | 2 => q20 | _ => q43), rfl, rfl⟩
abbrev rm_X1_init : Room := { frames := 2, cells := 13, slots := 422, locals := 32 }
set_option maxHeartbeats 4000000 in
set_option maxRecDepth 100000 in
theorem c_X1_init (l : Launch) (D : va_G) (cA : ClassId) (aa : Nat) : CTc l D cA yX1_init wsX1_init rm_X1_init [.ref aa] ([(aa, .inr (1, [.null, .int (nI 0), .int (nI 0), .int (nI 0), .int (nI 0), .null, .null, .null, .null, .int (nI 0), .null, .null]))]) 13 422 (fun W1 => ∃ h g k : Nat → Nat, h 0 = aa ∧ W1 = (wC h (g 0) (k 0) cA 0 zf 4 2 10 (idF 12) (idF 12) 0 zf zf) ++ (wT g cA 0 0 0 0 zf zf zf) ++ (wT k cA 0 0 0 0 zf zf zf)) := by
  refine CTc.mk (cc := cX1_init) (maxL := 2) (ret := none) (by decide) rfl (Nat.le_of_ble_eq_true rfl) rfl ?_
  intro p e s m below meth c A ls E hnm hV hl
  obtain ⟨hx, hb, hml, hr, hown, hts, hlocks, hK, hA, hN⟩ := E
  have hown : s.vm.findClass RX1 = some m.cls := hown
  have hin1 : ∀ w ∈ wsX10, w ∈ wsX1_init := fun _ h => List.mem_cons_of_mem _ (List.mem_append_left _ (List.mem_append_right _ h))
  have hin0 : ∀ w ∈ wsX00, w ∈ wsX1_init := fun _ h => List.mem_cons_of_mem _ (List.mem_append_right _ h)
  have hl : lv_has ls 2 [(0, .ref aa)] := hl
  refine lv_aload_n hx hb dX1_init_0 rfl (lv_at hl 0 rfl) ?_
  refine W.objInit hx hb hown (hts _ (List.mem_of_getElem? (i := 1) rfl)) (hts _ (List.mem_of_getElem? (i := 2) rfl)) (hts _ (List.mem_of_getElem? (i := 3) rfl)) rfl (by rw [hml]; exact hl.1) rfl dX1_init_1 (Nat.le_of_ble_eq_true rfl) (Nat.le_of_ble_eq_true rfl) ?_
  refine W.eq (g2 := F0 m 4 ls []) rfl ?_
  refine lv_aload_n hx hb dX1_init_4 rfl (lv_at hl 0 rfl) ?_
  refine lv_bipush (v := nI 60) hx hb dX1_init_5 (by decide) ?_
  refine q_newa (N := 60) hx hb (hts _ (List.mem_of_getElem? (i := 4) rfl)) hK hV hA (by decide) (Nat.le_of_ble_eq_true rfl) (Nat.le_of_ble_eq_true rfl) dX1_init_7 (fun q7 H hV => ?_)
  have hV : qV D A s.heap ([(aa, .inr (1, [.null, .int (nI 0), .int (nI 0), .int (nI 0), .int (nI 0), .null, .null, .null, .null, .int (nI 0), .null, .null])), (q7, aE cA 60 zf)]) H _ := hV
  refine q_putF (C := RX1) (T := TX1) (N := 12) (ci := 1) (v := .ref q7) ([(aa, .inr (1, [.ref q7, .int (nI 0), .int (nI 0), .int (nI 0), .int (nI 0), .null, .null, .null, .null, .int (nI 0), .null, .null])), (q7, aE cA 60 zf)]) hx hb hts hin1 tyX1 tyX1_ok nmX1 hown hK hV 0 rfl rfl 0 (by decide) (List.mem_of_getElem? (i := 5) rfl) rfl hnm rfl rfl rfl (Nat.le_of_ble_eq_true rfl) rfl dX1_init_9 (fun H locs hV => ?_)
  refine lv_aload_n hx hb dX1_init_12 rfl (lv_at hl 0 rfl) ?_
  refine lv_iconst (v := nI 0) hx hb dX1_init_13 (by decide) ?_
  refine q_put (C := RX1) (T := TX1) (N := 12) (ci := 1) (v := .int (nI 0)) ([(aa, .inr (1, [.ref q7, .int (nI 0), .int (nI 0), .int (nI 0), .int (nI 0), .null, .null, .null, .null, .int (nI 0), .null, .null])), (q7, aE cA 60 zf)]) hx hb hts hin1 tyX1 tyX1_ok nmX1 hown hK hV 0 rfl rfl 1 (by decide) (List.mem_of_getElem? (i := 6) rfl) rfl rfl rfl (Nat.le_of_ble_eq_true rfl) rfl dX1_init_14 (fun H locs hV => ?_)
  refine lv_aload_n hx hb dX1_init_17 rfl (lv_at hl 0 rfl) ?_
  refine lv_iconst (v := nI 4) hx hb dX1_init_18 (by decide) ?_
  refine q_put (C := RX1) (T := TX1) (N := 12) (ci := 1) (v := .int (nI 4)) ([(aa, .inr (1, [.ref q7, .int (nI 0), .int (nI 4), .int (nI 0), .int (nI 0), .null, .null, .null, .null, .int (nI 0), .null, .null])), (q7, aE cA 60 zf)]) hx hb hts hin1 tyX1 tyX1_ok nmX1 hown hK hV 0 rfl rfl 2 (by decide) (List.mem_of_getElem? (i := 7) rfl) rfl rfl rfl (Nat.le_of_ble_eq_true rfl) rfl dX1_init_19 (fun H locs hV => ?_)
  refine lv_aload_n hx hb dX1_init_22 rfl (lv_at hl 0 rfl) ?_
  refine lv_iconst (v := nI 2) hx hb dX1_init_23 (by decide) ?_
  refine q_put (C := RX1) (T := TX1) (N := 12) (ci := 1) (v := .int (nI 2)) ([(aa, .inr (1, [.ref q7, .int (nI 0), .int (nI 4), .int (nI 2), .int (nI 0), .null, .null, .null, .null, .int (nI 0), .null, .null])), (q7, aE cA 60 zf)]) hx hb hts hin1 tyX1 tyX1_ok nmX1 hown hK hV 0 rfl rfl 3 (by decide) (List.mem_of_getElem? (i := 8) rfl) rfl rfl rfl (Nat.le_of_ble_eq_true rfl) rfl dX1_init_24 (fun H locs hV => ?_)
  refine lv_aload_n hx hb dX1_init_27 rfl (lv_at hl 0 rfl) ?_
  refine lv_bipush (v := nI 10) hx hb dX1_init_28 (by decide) ?_
  refine q_put (C := RX1) (T := TX1) (N := 12) (ci := 1) (v := .int (nI 10)) ([(aa, .inr (1, [.ref q7, .int (nI 0), .int (nI 4), .int (nI 2), .int (nI 10), .null, .null, .null, .null, .int (nI 0), .null, .null])), (q7, aE cA 60 zf)]) hx hb hts hin1 tyX1 tyX1_ok nmX1 hown hK hV 0 rfl rfl 4 (by decide) (List.mem_of_getElem? (i := 9) rfl) rfl rfl rfl (Nat.le_of_ble_eq_true rfl) rfl dX1_init_30 (fun H locs hV => ?_)
  refine lv_aload_n hx hb dX1_init_33 rfl (lv_at hl 0 rfl) ?_
  refine lv_bipush (v := nI 12) hx hb dX1_init_34 (by decide) ?_
  refine q_newa (N := 12) hx hb (hts _ (List.mem_of_getElem? (i := 4) rfl)) hK hV hA (by decide) (Nat.le_of_ble_eq_true rfl) (Nat.le_of_ble_eq_true rfl) dX1_init_36 (fun q36 H hV => ?_)
  have hV : qV D A s.heap ([(aa, .inr (1, [.ref q7, .int (nI 0), .int (nI 4), .int (nI 2), .int (nI 10), .null, .null, .null, .null, .int (nI 0), .null, .null])), (q7, aE cA 60 zf), (q36, aE cA 12 zf)]) H _ := hV
  refine q_putF (C := RX1) (T := TX1) (N := 12) (ci := 1) (v := .ref q36) ([(aa, .inr (1, [.ref q7, .int (nI 0), .int (nI 4), .int (nI 2), .int (nI 10), .ref q36, .null, .null, .null, .int (nI 0), .null, .null])), (q7, aE cA 60 zf), (q36, aE cA 12 zf)]) hx hb hts hin1 tyX1 tyX1_ok nmX1 hown hK hV 0 rfl rfl 5 (by decide) (List.mem_of_getElem? (i := 10) rfl) rfl hnm rfl rfl rfl (Nat.le_of_ble_eq_true rfl) rfl dX1_init_38 (fun H locs hV => ?_)
  refine lv_aload_n hx hb dX1_init_41 rfl (lv_at hl 0 rfl) ?_
  refine lv_bipush (v := nI 12) hx hb dX1_init_42 (by decide) ?_
  refine q_newa (N := 12) hx hb (hts _ (List.mem_of_getElem? (i := 4) rfl)) hK hV hA (by decide) (Nat.le_of_ble_eq_true rfl) (Nat.le_of_ble_eq_true rfl) dX1_init_44 (fun q44 H hV => ?_)
  have hV : qV D A s.heap ([(aa, .inr (1, [.ref q7, .int (nI 0), .int (nI 4), .int (nI 2), .int (nI 10), .ref q36, .null, .null, .null, .int (nI 0), .null, .null])), (q7, aE cA 60 zf), (q36, aE cA 12 zf), (q44, aE cA 12 zf)]) H _ := hV
  refine q_putF (C := RX1) (T := TX1) (N := 12) (ci := 1) (v := .ref q44) ([(aa, .inr (1, [.ref q7, .int (nI 0), .int (nI 4), .int (nI 2), .int (nI 10), .ref q36, .ref q44, .null, .null, .int (nI 0), .null, .null])), (q7, aE cA 60 zf), (q36, aE cA 12 zf), (q44, aE cA 12 zf)]) hx hb hts hin1 tyX1 tyX1_ok nmX1 hown hK hV 0 rfl rfl 6 (by decide) (List.mem_of_getElem? (i := 11) rfl) rfl hnm rfl rfl rfl (Nat.le_of_ble_eq_true rfl) rfl dX1_init_46 (fun H locs hV => ?_)
  refine lv_iconst (v := nI 0) hx hb dX1_init_49 (by decide) ?_
  refine lv_istore_n (lv' := [(1, .int (nI 0)), (0, .ref aa)]) hx hb dX1_init_50 rfl hl (by decide) rfl (fun ls hl => ?_)
  have lp : ∀ (d j : Nat) (H : Heap) (locs : List Loc) (ls : Array Slot), (13 ≤ j + d) → (j ≤ 12) → qV D A s.heap ([(aa, .inr (1, [.ref q7, .int (nI 0), .int (nI 4), .int (nI 2), .int (nI 10), .ref q36, .ref q44, .null, .null, .int (nI 0), .null, .null])), (q7, aE cA 60 zf), (q36, aE cA 12 (idF j)), (q44, aE cA 12 (idF j))]) H locs → lv_has ls 2 [(0, .ref aa), (1, .int (nI j))] → W p l e rm_X1_init s m ([.ref aa] : List Value).toArray below meth c H locs 3 84 (MQ below (va_Qv (fun W1 => ∃ h g k : Nat → Nat, h 0 = aa ∧ W1 = (wC h (g 0) (k 0) cA 0 zf 4 2 10 (idF 12) (idF 12) 0 zf zf) ++ (wT g cA 0 0 0 0 zf zf zf) ++ (wT k cA 0 0 0 0 zf zf zf)) (cPost D A) A) ([.ref aa] : List Value).toArray s 13 422 A) (F0 m 51 ls []) := by
    intro d
    induction d with
    | zero => intro j H locs ls hm hj hV hl; exfalso; omega
    | succ d ih =>
      intro j H locs ls hm hj hV hl
      refine lv_iload_n hx hb dX1_init_51 rfl (lv_at hl 1 rfl) ?_
      refine lv_bipush (v := nI 12) hx hb dX1_init_52 (by decide) ?_
      refine q_icmp_ge (x := j) (y := 12) (tgt := 77) hx hb dX1_init_54 (by decide) (by omega) (by omega) (fun c1 => ?_) (fun c1 => ?_)
      · have ej : j = 12 := by omega
        subst ej
        refine lv_aload_n hx hb dX1_init_77 rfl (lv_at hl 0 rfl) ?_
        refine lv_bipush (v := nI 30) hx hb dX1_init_78 (by decide) ?_
        refine q_newa (N := 30) hx hb (hts _ (List.mem_of_getElem? (i := 4) rfl)) hK hV hA (by decide) (Nat.le_of_ble_eq_true rfl) (Nat.le_of_ble_eq_true rfl) dX1_init_80 (fun q80 H hV => ?_)
        have hV : qV D A s.heap ([(aa, .inr (1, [.ref q7, .int (nI 0), .int (nI 4), .int (nI 2), .int (nI 10), .ref q36, .ref q44, .null, .null, .int (nI 0), .null, .null])), (q7, aE cA 60 zf), (q36, aE cA 12 (idF 12)), (q44, aE cA 12 (idF 12)), (q80, aE cA 30 zf)]) H _ := hV
        refine q_putF (C := RX1) (T := TX1) (N := 12) (ci := 1) (v := .ref q80) ([(aa, .inr (1, [.ref q7, .int (nI 0), .int (nI 4), .int (nI 2), .int (nI 10), .ref q36, .ref q44, .ref q80, .null, .int (nI 0), .null, .null])), (q7, aE cA 60 zf), (q36, aE cA 12 (idF 12)), (q44, aE cA 12 (idF 12)), (q80, aE cA 30 zf)]) hx hb hts hin1 tyX1 tyX1_ok nmX1 hown hK hV 0 rfl rfl 7 (by decide) (List.mem_of_getElem? (i := 12) rfl) rfl hnm rfl rfl rfl (Nat.le_of_ble_eq_true rfl) rfl dX1_init_82 (fun H locs hV => ?_)
        refine lv_aload_n hx hb dX1_init_85 rfl (lv_at hl 0 rfl) ?_
        refine lv_bipush (v := nI 30) hx hb dX1_init_86 (by decide) ?_
        refine q_newa (N := 30) hx hb (hts _ (List.mem_of_getElem? (i := 4) rfl)) hK hV hA (by decide) (Nat.le_of_ble_eq_true rfl) (Nat.le_of_ble_eq_true rfl) dX1_init_88 (fun q88 H hV => ?_)
        have hV : qV D A s.heap ([(aa, .inr (1, [.ref q7, .int (nI 0), .int (nI 4), .int (nI 2), .int (nI 10), .ref q36, .ref q44, .ref q80, .null, .int (nI 0), .null, .null])), (q7, aE cA 60 zf), (q36, aE cA 12 (idF 12)), (q44, aE cA 12 (idF 12)), (q80, aE cA 30 zf), (q88, aE cA 30 zf)]) H _ := hV
        refine q_putF (C := RX1) (T := TX1) (N := 12) (ci := 1) (v := .ref q88) ([(aa, .inr (1, [.ref q7, .int (nI 0), .int (nI 4), .int (nI 2), .int (nI 10), .ref q36, .ref q44, .ref q80, .ref q88, .int (nI 0), .null, .null])), (q7, aE cA 60 zf), (q36, aE cA 12 (idF 12)), (q44, aE cA 12 (idF 12)), (q80, aE cA 30 zf), (q88, aE cA 30 zf)]) hx hb hts hin1 tyX1 tyX1_ok nmX1 hown hK hV 0 rfl rfl 8 (by decide) (List.mem_of_getElem? (i := 13) rfl) rfl hnm rfl rfl rfl (Nat.le_of_ble_eq_true rfl) rfl dX1_init_90 (fun H locs hV => ?_)
        refine lv_aload_n hx hb dX1_init_93 rfl (lv_at hl 0 rfl) ?_
        refine lv_iconst (v := nI 0) hx hb dX1_init_94 (by decide) ?_
        refine q_put (C := RX1) (T := TX1) (N := 12) (ci := 1) (v := .int (nI 0)) ([(aa, .inr (1, [.ref q7, .int (nI 0), .int (nI 4), .int (nI 2), .int (nI 10), .ref q36, .ref q44, .ref q80, .ref q88, .int (nI 0), .null, .null])), (q7, aE cA 60 zf), (q36, aE cA 12 (idF 12)), (q44, aE cA 12 (idF 12)), (q80, aE cA 30 zf), (q88, aE cA 30 zf)]) hx hb hts hin1 tyX1 tyX1_ok nmX1 hown hK hV 0 rfl rfl 9 (by decide) (List.mem_of_getElem? (i := 14) rfl) rfl rfl rfl (Nat.le_of_ble_eq_true rfl) rfl dX1_init_95 (fun H locs hV => ?_)
        refine lv_aload_n hx hb dX1_init_98 rfl (lv_at hl 0 rfl) ?_
        refine va_new (ci := 0) (fs := [.null, .int (nI 0), .null, .int (nI 0), .int (nI 0), .int (nI 0), .null]) (C := RX0) (T := TX0) (N := 7) hx hb hts hin0 tyX0 tyX0_ok hown (hts _ (List.mem_of_getElem? (i := 15) rfl)) (hts _ (List.mem_of_getElem? (i := 16) rfl)) (hts _ (List.mem_of_getElem? (i := 17) rfl)) hK hV.1 hV.2.1 hV.2.2 hA rfl (fun j hj => by rcases (show j = 0 ∨ j = 1 ∨ j = 2 ∨ j = 3 ∨ j = 4 ∨ j = 5 ∨ j = 6 by omega) with rfl | rfl | rfl | rfl | rfl | rfl | rfl <;> rfl) (Nat.le_of_ble_eq_true rfl) (Nat.le_of_ble_eq_true rfl) dX1_init_99 (fun q99 H hP hD hS => ?_)
        have hV : qV D A s.heap ([(aa, .inr (1, [.ref q7, .int (nI 0), .int (nI 4), .int (nI 2), .int (nI 10), .ref q36, .ref q44, .ref q80, .ref q88, .int (nI 0), .null, .null])), (q7, aE cA 60 zf), (q36, aE cA 12 (idF 12)), (q44, aE cA 12 (idF 12)), (q80, aE cA 30 zf), (q88, aE cA 30 zf), (q99, .inr (0, [.null, .int (nI 0), .null, .int (nI 0), .int (nI 0), .int (nI 0), .null]))]) H _ := ⟨hP, hD, hS⟩
        refine lv_dup hx hb dX1_init_102 rfl ?_
        refine k_NI (w0 := [(aa, .inr (1, [.ref q7, .int (nI 0), .int (nI 4), .int (nI 2), .int (nI 10), .ref q36, .ref q44, .ref q80, .ref q88, .int (nI 0), .null, .null])), (q7, aE cA 60 zf), (q36, aE cA 12 (idF 12)), (q44, aE cA 12 (idF 12)), (q80, aE cA 30 zf), (q88, aE cA 30 zf)]) (wc := [(q99, .inr (0, [.null, .int (nI 0), .null, .int (nI 0), .int (nI 0), .int (nI 0), .null]))]) (b := q99) (As := []) (rest := [.ref q99, .ref aa]) hx hb hml hown hts hK hA hN hV hl.1 (c_X0_init l D cA q99) gX1_init_X0_init_n43 rfl rfl rfl (List.mem_of_getElem? (i := 0) rfl) (List.mem_of_getElem? (i := 17) rfl) (List.mem_of_getElem? (i := 20) rfl) rfl hdnX0_init ⟨Nat.le_of_ble_eq_true rfl, Nat.le_of_ble_eq_true rfl⟩ rfl rfl (Nat.le_of_ble_eq_true rfl) dX1_init_103 ⟨Nat.le_of_ble_eq_true rfl, Nat.le_of_ble_eq_true rfl⟩ (fun W1 H103 locs103 hp hV103 => ?_)
        obtain ⟨g103, hg103, hp2⟩ := hp
        subst hp2
        subst hg103
        have hV : qV D A s.heap ([(aa, .inr (1, [.ref q7, .int (nI 0), .int (nI 4), .int (nI 2), .int (nI 10), .ref q36, .ref q44, .ref q80, .ref q88, .int (nI 0), .null, .null])), (q7, aE cA 60 zf), (q36, aE cA 12 (idF 12)), (q44, aE cA 12 (idF 12)), (q80, aE cA 30 zf), (q88, aE cA 30 zf), (g103 0, .inr (0, [.ref (g103 1), .int (nI 0), .ref (g103 2), .int (nI 0), .int (nI 0), .int (nI 0), .ref (g103 3)])), (g103 1, aE cA 60 zf), (g103 2, aE cA 60 zf), (g103 3, aE cA 12 zf)]) H103 locs103 := hV103
        refine q_putF (C := RX1) (T := TX1) (N := 12) (ci := 1) (v := .ref (g103 0)) ([(aa, .inr (1, [.ref q7, .int (nI 0), .int (nI 4), .int (nI 2), .int (nI 10), .ref q36, .ref q44, .ref q80, .ref q88, .int (nI 0), .ref (g103 0), .null])), (q7, aE cA 60 zf), (q36, aE cA 12 (idF 12)), (q44, aE cA 12 (idF 12)), (q80, aE cA 30 zf), (q88, aE cA 30 zf), (g103 0, .inr (0, [.ref (g103 1), .int (nI 0), .ref (g103 2), .int (nI 0), .int (nI 0), .int (nI 0), .ref (g103 3)])), (g103 1, aE cA 60 zf), (g103 2, aE cA 60 zf), (g103 3, aE cA 12 zf)]) hx hb hts hin1 tyX1 tyX1_ok nmX1 hown hK hV 0 rfl rfl 10 (by decide) (List.mem_of_getElem? (i := 18) rfl) rfl hnm rfl rfl rfl (Nat.le_of_ble_eq_true rfl) rfl dX1_init_106 (fun H locs hV => ?_)
        refine lv_aload_n hx hb dX1_init_109 rfl (lv_at hl 0 rfl) ?_
        refine va_new (ci := 0) (fs := [.null, .int (nI 0), .null, .int (nI 0), .int (nI 0), .int (nI 0), .null]) (C := RX0) (T := TX0) (N := 7) hx hb hts hin0 tyX0 tyX0_ok hown (hts _ (List.mem_of_getElem? (i := 15) rfl)) (hts _ (List.mem_of_getElem? (i := 16) rfl)) (hts _ (List.mem_of_getElem? (i := 17) rfl)) hK hV.1 hV.2.1 hV.2.2 hA rfl (fun j hj => by rcases (show j = 0 ∨ j = 1 ∨ j = 2 ∨ j = 3 ∨ j = 4 ∨ j = 5 ∨ j = 6 by omega) with rfl | rfl | rfl | rfl | rfl | rfl | rfl <;> rfl) (Nat.le_of_ble_eq_true rfl) (Nat.le_of_ble_eq_true rfl) dX1_init_110 (fun q110 H hP hD hS => ?_)
        have hV : qV D A s.heap ([(aa, .inr (1, [.ref q7, .int (nI 0), .int (nI 4), .int (nI 2), .int (nI 10), .ref q36, .ref q44, .ref q80, .ref q88, .int (nI 0), .ref (g103 0), .null])), (q7, aE cA 60 zf), (q36, aE cA 12 (idF 12)), (q44, aE cA 12 (idF 12)), (q80, aE cA 30 zf), (q88, aE cA 30 zf), (g103 0, .inr (0, [.ref (g103 1), .int (nI 0), .ref (g103 2), .int (nI 0), .int (nI 0), .int (nI 0), .ref (g103 3)])), (g103 1, aE cA 60 zf), (g103 2, aE cA 60 zf), (g103 3, aE cA 12 zf), (q110, .inr (0, [.null, .int (nI 0), .null, .int (nI 0), .int (nI 0), .int (nI 0), .null]))]) H _ := ⟨hP, hD, hS⟩
        refine lv_dup hx hb dX1_init_113 rfl ?_
        refine k_NI (w0 := [(aa, .inr (1, [.ref q7, .int (nI 0), .int (nI 4), .int (nI 2), .int (nI 10), .ref q36, .ref q44, .ref q80, .ref q88, .int (nI 0), .ref (g103 0), .null])), (q7, aE cA 60 zf), (q36, aE cA 12 (idF 12)), (q44, aE cA 12 (idF 12)), (q80, aE cA 30 zf), (q88, aE cA 30 zf), (g103 0, .inr (0, [.ref (g103 1), .int (nI 0), .ref (g103 2), .int (nI 0), .int (nI 0), .int (nI 0), .ref (g103 3)])), (g103 1, aE cA 60 zf), (g103 2, aE cA 60 zf), (g103 3, aE cA 12 zf)]) (wc := [(q110, .inr (0, [.null, .int (nI 0), .null, .int (nI 0), .int (nI 0), .int (nI 0), .null]))]) (b := q110) (As := []) (rest := [.ref q110, .ref aa]) hx hb hml hown hts hK hA hN hV hl.1 (c_X0_init l D cA q110) gX1_init_X0_init_n43 rfl rfl rfl (List.mem_of_getElem? (i := 0) rfl) (List.mem_of_getElem? (i := 17) rfl) (List.mem_of_getElem? (i := 20) rfl) rfl hdnX0_init ⟨Nat.le_of_ble_eq_true rfl, Nat.le_of_ble_eq_true rfl⟩ rfl rfl (Nat.le_of_ble_eq_true rfl) dX1_init_114 ⟨Nat.le_of_ble_eq_true rfl, Nat.le_of_ble_eq_true rfl⟩ (fun W1 H114 locs114 hp hV114 => ?_)
        obtain ⟨g114, hg114, hp2⟩ := hp
        subst hp2
        subst hg114
        have hV : qV D A s.heap ([(aa, .inr (1, [.ref q7, .int (nI 0), .int (nI 4), .int (nI 2), .int (nI 10), .ref q36, .ref q44, .ref q80, .ref q88, .int (nI 0), .ref (g103 0), .null])), (q7, aE cA 60 zf), (q36, aE cA 12 (idF 12)), (q44, aE cA 12 (idF 12)), (q80, aE cA 30 zf), (q88, aE cA 30 zf), (g103 0, .inr (0, [.ref (g103 1), .int (nI 0), .ref (g103 2), .int (nI 0), .int (nI 0), .int (nI 0), .ref (g103 3)])), (g103 1, aE cA 60 zf), (g103 2, aE cA 60 zf), (g103 3, aE cA 12 zf), (g114 0, .inr (0, [.ref (g114 1), .int (nI 0), .ref (g114 2), .int (nI 0), .int (nI 0), .int (nI 0), .ref (g114 3)])), (g114 1, aE cA 60 zf), (g114 2, aE cA 60 zf), (g114 3, aE cA 12 zf)]) H114 locs114 := hV114
        refine q_putF (C := RX1) (T := TX1) (N := 12) (ci := 1) (v := .ref (g114 0)) ([(aa, .inr (1, [.ref q7, .int (nI 0), .int (nI 4), .int (nI 2), .int (nI 10), .ref q36, .ref q44, .ref q80, .ref q88, .int (nI 0), .ref (g103 0), .ref (g114 0)])), (q7, aE cA 60 zf), (q36, aE cA 12 (idF 12)), (q44, aE cA 12 (idF 12)), (q80, aE cA 30 zf), (q88, aE cA 30 zf), (g103 0, .inr (0, [.ref (g103 1), .int (nI 0), .ref (g103 2), .int (nI 0), .int (nI 0), .int (nI 0), .ref (g103 3)])), (g103 1, aE cA 60 zf), (g103 2, aE cA 60 zf), (g103 3, aE cA 12 zf), (g114 0, .inr (0, [.ref (g114 1), .int (nI 0), .ref (g114 2), .int (nI 0), .int (nI 0), .int (nI 0), .ref (g114 3)])), (g114 1, aE cA 60 zf), (g114 2, aE cA 60 zf), (g114 3, aE cA 12 zf)]) hx hb hts hin1 tyX1 tyX1_ok nmX1 hown hK hV 0 rfl rfl 11 (by decide) (List.mem_of_getElem? (i := 19) rfl) rfl hnm rfl rfl rfl (Nat.le_of_ble_eq_true rfl) rfl dX1_init_117 (fun H locs hV => ?_)
        exact q_vret (W1 := (wC (fun i => match i with | 0 => aa | 1 => q7 | 2 => q36 | 3 => q44 | 4 => q80 | _ => q88) (g103 0) (g114 0) cA 0 zf 4 2 10 (idF 12) (idF 12) 0 zf zf) ++ (wT g103 cA 0 0 0 0 zf zf zf) ++ (wT g114 cA 0 0 0 0 zf zf zf)) hx hb hr hlocks hV dX1_init_120 ⟨(fun i => match i with | 0 => aa | 1 => q7 | 2 => q36 | 3 => q44 | 4 => q80 | _ => q88), g103, g114, rfl, rfl⟩
      · refine lv_aload_n hx hb dX1_init_57 rfl (lv_at hl 0 rfl) ?_
        refine q_get (C := RX1) (T := TX1) (N := 12) (ci := 1) (v := .ref q36) hx hb hts hin1 hown hK hV 0 rfl rfl 5 (by decide) (List.mem_of_getElem? (i := 10) rfl) rfl dX1_init_58 ?_
        refine lv_iload_n hx hb dX1_init_61 rfl (lv_at hl 1 rfl) ?_
        refine lv_iload_n hx hb dX1_init_62 rfl (lv_at hl 1 rfl) ?_
        refine q_iast (n := 12) (k := j) (v := j) (f := idF j) ([(aa, .inr (1, [.ref q7, .int (nI 0), .int (nI 4), .int (nI 2), .int (nI 10), .ref q36, .ref q44, .null, .null, .int (nI 0), .null, .null])), (q7, aE cA 60 zf), (q36, aE cA 12 (up (idF j) j j)), (q44, aE cA 12 (idF j))]) hx hb hK hV 2 rfl (by omega) (by decide) rfl dX1_init_63 (fun H locs hV => ?_)
        refine lv_aload_n hx hb dX1_init_64 rfl (lv_at hl 0 rfl) ?_
        refine q_get (C := RX1) (T := TX1) (N := 12) (ci := 1) (v := .ref q44) hx hb hts hin1 hown hK hV 0 rfl rfl 6 (by decide) (List.mem_of_getElem? (i := 11) rfl) rfl dX1_init_65 ?_
        refine lv_iload_n hx hb dX1_init_68 rfl (lv_at hl 1 rfl) ?_
        refine lv_iload_n hx hb dX1_init_69 rfl (lv_at hl 1 rfl) ?_
        refine q_iast (n := 12) (k := j) (v := j) (f := idF j) ([(aa, .inr (1, [.ref q7, .int (nI 0), .int (nI 4), .int (nI 2), .int (nI 10), .ref q36, .ref q44, .null, .null, .int (nI 0), .null, .null])), (q7, aE cA 60 zf), (q36, aE cA 12 (up (idF j) j j)), (q44, aE cA 12 (up (idF j) j j))]) hx hb hK hV 3 rfl (by omega) (by decide) rfl dX1_init_70 (fun H locs hV => ?_)
        refine q_iinc (x := j) (z := j + 1) (lv' := [(1, .int (nI (j + 1))), (0, .ref aa)]) hx hb dX1_init_71 hl (k := 1) rfl (dd := 1) rfl (by omega) (by decide) rfl (fun ls hl => ?_)
        refine lv_goto (tgt := 51) hx hb dX1_init_74 (by decide) ?_
        exact ih (j + 1) _ _ _ (by omega) (by omega) hV (lv_sub hl [1, 0] rfl)
  exact lp 13 0 _ _ _ (by omega) (by omega) hV (lv_sub hl [1, 0] rfl)
abbrev rm_X2_init : Room := { frames := 1, cells := 9, slots := 338, locals := 12 }
set_option maxHeartbeats 4000000 in
set_option maxRecDepth 100000 in
theorem c_X2_init (l : Launch) (D : va_G) (cA : ClassId) (aa : Nat) : CTc l D cA yX2_init wsX2_init rm_X2_init [.ref aa] ([(aa, .inr (2, [.int (nI 0), .null, .int (nI 0), .int (nI 0), .int (nI 0), .null, .null, .int (nI 0), .null, .null, .int (nI 0), .int (nI 0), .int (nI 0), .int (nI 0), .null, .null, .null, .null, .int (nI 0), .long 0]))]) 9 338 (fun W1 => ∃ h : Nat → Nat, h 0 = aa ∧ W1 = (wD h cA 0 zf 4 2 10 (idF 12) (idF 12) 0 zf zf 0 0 0 0 0 0) ++ (wY h cA zf zf zf zf)) := by
  refine CTc.mk (cc := cX2_init) (maxL := 2) (ret := none) (by decide) rfl (Nat.le_of_ble_eq_true rfl) rfl ?_
  intro p e s m below meth c A ls E hnm hV hl
  obtain ⟨hx, hb, hml, hr, hown, hts, hlocks, hK, hA, hN⟩ := E
  have hown : s.vm.findClass RX2 = some m.cls := hown
  have hin2 : ∀ w ∈ wsX20, w ∈ wsX2_init := fun _ h => List.mem_cons_of_mem _ (List.mem_append_right _ h)
  have hl : lv_has ls 2 [(0, .ref aa)] := hl
  refine lv_aload_n hx hb dX2_init_0 rfl (lv_at hl 0 rfl) ?_
  refine W.objInit hx hb hown (hts _ (List.mem_of_getElem? (i := 1) rfl)) (hts _ (List.mem_of_getElem? (i := 2) rfl)) (hts _ (List.mem_of_getElem? (i := 3) rfl)) rfl (by rw [hml]; exact hl.1) rfl dX2_init_1 (Nat.le_of_ble_eq_true rfl) (Nat.le_of_ble_eq_true rfl) ?_
  refine W.eq (g2 := F0 m 4 ls []) rfl ?_
  refine lv_aload_n hx hb dX2_init_4 rfl (lv_at hl 0 rfl) ?_
  refine lv_bipush (v := nI 60) hx hb dX2_init_5 (by decide) ?_
  refine q_newa (N := 60) hx hb (hts _ (List.mem_of_getElem? (i := 4) rfl)) hK hV hA (by decide) (Nat.le_of_ble_eq_true rfl) (Nat.le_of_ble_eq_true rfl) dX2_init_7 (fun q7 H hV => ?_)
  have hV : qV D A s.heap ([(aa, .inr (2, [.int (nI 0), .null, .int (nI 0), .int (nI 0), .int (nI 0), .null, .null, .int (nI 0), .null, .null, .int (nI 0), .int (nI 0), .int (nI 0), .int (nI 0), .null, .null, .null, .null, .int (nI 0), .long 0])), (q7, aE cA 60 zf)]) H _ := hV
  refine q_putF (C := RX2) (T := TX2) (N := 20) (ci := 2) (v := .ref q7) ([(aa, .inr (2, [.int (nI 0), .ref q7, .int (nI 0), .int (nI 0), .int (nI 0), .null, .null, .int (nI 0), .null, .null, .int (nI 0), .int (nI 0), .int (nI 0), .int (nI 0), .null, .null, .null, .null, .int (nI 0), .long 0])), (q7, aE cA 60 zf)]) hx hb hts hin2 tyX2 tyX2_ok nmX2 hown hK hV 0 rfl rfl 1 (by decide) (List.mem_of_getElem? (i := 5) rfl) rfl hnm rfl rfl rfl (Nat.le_of_ble_eq_true rfl) rfl dX2_init_9 (fun H locs hV => ?_)
  refine lv_aload_n hx hb dX2_init_12 rfl (lv_at hl 0 rfl) ?_
  refine lv_iconst (v := nI 4) hx hb dX2_init_13 (by decide) ?_
  refine q_put (C := RX2) (T := TX2) (N := 20) (ci := 2) (v := .int (nI 4)) ([(aa, .inr (2, [.int (nI 0), .ref q7, .int (nI 4), .int (nI 0), .int (nI 0), .null, .null, .int (nI 0), .null, .null, .int (nI 0), .int (nI 0), .int (nI 0), .int (nI 0), .null, .null, .null, .null, .int (nI 0), .long 0])), (q7, aE cA 60 zf)]) hx hb hts hin2 tyX2 tyX2_ok nmX2 hown hK hV 0 rfl rfl 2 (by decide) (List.mem_of_getElem? (i := 6) rfl) rfl rfl rfl (Nat.le_of_ble_eq_true rfl) rfl dX2_init_14 (fun H locs hV => ?_)
  refine lv_aload_n hx hb dX2_init_17 rfl (lv_at hl 0 rfl) ?_
  refine lv_iconst (v := nI 2) hx hb dX2_init_18 (by decide) ?_
  refine q_put (C := RX2) (T := TX2) (N := 20) (ci := 2) (v := .int (nI 2)) ([(aa, .inr (2, [.int (nI 0), .ref q7, .int (nI 4), .int (nI 2), .int (nI 0), .null, .null, .int (nI 0), .null, .null, .int (nI 0), .int (nI 0), .int (nI 0), .int (nI 0), .null, .null, .null, .null, .int (nI 0), .long 0])), (q7, aE cA 60 zf)]) hx hb hts hin2 tyX2 tyX2_ok nmX2 hown hK hV 0 rfl rfl 3 (by decide) (List.mem_of_getElem? (i := 7) rfl) rfl rfl rfl (Nat.le_of_ble_eq_true rfl) rfl dX2_init_19 (fun H locs hV => ?_)
  refine lv_aload_n hx hb dX2_init_22 rfl (lv_at hl 0 rfl) ?_
  refine lv_bipush (v := nI 10) hx hb dX2_init_23 (by decide) ?_
  refine q_put (C := RX2) (T := TX2) (N := 20) (ci := 2) (v := .int (nI 10)) ([(aa, .inr (2, [.int (nI 0), .ref q7, .int (nI 4), .int (nI 2), .int (nI 10), .null, .null, .int (nI 0), .null, .null, .int (nI 0), .int (nI 0), .int (nI 0), .int (nI 0), .null, .null, .null, .null, .int (nI 0), .long 0])), (q7, aE cA 60 zf)]) hx hb hts hin2 tyX2 tyX2_ok nmX2 hown hK hV 0 rfl rfl 4 (by decide) (List.mem_of_getElem? (i := 8) rfl) rfl rfl rfl (Nat.le_of_ble_eq_true rfl) rfl dX2_init_25 (fun H locs hV => ?_)
  refine lv_aload_n hx hb dX2_init_28 rfl (lv_at hl 0 rfl) ?_
  refine lv_bipush (v := nI 12) hx hb dX2_init_29 (by decide) ?_
  refine q_newa (N := 12) hx hb (hts _ (List.mem_of_getElem? (i := 4) rfl)) hK hV hA (by decide) (Nat.le_of_ble_eq_true rfl) (Nat.le_of_ble_eq_true rfl) dX2_init_31 (fun q31 H hV => ?_)
  have hV : qV D A s.heap ([(aa, .inr (2, [.int (nI 0), .ref q7, .int (nI 4), .int (nI 2), .int (nI 10), .null, .null, .int (nI 0), .null, .null, .int (nI 0), .int (nI 0), .int (nI 0), .int (nI 0), .null, .null, .null, .null, .int (nI 0), .long 0])), (q7, aE cA 60 zf), (q31, aE cA 12 zf)]) H _ := hV
  refine q_putF (C := RX2) (T := TX2) (N := 20) (ci := 2) (v := .ref q31) ([(aa, .inr (2, [.int (nI 0), .ref q7, .int (nI 4), .int (nI 2), .int (nI 10), .ref q31, .null, .int (nI 0), .null, .null, .int (nI 0), .int (nI 0), .int (nI 0), .int (nI 0), .null, .null, .null, .null, .int (nI 0), .long 0])), (q7, aE cA 60 zf), (q31, aE cA 12 zf)]) hx hb hts hin2 tyX2 tyX2_ok nmX2 hown hK hV 0 rfl rfl 5 (by decide) (List.mem_of_getElem? (i := 9) rfl) rfl hnm rfl rfl rfl (Nat.le_of_ble_eq_true rfl) rfl dX2_init_33 (fun H locs hV => ?_)
  refine lv_aload_n hx hb dX2_init_36 rfl (lv_at hl 0 rfl) ?_
  refine lv_bipush (v := nI 12) hx hb dX2_init_37 (by decide) ?_
  refine q_newa (N := 12) hx hb (hts _ (List.mem_of_getElem? (i := 4) rfl)) hK hV hA (by decide) (Nat.le_of_ble_eq_true rfl) (Nat.le_of_ble_eq_true rfl) dX2_init_39 (fun q39 H hV => ?_)
  have hV : qV D A s.heap ([(aa, .inr (2, [.int (nI 0), .ref q7, .int (nI 4), .int (nI 2), .int (nI 10), .ref q31, .null, .int (nI 0), .null, .null, .int (nI 0), .int (nI 0), .int (nI 0), .int (nI 0), .null, .null, .null, .null, .int (nI 0), .long 0])), (q7, aE cA 60 zf), (q31, aE cA 12 zf), (q39, aE cA 12 zf)]) H _ := hV
  refine q_putF (C := RX2) (T := TX2) (N := 20) (ci := 2) (v := .ref q39) ([(aa, .inr (2, [.int (nI 0), .ref q7, .int (nI 4), .int (nI 2), .int (nI 10), .ref q31, .ref q39, .int (nI 0), .null, .null, .int (nI 0), .int (nI 0), .int (nI 0), .int (nI 0), .null, .null, .null, .null, .int (nI 0), .long 0])), (q7, aE cA 60 zf), (q31, aE cA 12 zf), (q39, aE cA 12 zf)]) hx hb hts hin2 tyX2 tyX2_ok nmX2 hown hK hV 0 rfl rfl 6 (by decide) (List.mem_of_getElem? (i := 10) rfl) rfl hnm rfl rfl rfl (Nat.le_of_ble_eq_true rfl) rfl dX2_init_41 (fun H locs hV => ?_)
  refine lv_aload_n hx hb dX2_init_44 rfl (lv_at hl 0 rfl) ?_
  refine lv_bipush (v := nI 31) hx hb dX2_init_45 (by decide) ?_
  refine q_newa (N := 31) hx hb (hts _ (List.mem_of_getElem? (i := 4) rfl)) hK hV hA (by decide) (Nat.le_of_ble_eq_true rfl) (Nat.le_of_ble_eq_true rfl) dX2_init_47 (fun q47 H hV => ?_)
  have hV : qV D A s.heap ([(aa, .inr (2, [.int (nI 0), .ref q7, .int (nI 4), .int (nI 2), .int (nI 10), .ref q31, .ref q39, .int (nI 0), .null, .null, .int (nI 0), .int (nI 0), .int (nI 0), .int (nI 0), .null, .null, .null, .null, .int (nI 0), .long 0])), (q7, aE cA 60 zf), (q31, aE cA 12 zf), (q39, aE cA 12 zf), (q47, aE cA 31 zf)]) H _ := hV
  refine q_putF (C := RX2) (T := TX2) (N := 20) (ci := 2) (v := .ref q47) ([(aa, .inr (2, [.int (nI 0), .ref q7, .int (nI 4), .int (nI 2), .int (nI 10), .ref q31, .ref q39, .int (nI 0), .ref q47, .null, .int (nI 0), .int (nI 0), .int (nI 0), .int (nI 0), .null, .null, .null, .null, .int (nI 0), .long 0])), (q7, aE cA 60 zf), (q31, aE cA 12 zf), (q39, aE cA 12 zf), (q47, aE cA 31 zf)]) hx hb hts hin2 tyX2 tyX2_ok nmX2 hown hK hV 0 rfl rfl 8 (by decide) (List.mem_of_getElem? (i := 11) rfl) rfl hnm rfl rfl rfl (Nat.le_of_ble_eq_true rfl) rfl dX2_init_49 (fun H locs hV => ?_)
  refine lv_aload_n hx hb dX2_init_52 rfl (lv_at hl 0 rfl) ?_
  refine lv_bipush (v := nI 31) hx hb dX2_init_53 (by decide) ?_
  refine q_newa (N := 31) hx hb (hts _ (List.mem_of_getElem? (i := 4) rfl)) hK hV hA (by decide) (Nat.le_of_ble_eq_true rfl) (Nat.le_of_ble_eq_true rfl) dX2_init_55 (fun q55 H hV => ?_)
  have hV : qV D A s.heap ([(aa, .inr (2, [.int (nI 0), .ref q7, .int (nI 4), .int (nI 2), .int (nI 10), .ref q31, .ref q39, .int (nI 0), .ref q47, .null, .int (nI 0), .int (nI 0), .int (nI 0), .int (nI 0), .null, .null, .null, .null, .int (nI 0), .long 0])), (q7, aE cA 60 zf), (q31, aE cA 12 zf), (q39, aE cA 12 zf), (q47, aE cA 31 zf), (q55, aE cA 31 zf)]) H _ := hV
  refine q_putF (C := RX2) (T := TX2) (N := 20) (ci := 2) (v := .ref q55) ([(aa, .inr (2, [.int (nI 0), .ref q7, .int (nI 4), .int (nI 2), .int (nI 10), .ref q31, .ref q39, .int (nI 0), .ref q47, .ref q55, .int (nI 0), .int (nI 0), .int (nI 0), .int (nI 0), .null, .null, .null, .null, .int (nI 0), .long 0])), (q7, aE cA 60 zf), (q31, aE cA 12 zf), (q39, aE cA 12 zf), (q47, aE cA 31 zf), (q55, aE cA 31 zf)]) hx hb hts hin2 tyX2 tyX2_ok nmX2 hown hK hV 0 rfl rfl 9 (by decide) (List.mem_of_getElem? (i := 12) rfl) rfl hnm rfl rfl rfl (Nat.le_of_ble_eq_true rfl) rfl dX2_init_57 (fun H locs hV => ?_)
  refine lv_aload_n hx hb dX2_init_60 rfl (lv_at hl 0 rfl) ?_
  refine lv_bipush (v := nI 60) hx hb dX2_init_61 (by decide) ?_
  refine q_newa (N := 60) hx hb (hts _ (List.mem_of_getElem? (i := 4) rfl)) hK hV hA (by decide) (Nat.le_of_ble_eq_true rfl) (Nat.le_of_ble_eq_true rfl) dX2_init_63 (fun q63 H hV => ?_)
  have hV : qV D A s.heap ([(aa, .inr (2, [.int (nI 0), .ref q7, .int (nI 4), .int (nI 2), .int (nI 10), .ref q31, .ref q39, .int (nI 0), .ref q47, .ref q55, .int (nI 0), .int (nI 0), .int (nI 0), .int (nI 0), .null, .null, .null, .null, .int (nI 0), .long 0])), (q7, aE cA 60 zf), (q31, aE cA 12 zf), (q39, aE cA 12 zf), (q47, aE cA 31 zf), (q55, aE cA 31 zf), (q63, aE cA 60 zf)]) H _ := hV
  refine q_putF (C := RX2) (T := TX2) (N := 20) (ci := 2) (v := .ref q63) ([(aa, .inr (2, [.int (nI 0), .ref q7, .int (nI 4), .int (nI 2), .int (nI 10), .ref q31, .ref q39, .int (nI 0), .ref q47, .ref q55, .int (nI 0), .int (nI 0), .int (nI 0), .int (nI 0), .ref q63, .null, .null, .null, .int (nI 0), .long 0])), (q7, aE cA 60 zf), (q31, aE cA 12 zf), (q39, aE cA 12 zf), (q47, aE cA 31 zf), (q55, aE cA 31 zf), (q63, aE cA 60 zf)]) hx hb hts hin2 tyX2 tyX2_ok nmX2 hown hK hV 0 rfl rfl 14 (by decide) (List.mem_of_getElem? (i := 13) rfl) rfl hnm rfl rfl rfl (Nat.le_of_ble_eq_true rfl) rfl dX2_init_65 (fun H locs hV => ?_)
  refine lv_aload_n hx hb dX2_init_68 rfl (lv_at hl 0 rfl) ?_
  refine lv_bipush (v := nI 60) hx hb dX2_init_69 (by decide) ?_
  refine q_newa (N := 60) hx hb (hts _ (List.mem_of_getElem? (i := 4) rfl)) hK hV hA (by decide) (Nat.le_of_ble_eq_true rfl) (Nat.le_of_ble_eq_true rfl) dX2_init_71 (fun q71 H hV => ?_)
  have hV : qV D A s.heap ([(aa, .inr (2, [.int (nI 0), .ref q7, .int (nI 4), .int (nI 2), .int (nI 10), .ref q31, .ref q39, .int (nI 0), .ref q47, .ref q55, .int (nI 0), .int (nI 0), .int (nI 0), .int (nI 0), .ref q63, .null, .null, .null, .int (nI 0), .long 0])), (q7, aE cA 60 zf), (q31, aE cA 12 zf), (q39, aE cA 12 zf), (q47, aE cA 31 zf), (q55, aE cA 31 zf), (q63, aE cA 60 zf), (q71, aE cA 60 zf)]) H _ := hV
  refine q_putF (C := RX2) (T := TX2) (N := 20) (ci := 2) (v := .ref q71) ([(aa, .inr (2, [.int (nI 0), .ref q7, .int (nI 4), .int (nI 2), .int (nI 10), .ref q31, .ref q39, .int (nI 0), .ref q47, .ref q55, .int (nI 0), .int (nI 0), .int (nI 0), .int (nI 0), .ref q63, .ref q71, .null, .null, .int (nI 0), .long 0])), (q7, aE cA 60 zf), (q31, aE cA 12 zf), (q39, aE cA 12 zf), (q47, aE cA 31 zf), (q55, aE cA 31 zf), (q63, aE cA 60 zf), (q71, aE cA 60 zf)]) hx hb hts hin2 tyX2 tyX2_ok nmX2 hown hK hV 0 rfl rfl 15 (by decide) (List.mem_of_getElem? (i := 14) rfl) rfl hnm rfl rfl rfl (Nat.le_of_ble_eq_true rfl) rfl dX2_init_73 (fun H locs hV => ?_)
  refine lv_aload_n hx hb dX2_init_76 rfl (lv_at hl 0 rfl) ?_
  refine lv_bipush (v := nI 12) hx hb dX2_init_77 (by decide) ?_
  refine q_newa (N := 12) hx hb (hts _ (List.mem_of_getElem? (i := 4) rfl)) hK hV hA (by decide) (Nat.le_of_ble_eq_true rfl) (Nat.le_of_ble_eq_true rfl) dX2_init_79 (fun q79 H hV => ?_)
  have hV : qV D A s.heap ([(aa, .inr (2, [.int (nI 0), .ref q7, .int (nI 4), .int (nI 2), .int (nI 10), .ref q31, .ref q39, .int (nI 0), .ref q47, .ref q55, .int (nI 0), .int (nI 0), .int (nI 0), .int (nI 0), .ref q63, .ref q71, .null, .null, .int (nI 0), .long 0])), (q7, aE cA 60 zf), (q31, aE cA 12 zf), (q39, aE cA 12 zf), (q47, aE cA 31 zf), (q55, aE cA 31 zf), (q63, aE cA 60 zf), (q71, aE cA 60 zf), (q79, aE cA 12 zf)]) H _ := hV
  refine q_putF (C := RX2) (T := TX2) (N := 20) (ci := 2) (v := .ref q79) ([(aa, .inr (2, [.int (nI 0), .ref q7, .int (nI 4), .int (nI 2), .int (nI 10), .ref q31, .ref q39, .int (nI 0), .ref q47, .ref q55, .int (nI 0), .int (nI 0), .int (nI 0), .int (nI 0), .ref q63, .ref q71, .ref q79, .null, .int (nI 0), .long 0])), (q7, aE cA 60 zf), (q31, aE cA 12 zf), (q39, aE cA 12 zf), (q47, aE cA 31 zf), (q55, aE cA 31 zf), (q63, aE cA 60 zf), (q71, aE cA 60 zf), (q79, aE cA 12 zf)]) hx hb hts hin2 tyX2 tyX2_ok nmX2 hown hK hV 0 rfl rfl 16 (by decide) (List.mem_of_getElem? (i := 15) rfl) rfl hnm rfl rfl rfl (Nat.le_of_ble_eq_true rfl) rfl dX2_init_81 (fun H locs hV => ?_)
  refine lv_aload_n hx hb dX2_init_84 rfl (lv_at hl 0 rfl) ?_
  refine lv_bipush (v := nI 60) hx hb dX2_init_85 (by decide) ?_
  refine q_newa (N := 60) hx hb (hts _ (List.mem_of_getElem? (i := 4) rfl)) hK hV hA (by decide) (Nat.le_of_ble_eq_true rfl) (Nat.le_of_ble_eq_true rfl) dX2_init_87 (fun q87 H hV => ?_)
  have hV : qV D A s.heap ([(aa, .inr (2, [.int (nI 0), .ref q7, .int (nI 4), .int (nI 2), .int (nI 10), .ref q31, .ref q39, .int (nI 0), .ref q47, .ref q55, .int (nI 0), .int (nI 0), .int (nI 0), .int (nI 0), .ref q63, .ref q71, .ref q79, .null, .int (nI 0), .long 0])), (q7, aE cA 60 zf), (q31, aE cA 12 zf), (q39, aE cA 12 zf), (q47, aE cA 31 zf), (q55, aE cA 31 zf), (q63, aE cA 60 zf), (q71, aE cA 60 zf), (q79, aE cA 12 zf), (q87, aE cA 60 zf)]) H _ := hV
  refine q_putF (C := RX2) (T := TX2) (N := 20) (ci := 2) (v := .ref q87) ([(aa, .inr (2, [.int (nI 0), .ref q7, .int (nI 4), .int (nI 2), .int (nI 10), .ref q31, .ref q39, .int (nI 0), .ref q47, .ref q55, .int (nI 0), .int (nI 0), .int (nI 0), .int (nI 0), .ref q63, .ref q71, .ref q79, .ref q87, .int (nI 0), .long 0])), (q7, aE cA 60 zf), (q31, aE cA 12 zf), (q39, aE cA 12 zf), (q47, aE cA 31 zf), (q55, aE cA 31 zf), (q63, aE cA 60 zf), (q71, aE cA 60 zf), (q79, aE cA 12 zf), (q87, aE cA 60 zf)]) hx hb hts hin2 tyX2 tyX2_ok nmX2 hown hK hV 0 rfl rfl 17 (by decide) (List.mem_of_getElem? (i := 16) rfl) rfl hnm rfl rfl rfl (Nat.le_of_ble_eq_true rfl) rfl dX2_init_89 (fun H locs hV => ?_)
  refine lv_iconst (v := nI 0) hx hb dX2_init_92 (by decide) ?_
  refine lv_istore_n (lv' := [(1, .int (nI 0)), (0, .ref aa)]) hx hb dX2_init_93 rfl hl (by decide) rfl (fun ls hl => ?_)
  have lp : ∀ (d j : Nat) (H : Heap) (locs : List Loc) (ls : Array Slot), (13 ≤ j + d) → (j ≤ 12) → qV D A s.heap ([(aa, .inr (2, [.int (nI 0), .ref q7, .int (nI 4), .int (nI 2), .int (nI 10), .ref q31, .ref q39, .int (nI 0), .ref q47, .ref q55, .int (nI 0), .int (nI 0), .int (nI 0), .int (nI 0), .ref q63, .ref q71, .ref q79, .ref q87, .int (nI 0), .long 0])), (q7, aE cA 60 zf), (q31, aE cA 12 (idF j)), (q39, aE cA 12 (idF j)), (q47, aE cA 31 zf), (q55, aE cA 31 zf), (q63, aE cA 60 zf), (q71, aE cA 60 zf), (q79, aE cA 12 zf), (q87, aE cA 60 zf)]) H locs → lv_has ls 2 [(0, .ref aa), (1, .int (nI j))] → W p l e rm_X2_init s m ([.ref aa] : List Value).toArray below meth c H locs 9 338 (MQ below (va_Qv (fun W1 => ∃ h : Nat → Nat, h 0 = aa ∧ W1 = (wD h cA 0 zf 4 2 10 (idF 12) (idF 12) 0 zf zf 0 0 0 0 0 0) ++ (wY h cA zf zf zf zf)) (cPost D A) A) ([.ref aa] : List Value).toArray s 9 338 A) (F0 m 94 ls []) := by
    intro d
    induction d with
    | zero => intro j H locs ls hm hj hV hl; exfalso; omega
    | succ d ih =>
      intro j H locs ls hm hj hV hl
      refine lv_iload_n hx hb dX2_init_94 rfl (lv_at hl 1 rfl) ?_
      refine lv_bipush (v := nI 12) hx hb dX2_init_95 (by decide) ?_
      refine q_icmp_ge (x := j) (y := 12) (tgt := 120) hx hb dX2_init_97 (by decide) (by omega) (by omega) (fun c1 => ?_) (fun c1 => ?_)
      · have ej : j = 12 := by omega
        subst ej
        exact q_vret (W1 := (wD (fun i => match i with | 0 => aa | 1 => q7 | 2 => q31 | 3 => q39 | 4 => q47 | 5 => q55 | 6 => q63 | 7 => q71 | 8 => q79 | _ => q87) cA 0 zf 4 2 10 (idF 12) (idF 12) 0 zf zf 0 0 0 0 0 0) ++ (wY (fun i => match i with | 0 => aa | 1 => q7 | 2 => q31 | 3 => q39 | 4 => q47 | 5 => q55 | 6 => q63 | 7 => q71 | 8 => q79 | _ => q87) cA zf zf zf zf)) hx hb hr hlocks hV dX2_init_120 ⟨(fun i => match i with | 0 => aa | 1 => q7 | 2 => q31 | 3 => q39 | 4 => q47 | 5 => q55 | 6 => q63 | 7 => q71 | 8 => q79 | _ => q87), rfl, rfl⟩
      · refine lv_aload_n hx hb dX2_init_100 rfl (lv_at hl 0 rfl) ?_
        refine q_get (C := RX2) (T := TX2) (N := 20) (ci := 2) (v := .ref q31) hx hb hts hin2 hown hK hV 0 rfl rfl 5 (by decide) (List.mem_of_getElem? (i := 9) rfl) rfl dX2_init_101 ?_
        refine lv_iload_n hx hb dX2_init_104 rfl (lv_at hl 1 rfl) ?_
        refine lv_iload_n hx hb dX2_init_105 rfl (lv_at hl 1 rfl) ?_
        refine q_iast (n := 12) (k := j) (v := j) (f := idF j) ([(aa, .inr (2, [.int (nI 0), .ref q7, .int (nI 4), .int (nI 2), .int (nI 10), .ref q31, .ref q39, .int (nI 0), .ref q47, .ref q55, .int (nI 0), .int (nI 0), .int (nI 0), .int (nI 0), .ref q63, .ref q71, .ref q79, .ref q87, .int (nI 0), .long 0])), (q7, aE cA 60 zf), (q31, aE cA 12 (up (idF j) j j)), (q39, aE cA 12 (idF j)), (q47, aE cA 31 zf), (q55, aE cA 31 zf), (q63, aE cA 60 zf), (q71, aE cA 60 zf), (q79, aE cA 12 zf), (q87, aE cA 60 zf)]) hx hb hK hV 2 rfl (by omega) (by decide) rfl dX2_init_106 (fun H locs hV => ?_)
        refine lv_aload_n hx hb dX2_init_107 rfl (lv_at hl 0 rfl) ?_
        refine q_get (C := RX2) (T := TX2) (N := 20) (ci := 2) (v := .ref q39) hx hb hts hin2 hown hK hV 0 rfl rfl 6 (by decide) (List.mem_of_getElem? (i := 10) rfl) rfl dX2_init_108 ?_
        refine lv_iload_n hx hb dX2_init_111 rfl (lv_at hl 1 rfl) ?_
        refine lv_iload_n hx hb dX2_init_112 rfl (lv_at hl 1 rfl) ?_
        refine q_iast (n := 12) (k := j) (v := j) (f := idF j) ([(aa, .inr (2, [.int (nI 0), .ref q7, .int (nI 4), .int (nI 2), .int (nI 10), .ref q31, .ref q39, .int (nI 0), .ref q47, .ref q55, .int (nI 0), .int (nI 0), .int (nI 0), .int (nI 0), .ref q63, .ref q71, .ref q79, .ref q87, .int (nI 0), .long 0])), (q7, aE cA 60 zf), (q31, aE cA 12 (up (idF j) j j)), (q39, aE cA 12 (up (idF j) j j)), (q47, aE cA 31 zf), (q55, aE cA 31 zf), (q63, aE cA 60 zf), (q71, aE cA 60 zf), (q79, aE cA 12 zf), (q87, aE cA 60 zf)]) hx hb hK hV 3 rfl (by omega) (by decide) rfl dX2_init_113 (fun H locs hV => ?_)
        refine q_iinc (x := j) (z := j + 1) (lv' := [(1, .int (nI (j + 1))), (0, .ref aa)]) hx hb dX2_init_114 hl (k := 1) rfl (dd := 1) rfl (by omega) (by decide) rfl (fun ls hl => ?_)
        refine lv_goto (tgt := 94) hx hb dX2_init_117 (by decide) ?_
        exact ih (j + 1) _ _ _ (by omega) (by omega) hV (lv_sub hl [1, 0] rfl)
  exact lp 13 0 _ _ _ (by omega) (by omega) hV (lv_sub hl [1, 0] rfl)
