/-! typing: what a stroke does, and a whole text -/
theorem oc1_2 {C t p : Nat} {R : Nat → Nat} (h : t < R p) : oc1 C t R p = 2 := if_pos h
theorem oc1_1 {C t p : Nat} {R : Nat → Nat} (h : ¬ t < R p) (h2 : jamF C p t R 12 = 1) : oc1 C t R p = 1 := by unfold oc1; rw [if_neg h, if_pos h2]
theorem oc1_0 {C t p : Nat} {R : Nat → Nat} (h : ¬ t < R p) (h2 : ¬ jamF C p t R 12 = 1) : oc1 C t R p = 0 := by unfold oc1; rw [if_neg h, if_neg h2]
theorem rn1_2 {C T t p : Nat} {R : Nat → Nat} (h : t < R p) : rn1 C T t R p = R := if_pos h
theorem rn1_1 {C T t p : Nat} {R : Nat → Nat} (h : ¬ t < R p) (h2 : jamF C p t R 12 = 1) : rn1 C T t R p = stpR C p t R := by unfold rn1; rw [if_neg h, if_pos h2]
theorem rn1_0 {C T t p : Nat} {R : Nat → Nat} (h : ¬ t < R p) (h2 : ¬ jamF C p t R 12 = 1) : rn1 C T t R p = up (stpR C p t R) p (t + T) := by unfold rn1; rw [if_neg h, if_neg h2]
theorem duF_s (tx P : Nat → Nat) (T C K iv j : Nat) : duF tx P T C K iv (j + 1) = (tyS tx P T C K iv j).2 + T := by unfold duF; rw [if_neg (by omega), Nat.add_sub_cancel]
theorem tyS_s1 {tx P : Nat → Nat} {T C K iv j : Nat} (h : oc1 C (tyS tx P T C K iv j).2 (tyS tx P T C K iv j).1 (P (tx j)) = 1) : (tyS tx P T C K iv (j + 1)).2 = (tyS tx P T C K iv j).2 + (iv + K) := by
  show (tyS tx P T C K iv j).2 + _ = _
  rw [if_pos h]
theorem tyS_s0 {tx P : Nat → Nat} {T C K iv j : Nat} (h : ¬ oc1 C (tyS tx P T C K iv j).2 (tyS tx P T C K iv j).1 (P (tx j)) = 1) : (tyS tx P T C K iv (j + 1)).2 = (tyS tx P T C K iv j).2 + iv := by
  show (tyS tx P T C K iv j).2 + _ = _
  rw [if_neg h]
abbrev Rn : Type := Nat × Nat × Nat × Nat × (Nat → Nat) × (Nat → Nat)
def rnF (tx P : Nat → Nat) (T C K n iv : Nat) (z : Rn) : Rn := (pmF (oc tx P T C K iv) n, jmF (oc tx P T C K iv) n, lmF (oc tx P T C K iv) n, duF tx P T C K iv n, prF (oc tx P T C K iv) tx z.2.2.2.2.1 n, jaF (oc tx P T C K iv) z.2.2.2.2.2 n)
def yRn (tx P : Nat → Nat) (T C K n : Nat) (v : Int32) (z : Rn) : Rn := if okR 1 30 v = 1 then rnF tx P T C K n (iN v) z else z
def aRn (tx P : Nat → Nat) (T C K n : Nat) (v : Int32) : Int32 := if okR 1 30 v = 1 then nI (pmF (oc tx P T C K (iN v)) n) else -1000003
theorem yRn_ok {tx P : Nat → Nat} {T C K n k : Nat} {z : Rn} (h1 : 1 ≤ k) (h2 : k ≤ 30) : yRn tx P T C K n (nI k) z = rnF tx P T C K n k z := by unfold yRn; rw [okR_k h1 h2 (by omega), if_pos rfl, iN_nI (by omega)]
theorem aRn_ok {tx P : Nat → Nat} {T C K n k : Nat} (h1 : 1 ≤ k) (h2 : k ≤ 30) : aRn tx P T C K n (nI k) = nI (pmF (oc tx P T C K k) n) := by unfold aRn; rw [okR_k h1 h2 (by omega), if_pos rfl, iN_nI (by omega)]
theorem yRn_no {tx P : Nat → Nat} {T C K n : Nat} {z : Rn} {v : Int32} (h : okR 1 30 v = 0) : yRn tx P T C K n v z = z := by unfold yRn; rw [h, if_neg (by omega)]
theorem aRn_no {tx P : Nat → Nat} {T C K n : Nat} {v : Int32} (h : okR 1 30 v = 0) : aRn tx P T C K n v = -1000003 := by unfold aRn; rw [h, if_neg (by omega)]
def okI (cnt : Nat) (v : Int32) : Nat := if 0 ≤ v.toInt ∧ v.toInt < (cnt : Int) then 1 else 0
def aIx (cnt : Nat) (f : Nat → Nat) (v : Int32) : Int32 := if okI cnt v = 1 then nI (f (iN v)) else -1000006
theorem okI_le (cnt : Nat) (v : Int32) : okI cnt v ≤ 1 := by unfold okI; split <;> omega
theorem aIx_ok {cnt k : Nat} {f : Nat → Nat} (h : k < cnt) (hc : cnt < 2147483648) : aIx cnt f (nI k) = nI (f k) := by
  unfold aIx okI; rw [nI_toInt (by omega), iN_nI (by omega), if_pos (show (0 : Int) ≤ (k : Int) ∧ (k : Int) < (cnt : Int) by omega), if_pos rfl]
theorem aIx_no {cnt : Nat} {f : Nat → Nat} {v : Int32} (h : v.toInt < 0 ∨ (cnt : Int) ≤ v.toInt) : aIx cnt f v = -1000006 := by
  unfold aIx okI; rw [if_neg (show ¬ ((0 : Int) ≤ v.toInt ∧ v.toInt < (cnt : Int)) by omega), if_neg (by omega)]
theorem okI_g {cnt : Nat} {v : Int32} (h1 : 0 ≤ v.toInt) (h2 : v.toInt < (cnt : Int)) : ∃ k, k < cnt ∧ v = nI k := by
  obtain ⟨j, hj, rfl⟩ := nI_of (x := v) (by rw [Int32.lt_iff_toInt_lt, Int32.toInt_zero]; omega)
  rw [nI_toInt hj] at h2
  exact ⟨j, by omega, rfl⟩
theorem okI_1 {cnt : Nat} {v : Int32} (h : okI cnt v ≠ 0) : ∃ k, k < cnt ∧ v = nI k := by
  unfold okI at h
  split at h
  · rename_i q; exact okI_g q.1 q.2
  · exact absurd rfl h
theorem okI_0 {cnt : Nat} {v : Int32} (h : okI cnt v = 0) : v.toInt < 0 ∨ (cnt : Int) ≤ v.toInt := by
  unfold okI at h
  split at h
  · exact absurd h (by omega)
  · omega
def dgst (tx P L : Nat → Nat) (n T C K u pm jm lm du : Nat) (pr ja : Nat → Nat) : Int64 := mxF (mxF (mx (mx (mx (mx (mx (mx (mx (mx (mx (mxF (mx (mx (mx (mxF (mx 1783 (nI n).toInt64) tx n) (nI T).toInt64) (nI C).toInt64) (nI K).toInt64) L 12) (nI u).toInt64) (nI (cst C P tx (n - 1))).toInt64) (bV (bst C L P tx n)).toInt64) (wV (wst C P tx n 12).2).toInt64) (bV (sfi tx P T C K n)).toInt64) (nI jm).toInt64) (nI lm).toInt64) (nI du).toInt64) (nI pm).toInt64) pr pm) ja jm
theorem sfF_s {bd : Nat → Nat} {i : Nat} (hi : i ≤ 30) : sfF bd (31 - i) i = if bd i = 0 then i else sfF bd (31 - (i + 1)) (i + 1) := by
  rw [show 31 - i = (31 - (i + 1)) + 1 by omega]; rfl
