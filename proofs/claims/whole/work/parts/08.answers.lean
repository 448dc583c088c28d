/-! the answers, of any ints -/
theorem okR_k {lo hi k : Nat} (h1 : lo ≤ k) (h2 : k ≤ hi) (h3 : hi < 2147483648) : okR lo hi (nI k) = 1 := by
  rw [okR_nI (by omega), if_pos ⟨h1, h2⟩]
theorem okR_g {lo hi : Nat} {v : Int32} (hh : hi < 2147483648) (h1 : (lo : Int) ≤ v.toInt) (h2 : v.toInt ≤ (hi : Int)) : ∃ k, lo ≤ k ∧ k ≤ hi ∧ v = nI k := okR_1 hh (by rw [okR_of h1 h2]; omega)
def aApp (n : Nat) (v : Int32) : Int32 := if okR 97 108 v = 1 then (if n < 60 then nI (n + 1) else -1000002) else -1000001
def nApp (n : Nat) (v : Int32) : Nat := if okR 97 108 v = 1 then (if n < 60 then n + 1 else n) else n
def tApp (n : Nat) (tx : Nat → Nat) (v : Int32) : Nat → Nat := if okR 97 108 v = 1 then (if n < 60 then up tx n (iN v - 97) else tx) else tx
def aPair (n : Nat) (tx : Nat → Nat) (v w : Int32) : Int32 := if okR 0 11 v = 1 ∧ okR 0 11 w = 1 then nI (prc tx (iN v) (iN w) (n - 1)) else -1000003
theorem aPair_ok {n : Nat} {tx : Nat → Nat} {a b : Nat} (ha : a ≤ 11) (hb : b ≤ 11) : aPair n tx (nI a) (nI b) = nI (prc tx a b (n - 1)) := by
  unfold aPair
  rw [okR_k (Nat.zero_le _) ha (by omega), okR_k (Nat.zero_le _) hb (by omega), iN_nI (by omega), iN_nI (by omega), if_pos ⟨rfl, rfl⟩]
theorem aPair_no {n : Nat} {tx : Nat → Nat} {v w : Int32} (h : okR 0 11 v = 0 ∨ okR 0 11 w = 0) : aPair n tx v w = -1000003 := by
  unfold aPair; rw [if_neg (by omega)]
/-- a number that is set: the old one is the answer -/
def aSet (lo hi x : Nat) (v : Int32) : Int32 := if okR lo hi v = 1 then nI x else -1000003
def nSet (lo hi x : Nat) (v : Int32) : Nat := if okR lo hi v = 1 then iN v else x
theorem aSet_ok {lo hi x k : Nat} (h1 : lo ≤ k) (h2 : k ≤ hi) (h3 : hi < 2147483648) : aSet lo hi x (nI k) = nI x := by unfold aSet; rw [okR_k h1 h2 h3, if_pos rfl]
theorem nSet_ok {lo hi x k : Nat} (h1 : lo ≤ k) (h2 : k ≤ hi) (h3 : hi < 2147483648) : nSet lo hi x (nI k) = k := by unfold nSet; rw [okR_k h1 h2 h3, if_pos rfl, iN_nI (by omega)]
theorem aSet_no {lo hi x : Nat} {v : Int32} (h : okR lo hi v = 0) : aSet lo hi x v = -1000003 := by unfold aSet; rw [h, if_neg (by omega)]
theorem nSet_no {lo hi x : Nat} {v : Int32} (h : okR lo hi v = 0) : nSet lo hi x v = x := by unfold nSet; rw [h, if_neg (by omega)]
def isLy (n : Nat) (tx : Nat → Nat) : Nat := if n = 12 ∧ msk tx 12 = nI 4095 then 1 else 0
theorem isLy_le (n : Nat) (tx : Nat → Nat) : isLy n tx ≤ 1 := by unfold isLy; split <;> omega
def aLd (n : Nat) (tx : Nat → Nat) : Int32 := if isLy n tx = 1 then nI 12 else -1000004
def nLd (n : Nat) (tx : Nat → Nat) : Nat := if isLy n tx = 1 then 0 else n
def yLd (n : Nat) (tx : Nat → Nat) (y : Lay) : Lay := if isLy n tx = 1 then (ldL y.1 tx 12, ldP y.2.1 tx 12, 0, y.2.2.2.1, y.2.2.2.2) else y
/-- what stands at a place of the twelve -/
def aAt (f : Nat → Nat) (v : Int32) : Int32 := if okR 0 11 v = 1 then nI (f (iN v)) else -1000003
theorem aAt_ok {f : Nat → Nat} {k : Nat} (h : k ≤ 11) : aAt f (nI k) = nI (f k) := by unfold aAt; rw [okR_k (Nat.zero_le _) h (by omega), if_pos rfl, iN_nI (by omega)]
theorem aAt_no {f : Nat → Nat} {v : Int32} (h : okR 0 11 v = 0) : aAt f v = -1000003 := by unfold aAt; rw [h, if_neg (by omega)]
def swErr (v w : Int32) : Int32 := if okR 0 11 v = 1 ∧ okR 0 11 w = 1 then (if iN v = iN w then -1000005 else 0) else -1000003
theorem swErr_no {v w : Int32} (h : okR 0 11 v = 0 ∨ okR 0 11 w = 0) : swErr v w = -1000003 := by unfold swErr; rw [if_neg (by omega)]
theorem swErr_ok {a b : Nat} (ha : a ≤ 11) (hb : b ≤ 11) : swErr (nI a) (nI b) = if a = b then -1000005 else 0 := by
  unfold swErr
  rw [okR_k (Nat.zero_le _) ha (by omega), okR_k (Nat.zero_le _) hb (by omega), iN_nI (by omega), iN_nI (by omega), if_pos ⟨rfl, rfl⟩]
theorem swErr_0 {v w : Int32} (h : swErr v w = 0) : ∃ a b, a < 12 ∧ b < 12 ∧ a ≠ b ∧ v = nI a ∧ w = nI b := by
  have h1 := okR_le 0 11 v
  have h2 := okR_le 0 11 w
  by_cases c1 : okR 0 11 v = 0 ∨ okR 0 11 w = 0
  · rw [swErr_no c1] at h; exact absurd h (by decide)
  · obtain ⟨a, -, ha, rfl⟩ := okR_1 (lo := 0) (hi := 11) (v := v) (by decide) (by omega)
    obtain ⟨b, -, hb, rfl⟩ := okR_1 (lo := 0) (hi := 11) (v := w) (by decide) (by omega)
    rw [swErr_ok ha hb] at h
    by_cases e : a = b
    · rw [if_pos e] at h; exact absurd h (by decide)
    · exact ⟨a, b, by omega, by omega, e, rfl, rfl⟩
def ySw (v w : Int32) (y : Lay) : Lay := if swErr v w = 0 then mks y (iN v) (iN w) else y
def aSw (C : Nat) (tx : Nat → Nat) (n : Nat) (v w : Int32) (y : Lay) : Int32 := if swErr v w = 0 then nI (cst C (mks y (iN v) (iN w)).2.1 tx (n - 1)) else swErr v w
theorem ySw_ok {a b : Nat} (ha : a < 12) (hb : b < 12) (hab : a ≠ b) (y : Lay) : ySw (nI a) (nI b) y = mks y a b := by
  unfold ySw; rw [swErr_ok (by omega) (by omega), if_neg hab, if_pos rfl, iN_nI (by omega), iN_nI (by omega)]
theorem ySw_no {v w : Int32} (h : swErr v w ≠ 0) (y : Lay) : ySw v w y = y := if_neg h
theorem aSw_ok {C n : Nat} {tx : Nat → Nat} {a b : Nat} (ha : a < 12) (hb : b < 12) (hab : a ≠ b) (y : Lay) : aSw C tx n (nI a) (nI b) y = nI (cst C (exP y.1 y.2.1 a b) tx (n - 1)) := by
  unfold aSw; rw [swErr_ok (by omega) (by omega), if_neg hab, if_pos rfl, iN_nI (by omega), iN_nI (by omega)]; rfl
theorem aSw_no {C n : Nat} {tx : Nat → Nat} {v w : Int32} (h : swErr v w ≠ 0) (y : Lay) : aSw C tx n v w y = swErr v w := if_neg h
def yUn (y : Lay) : Lay := if y.2.2.1 = 0 then y else (exL y.1 (y.2.2.2.1 (y.2.2.1 - 1)) (y.2.2.2.2 (y.2.2.1 - 1)), exP y.1 y.2.1 (y.2.2.2.1 (y.2.2.1 - 1)) (y.2.2.2.2 (y.2.2.1 - 1)), y.2.2.1 - 1, y.2.2.2.1, y.2.2.2.2)
def aUn (C : Nat) (tx : Nat → Nat) (n : Nat) (y : Lay) : Int32 := if y.2.2.1 = 0 then -1000006 else nI (cst C (yUn y).2.1 tx (n - 1))
def aGn (C : Nat) (L P tx : Nat → Nat) (n : Nat) (v w : Int32) : Int32 := if swErr v w = 0 then nI (cst C P tx (n - 1)) - nI (caf C L P tx n (iN v) (iN w)) else swErr v w
theorem aGn_ok {C n : Nat} {L P tx : Nat → Nat} {a b : Nat} (ha : a < 12) (hb : b < 12) (hab : a ≠ b) : aGn C L P tx n (nI a) (nI b) = nI (cst C P tx (n - 1)) - nI (caf C L P tx n a b) := by
  unfold aGn; rw [swErr_ok (by omega) (by omega), if_neg hab, if_pos rfl, iN_nI (by omega), iN_nI (by omega)]
theorem aGn_no {C n : Nat} {L P tx : Nat → Nat} {v w : Int32} (h : swErr v w ≠ 0) : aGn C L P tx n v w = swErr v w := if_neg h
theorem caf_le {C n : Nat} (L P tx : Nat → Nat) (a b : Nat) (hC : C ≤ 5) (hn : n ≤ 60) : caf C L P tx n a b ≤ 360 := cst_lt _ _ hC (by omega)
theorem bV_ne {b : Nat} (h : bV b ≠ -1000006) : b ≠ 0 ∧ bV b = nI b := by
  unfold bV at h ⊢
  by_cases e : b = 0
  · rw [if_pos e] at h; exact absurd rfl h
  · rw [if_neg e]; exact ⟨e, rfl⟩
theorem bV_eq {b : Nat} (hb : bOk b) (h : bV b = -1000006) : b = 0 := by
  by_cases e : b = 0
  · exact e
  · unfold bV at h
    rw [if_neg e] at h
    have := hb.lt
    have h2 : (nI b).toInt = (-1000006 : Int32).toInt := by rw [h]
    rw [nI_toInt (by omega)] at h2
    exact absurd h2 (by have : (-1000006 : Int32).toInt = -1000006 := rfl; omega)
theorem bV_nI {b : Nat} (h : b ≠ 0) : bV b = nI b := if_neg h
theorem bOk.dm {b : Nat} (h : bOk b) (h0 : b ≠ 0) : b / 100 < 12 ∧ b % 100 < 12 ∧ b / 100 ≠ b % 100 := by
  rcases h with h | ⟨x, y, h1, h2, h3⟩
  · exact absurd h h0
  · subst h3; omega
def yIm (C : Nat) (tx : Nat → Nat) (n : Nat) (v : Int32) (y : Lay) : Lay := if okR 0 100 v = 1 then (impr C tx n (iN v) y).2 else y
def aIm (C : Nat) (tx : Nat → Nat) (n : Nat) (v : Int32) (y : Lay) : Int32 := if okR 0 100 v = 1 then nI (impr C tx n (iN v) y).1 else -1000003
theorem yIm_ok {C n k : Nat} {tx : Nat → Nat} {y : Lay} (h : k ≤ 100) : yIm C tx n (nI k) y = (impr C tx n k y).2 := by unfold yIm; rw [okR_k (Nat.zero_le _) h (by omega), if_pos rfl, iN_nI (by omega)]
theorem aIm_ok {C n k : Nat} {tx : Nat → Nat} {y : Lay} (h : k ≤ 100) : aIm C tx n (nI k) y = nI (impr C tx n k y).1 := by unfold aIm; rw [okR_k (Nat.zero_le _) h (by omega), if_pos rfl, iN_nI (by omega)]
theorem yIm_no {C n : Nat} {tx : Nat → Nat} {y : Lay} {v : Int32} (h : okR 0 100 v = 0) : yIm C tx n v y = y := by unfold yIm; rw [h, if_neg (by omega)]
theorem aIm_no {C n : Nat} {tx : Nat → Nat} {y : Lay} {v : Int32} (h : okR 0 100 v = 0) : aIm C tx n v y = -1000003 := by unfold aIm; rw [h, if_neg (by omega)]
theorem impr_s0 {C n k : Nat} {tx : Nat → Nat} {y : Lay} (hk : k ≠ 0) (h : lbs C tx n y = 0) : impr C tx n k y = (0, y) := by
  obtain ⟨j, rfl⟩ : ∃ j, k = j + 1 := ⟨k - 1, by omega⟩
  simp only [impr, if_pos h]
theorem impr_s1 {C n k : Nat} {tx : Nat → Nat} {y : Lay} (hk : k ≠ 0) (h : lbs C tx n y ≠ 0) : impr C tx n k y = ((impr C tx n (k - 1) (mks y (lbs C tx n y / 100) (lbs C tx n y % 100))).1 + 1, (impr C tx n (k - 1) (mks y (lbs C tx n y / 100) (lbs C tx n y % 100))).2) := by
  obtain ⟨j, rfl⟩ : ∃ j, k = j + 1 := ⟨k - 1, by omega⟩
  simp only [impr, if_neg h, Nat.add_sub_cancel]
theorem pshU_le (u : Nat) (h : u ≤ 30) : pshU u ≤ 30 := by unfold pshU; split <;> omega
theorem mir_step (L P : Nat → Nat) (j : Nat) : mir L P (j + 1) = (exL (mir L P j).1 j (11 - j), exP (mir L P j).1 (mir L P j).2 j (11 - j)) := rfl
