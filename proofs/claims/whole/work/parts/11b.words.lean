/-! the reference's own words -/
def wi (v a b : Int32) : Nat := if a.toInt ≤ v.toInt ∧ v.toInt ≤ b.toInt then 1 else 0
theorem wi_le (v a b : Int32) : wi v a b ≤ 1 := by unfold wi; split <;> omega
theorem wi_ok {v : Int32} {lo hi : Nat} (h1 : lo < 2147483648) (h2 : hi < 2147483648) : wi v (nI lo) (nI hi) = okR lo hi v := by unfold wi okR; rw [nI_toInt h1, nI_toInt h2]
theorem wi_ix {v : Int32} {cnt : Nat} (h : cnt ≤ 60) : wi v (nI 0) (nI cnt - nI 1) = okI cnt v := by
  unfold wi okI
  rw [nI_toInt (by omega), pk_sub_toInt (by omega) (by omega)]
  by_cases q : (0 : Int) ≤ v.toInt ∧ v.toInt < (cnt : Int)
  · rw [if_pos q, if_pos (by omega)]
  · rw [if_neg q, if_neg (by omega)]
theorem pshA_ref {f : Nat → Nat} {u a : Nat} (h : ¬ u < 30) (h2 : u ≤ 30) : pshA f u a = shf (up f u a) 30 := by
  have e : u = 30 := by omega
  subst e; exact if_neg h
theorem msk_s (tx : Nat → Nat) (j : Nat) : msk tx (j + 1) = msk tx j ||| (nI 1 <<< (nI (tx j) &&& 31)) := rfl
def imB (C : Nat) (tx : Nat → Nat) (n r : Nat) (y : Lay) : Int32 := if r = 0 then -1000006 else bV (lbs C tx n y)
theorem imB_0 {C n : Nat} {tx : Nat → Nat} {r : Nat} {y : Lay} (h : r = 0) : imB C tx n r y = -1000006 := if_pos h
theorem imB_1 {C n : Nat} {tx : Nat → Nat} {r : Nat} {y : Lay} (h : r ≠ 0) : imB C tx n r y = bV (lbs C tx n y) := if_neg h
theorem imB_end {C n : Nat} {tx : Nat → Nat} {r : Nat} {y : Lay} (h : imB C tx n r y = -1000006) : impr C tx n r y = (0, y) := by
  by_cases e : r = 0
  · subst e; rfl
  · rw [imB_1 e] at h
    exact impr_s0 e (bV_eq (bst_ok _ _ _ _ _) h)
theorem imB_go {C n : Nat} {tx : Nat → Nat} {r : Nat} {y : Lay} (h : imB C tx n r y ≠ -1000006) : r ≠ 0 ∧ lbs C tx n y ≠ 0 ∧ imB C tx n r y = nI (lbs C tx n y) := by
  by_cases e : r = 0
  · exact absurd (imB_0 e) h
  · rw [imB_1 e] at h ⊢
    obtain ⟨h1, h2⟩ := bV_ne h
    exact ⟨e, h1, h2⟩
/-- rests by letter -/
def rsP (R P : Nat → Nat) : Nat → Nat := fun o => R (P o)
theorem rsP_at (R P : Nat → Nat) (o : Nat) : rsP R P o = R (P o) := rfl
def jamL (C a t : Nat) (R P : Nat → Nat) : Nat → Nat
  | 0 => 0
  | o + 1 => if (P o ≤ P a + C ∧ P a ≤ P o + C) ∧ t < R (P o) then 1 else jamL C a t R P o
def stpL (C a t : Nat) (R P : Nat → Nat) (k : Nat) : Nat → Nat := fun o => if o < k ∧ (P o ≤ P a + C ∧ P a ≤ P o + C) ∧ t < R (P o) then t else R (P o)
theorem jamL_le (C a t : Nat) (R P : Nat → Nat) (k : Nat) : jamL C a t R P k ≤ 1 := by
  induction k with
  | zero => simp [jamL]
  | succ k ih => simp only [jamL]; split <;> omega
theorem jamL_iff (C a t : Nat) (R P : Nat → Nat) (k : Nat) : jamL C a t R P k = 1 ↔ ∃ o, o < k ∧ (P o ≤ P a + C ∧ P a ≤ P o + C) ∧ t < R (P o) := by
  induction k with
  | zero => simp [jamL]
  | succ k ih =>
    simp only [jamL]
    split
    · rename_i h
      exact ⟨fun _ => ⟨k, by omega, h⟩, fun _ => rfl⟩
    · rename_i h
      rw [ih]
      constructor
      · rintro ⟨q, h1, h2⟩; exact ⟨q, by omega, h2⟩
      · rintro ⟨q, h1, h2⟩
        refine ⟨q, ?_, h2⟩
        by_cases e : q = k
        · subst e; exact absurd h2 h
        · omega
theorem jamL_F {C a t : Nat} {R L P : Nat → Nat} (hp : perm L P) : jamL C a t R P 12 = jamF C (P a) t R 12 := by
  have h1 := jamL_le C a t R P 12
  have h2 := jamF_le C (P a) t R 12
  have h3 : jamL C a t R P 12 = 1 ↔ jamF C (P a) t R 12 = 1 := by
    rw [jamL_iff, jamF_iff]
    constructor
    · rintro ⟨o, h1, h2, h3⟩; exact ⟨P o, hp.P h1, h2.1, h2.2, h3⟩
    · rintro ⟨q, h1, h2, h3, h4⟩
      have e := hp.PL h1
      exact ⟨L q, hp.L h1, by rw [e]; exact ⟨h2, h3⟩, by rw [e]; exact h4⟩
  omega
theorem stpL_0 (C a t : Nat) (R P : Nat → Nat) : stpL C a t R P 0 = rsP R P := by
  funext o; simp [stpL, rsP]
theorem stpL_at {C a t : Nat} {R P : Nat → Nat} {k : Nat} : stpL C a t R P k k = R (P k) := by
  simp only [stpL]; rw [if_neg (by omega)]
theorem stpL_le {C a t : Nat} {R P : Nat → Nat} {k o : Nat} : stpL C a t R P k o ≤ R (P o) := by
  simp only [stpL]; split <;> omega
theorem stpL_s1 {C a t : Nat} {R P : Nat → Nat} {k : Nat} (h : (P k ≤ P a + C ∧ P a ≤ P k + C) ∧ t < R (P k)) : stpL C a t R P (k + 1) = up (stpL C a t R P k) k t := by
  funext q
  simp only [stpL, up]
  by_cases e : q = k
  · subst e; rw [if_pos ⟨by omega, h⟩, if_pos rfl]
  · rw [if_neg e]
    by_cases w : q < k ∧ (P q ≤ P a + C ∧ P a ≤ P q + C) ∧ t < R (P q)
    · rw [if_pos w, if_pos ⟨by omega, w.2⟩]
    · rw [if_neg w, if_neg (fun z => w ⟨by omega, z.2⟩)]
theorem stpL_s0 {C a t : Nat} {R P : Nat → Nat} {k : Nat} (h : ¬ ((P k ≤ P a + C ∧ P a ≤ P k + C) ∧ t < R (P k))) : stpL C a t R P (k + 1) = stpL C a t R P k := by
  funext q
  simp only [stpL]
  by_cases w : q < k ∧ (P q ≤ P a + C ∧ P a ≤ P q + C) ∧ t < R (P q)
  · rw [if_pos w, if_pos ⟨by omega, w.2⟩]
  · rw [if_neg w, if_neg (fun z => ?_)]
    by_cases e : q = k
    · subst e; exact h z.2
    · exact w ⟨by omega, z.2⟩
theorem stpL_R {C a t : Nat} {R L P : Nat → Nat} (hp : perm L P) : ∀ o, o < 12 → stpL C a t R P 12 o = rsP (stpR C (P a) t R) P o := by
  intro o ho
  have h1 := hp.P ho
  simp only [stpL, rsP, stpR]
  by_cases w : (P o ≤ P a + C ∧ P a ≤ P o + C) ∧ t < R (P o)
  · rw [if_pos ⟨ho, w⟩, if_pos ⟨h1, w.1.1, w.1.2, w.2⟩]
  · rw [if_neg (fun z => w z.2), if_neg (fun z => w ⟨⟨z.2.1, z.2.2.1⟩, z.2.2.2⟩)]
theorem rsP_up {a v : Nat} {R L P : Nat → Nat} (hp : perm L P) (ha : a < 12) : ∀ o, o < 12 → up (rsP R P) a v o = rsP (up R (P a) v) P o := by
  intro o ho
  simp only [up, rsP]
  by_cases e : o = a
  · subst e; rw [if_pos rfl, if_pos rfl]
  · rw [if_neg e, if_neg (fun q => e (by rw [← hp.LP ho, ← hp.LP ha, q]))]
/-- outcomes, one by one -/
def osF (o os : Nat → Nat) : Nat → (Nat → Nat)
  | 0 => os
  | j + 1 => up (osF o os j) j (o j)
theorem osF_at (o os : Nat → Nat) (j i : Nat) (h : i < j) : osF o os j i = o i := by
  induction j with
  | zero => omega
  | succ j ih =>
    simp only [osF, up]
    split
    · rename_i e; subst e; rfl
    · exact ih (by omega)
theorem tyS_oc1 {tx P : Nat → Nat} {T C K iv j : Nat} (hj : j ≠ 0) (h : oc tx P T C K iv (j - 1) = 1) : (tyS tx P T C K iv j).2 = (tyS tx P T C K iv (j - 1)).2 + (iv + K) := by
  obtain ⟨i, rfl⟩ : ∃ i, j = i + 1 := ⟨j - 1, by omega⟩
  rw [Nat.add_sub_cancel] at h ⊢
  exact tyS_s1 h
theorem tyS_oc0 {tx P : Nat → Nat} {T C K iv j : Nat} (hj : j ≠ 0) (h : oc tx P T C K iv (j - 1) ≠ 1) : (tyS tx P T C K iv j).2 = (tyS tx P T C K iv (j - 1)).2 + iv := by
  obtain ⟨i, rfl⟩ : ∃ i, j = i + 1 := ⟨j - 1, by omega⟩
  rw [Nat.add_sub_cancel] at h ⊢
  exact tyS_s0 h
theorem pmF_0 {o : Nat → Nat} {j : Nat} (h : o j = 0) : pmF o (j + 1) = pmF o j + 1 := if_pos h
theorem pmF_n {o : Nat → Nat} {j : Nat} (h : o j ≠ 0) : pmF o (j + 1) = pmF o j := if_neg h
theorem jmF_1 {o : Nat → Nat} {j : Nat} (h : o j = 1) : jmF o (j + 1) = jmF o j + 1 := if_pos h
theorem jmF_n {o : Nat → Nat} {j : Nat} (h : o j ≠ 1) : jmF o (j + 1) = jmF o j := if_neg h
theorem lmF_01 {o : Nat → Nat} {j : Nat} (h : o j = 0 ∨ o j = 1) : lmF o (j + 1) = lmF o j := if_pos h
theorem lmF_n {o : Nat → Nat} {j : Nat} (h : ¬ (o j = 0 ∨ o j = 1)) : lmF o (j + 1) = lmF o j + 1 := if_neg h
theorem prF_0 {o tx pr : Nat → Nat} {j : Nat} (h : o j = 0) : prF o tx pr (j + 1) = up (prF o tx pr j) (pmF o j) (tx j) := if_pos h
theorem prF_n {o tx pr : Nat → Nat} {j : Nat} (h : o j ≠ 0) : prF o tx pr (j + 1) = prF o tx pr j := if_neg h
theorem jaF_1 {o ja : Nat → Nat} {j : Nat} (h : o j = 1) : jaF o ja (j + 1) = up (jaF o ja j) (jmF o j) j := if_pos h
theorem jaF_n {o ja : Nat → Nat} {j : Nat} (h : o j ≠ 1) : jaF o ja (j + 1) = jaF o ja j := if_neg h
theorem allz_1 {o : Nat → Nat} {j : Nat} (h : allz o j = 1 ∧ o j = 0) : allz o (j + 1) = 1 := if_pos h
theorem allz_0 {o : Nat → Nat} {j : Nat} (h : ¬ (allz o j = 1 ∧ o j = 0)) : allz o (j + 1) = 0 := if_neg h
theorem allz_le (o : Nat → Nat) (j : Nat) : allz o j ≤ 1 := by
  cases j with
  | zero => simp [allz]
  | succ j => simp only [allz]; split <;> omega
theorem allz_bad {tx P : Nat → Nat} {T C K n iv : Nat} : allz (oc tx P T C K iv) n = if bad tx P T C K n iv = 0 then 1 else 0 := allz_eq _ _
