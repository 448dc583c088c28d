/-! the mathematics: what the class and the reference both compute -/
def clos (C : Nat) (P : Nat → Nat) (a b : Nat) : Nat := if a = b then 0 else (C + 1) - ((P a - P b) + (P b - P a))
def cst (C : Nat) (P tx : Nat → Nat) : Nat → Nat
  | 0 => 0
  | j + 1 => cst C P tx j + clos C P (tx j) (tx (j + 1))
theorem clos_le (C : Nat) (P : Nat → Nat) (a b : Nat) : clos C P a b ≤ C + 1 := by
  unfold clos; split <;> omega
theorem cst_le (C : Nat) (P tx : Nat → Nat) (j : Nat) : cst C P tx j ≤ (C + 1) * j := by
  induction j with
  | zero => simp [cst]
  | succ j ih =>
    have := clos_le C P (tx j) (tx (j + 1))
    simp only [cst, Nat.mul_succ]
    omega
theorem cst_lt {C : Nat} (P tx : Nat → Nat) {j : Nat} (hC : C ≤ 5) (hj : j ≤ 60) : cst C P tx j ≤ 360 := by
  have h1 := cst_le C P tx j
  have h2 : (C + 1) * j ≤ 6 * 60 := Nat.mul_le_mul (by omega) hj
  omega
def exL (L : Nat → Nat) (a b : Nat) : Nat → Nat := up (up L a (L b)) b (L a)
def exP (L P : Nat → Nat) (a b : Nat) : Nat → Nat := up (up P (L b) a) (L a) b
/-- L and P are each other's inverse on the twelve -/
def perm (L P : Nat → Nat) : Prop := ∀ i, i < 12 → L i < 12 ∧ P i < 12 ∧ P (L i) = i ∧ L (P i) = i
theorem perm.L {L P : Nat → Nat} (h : perm L P) {i : Nat} (hi : i < 12) : L i < 12 := (h i hi).1
theorem perm.P {L P : Nat → Nat} (h : perm L P) {i : Nat} (hi : i < 12) : P i < 12 := (h i hi).2.1
theorem perm.PL {L P : Nat → Nat} (h : perm L P) {i : Nat} (hi : i < 12) : P (L i) = i := (h i hi).2.2.1
theorem perm.LP {L P : Nat → Nat} (h : perm L P) {i : Nat} (hi : i < 12) : L (P i) = i := (h i hi).2.2.2
theorem exL_ex (L : Nat → Nat) (a b : Nat) : exL (exL L a b) a b = L := by
  funext k
  simp only [exL, up]
  by_cases h1 : k = b
  · subst h1
    by_cases h2 : a = k
    · subst h2; simp
    · simp [h2]
  · by_cases h2 : k = a
    · subst h2
      simp [h1]
    · simp [h1, h2]
theorem exP_ex {L P : Nat → Nat} (h : perm L P) {a b : Nat} (ha : a < 12) (hb : b < 12) : exP (exL L a b) (exP L P a b) a b = P := by
  have hLa : exL L a b a = L b := by
    simp only [exL, up]
    by_cases h2 : a = b
    · subst h2; simp
    · simp [h2]
  have hLb : exL L a b b = L a := by simp [exL, up]
  have p1 := h.PL ha
  have p2 := h.PL hb
  funext k
  simp only [exP, hLa, hLb, up]
  by_cases h1 : k = L b
  · subst h1; simp [p2]
  · by_cases h2 : k = L a
    · subst h2; simp [h1, p1]
    · simp [h1, h2]
theorem perm.ex {L P : Nat → Nat} (h : perm L P) {a b : Nat} (ha : a < 12) (hb : b < 12) : perm (exL L a b) (exP L P a b) := by
  have hLa := h.L ha
  have hLb := h.L hb
  have pa := h.PL ha
  have pb := h.PL hb
  intro i hi
  have hLi := h.L hi
  have hPi := h.P hi
  have e1 := h.PL hi
  have e2 := h.LP hi
  simp only [exL, exP, up]
  refine ⟨by split <;> (try split) <;> omega, by split <;> (try split) <;> omega, ?_, ?_⟩
  · by_cases h1 : i = b
    · subst h1; simp
    · by_cases h2 : i = a
      · subst h2
        simp only [h1, if_false, if_true]
        by_cases h3 : L b = L i
        · exact absurd (by rw [← pa, ← pb, h3]) h1
        · simp [h3]
      · simp only [h1, h2, if_false]
        have n1 : L i ≠ L a := fun q => h2 (by rw [← e1, ← pa, q])
        have n2 : L i ≠ L b := fun q => h1 (by rw [← e1, ← pb, q])
        simp [n1, n2, e1]
  · by_cases h1 : i = L a
    · subst h1; simp
    · by_cases h2 : i = L b
      · subst h2
        simp only [h1, if_false, if_true]
        by_cases h3 : a = b
        · subst h3; exact absurd rfl h1
        · simp [h3]
      · simp only [h1, h2, if_false]
        have n1 : P i ≠ a := fun q => h1 (by rw [← e2, q])
        have n2 : P i ≠ b := fun q => h2 (by rw [← e2, q])
        simp [n1, n2, e2]
/-- the rows of swaps that can be undone -/
def pshU (u : Nat) : Nat := if u < 30 then u + 1 else 30
def shf (f : Nat → Nat) (j : Nat) : Nat → Nat := fun k => if k < j then f (k + 1) else f k
def pshA (f : Nat → Nat) (u a : Nat) : Nat → Nat := if u < 30 then up f u a else shf (up f 30 a) 30
theorem shf_0 (f : Nat → Nat) : shf f 0 = f := by funext k; simp [shf]
theorem shf_s (f : Nat → Nat) (j : Nat) : up (shf f j) j (f (j + 1)) = shf f (j + 1) := by
  funext k
  simp only [shf, up]
  by_cases h : k = j
  · subst h; simp
  · by_cases h2 : k < j
    · simp [h, h2, Nat.lt_succ_of_lt h2]
    · simp [h, h2, show ¬ k < j + 1 by omega]
theorem shf_at (f : Nat → Nat) (j : Nat) : shf f j (j + 1) = f (j + 1) := by simp only [shf]; rw [if_neg (by omega)]
theorem pshA_lt {f : Nat → Nat} {u a : Nat} (hf : ∀ i, f i < 12) (ha : a < 12) : ∀ i, pshA f u a i < 12 := by
  intro i
  unfold pshA
  split
  · simp only [up]; split
    · exact ha
    · exact hf i
  · simp only [shf, up]
    split <;> split <;> first | exact ha | exact hf _
theorem pshA_cls {f : Nat → Nat} {u a : Nat} (hu : ¬ u < 30) : ∀ j, j < 30 → up (shf f 29) 29 a j = pshA f u a j := by
  intro j hj
  simp only [pshA, if_neg hu, shf, up]
  by_cases h : j = 29
  · subst h; simp
  · simp [h, show j < 29 by omega, hj, show ¬ j + 1 = 30 by omega]
/-- mirror -/
def mir (L P : Nat → Nat) : Nat → (Nat → Nat) × (Nat → Nat)
  | 0 => (L, P)
  | j + 1 => (exL (mir L P j).1 j (11 - j), exP (mir L P j).1 (mir L P j).2 j (11 - j))
theorem perm.mir {L P : Nat → Nat} (h : perm L P) (j : Nat) (hj : j ≤ 6) : perm (mir L P j).1 (mir L P j).2 := by
  induction j with
  | zero => exact h
  | succ j ih => exact (ih (by omega)).ex (by omega) (by omega)
/-- loadLayout -/
def ldL (L tx : Nat → Nat) : Nat → (Nat → Nat)
  | 0 => L
  | j + 1 => up (ldL L tx j) j (tx j)
def ldP (P tx : Nat → Nat) : Nat → (Nat → Nat)
  | 0 => P
  | j + 1 => up (ldP P tx j) (tx j) j
def msk (tx : Nat → Nat) : Nat → Int32
  | 0 => nI 0
  | j + 1 => msk tx j ||| (nI 1 <<< (nI (tx j) &&& 31))
/-- pairCount -/
def prc (tx : Nat → Nat) (a b : Nat) : Nat → Nat
  | 0 => 0
  | j + 1 => prc tx a b j + (if (tx j = a ∧ tx (j + 1) = b) ∨ (tx j = b ∧ tx (j + 1) = a) then 1 else 0)
theorem prc_le (tx : Nat → Nat) (a b j : Nat) : prc tx a b j ≤ j := by
  induction j with
  | zero => simp [prc]
  | succ j ih => simp only [prc]; split <;> omega
/-- bestSwap: (least cost, 100 * low + high or 0) -/
def bstp (k least best after : Nat) : Nat × Nat := if after < least then (after, k) else (least, best)
def bIn (cs : Nat → Nat → Nat) (low : Nat) (s0 : Nat × Nat) : Nat → Nat × Nat
  | 0 => s0
  | j + 1 => bstp (100 * low + (low + j + 1)) (bIn cs low s0 j).1 (bIn cs low s0 j).2 (cs low (low + j + 1))
def bO (cs : Nat → Nat → Nat) (c0 : Nat) : Nat → Nat × Nat
  | 0 => (c0, 0)
  | i + 1 => bIn cs i (bO cs c0 i) (11 - i)
def bV (b : Nat) : Int32 := if b = 0 then -1000006 else nI b
theorem bIn_le (cs : Nat → Nat → Nat) (low : Nat) (s0 : Nat × Nat) (j : Nat) : (bIn cs low s0 j).1 ≤ s0.1 := by
  induction j with
  | zero => simp [bIn]
  | succ j ih => simp only [bIn, bstp]; split <;> simp only <;> omega
theorem bO_le (cs : Nat → Nat → Nat) (c0 i : Nat) : (bO cs c0 i).1 ≤ c0 := by
  induction i with
  | zero => simp [bO]
  | succ i ih => simp only [bO]; exact Nat.le_trans (bIn_le _ _ _ _) ih
/-- a code of a swap: none, or two positions -/
def bOk (b : Nat) : Prop := b = 0 ∨ ∃ x y, x < y ∧ y < 12 ∧ b = 100 * x + y
theorem bIn_ok (cs : Nat → Nat → Nat) {low : Nat} (hl : low < 12) {s0 : Nat × Nat} (h0 : bOk s0.2) (j : Nat) (hj : j ≤ 11 - low) : bOk (bIn cs low s0 j).2 := by
  induction j with
  | zero => exact h0
  | succ j ih =>
    simp only [bIn, bstp]
    split
    · exact Or.inr ⟨low, low + j + 1, by omega, by omega, rfl⟩
    · exact ih (by omega)
theorem bO_ok (cs : Nat → Nat → Nat) (c0 i : Nat) (hi : i ≤ 12) : bOk (bO cs c0 i).2 := by
  induction i with
  | zero => exact Or.inl rfl
  | succ i ih => exact bIn_ok cs (by omega) (ih (by omega)) _ (Nat.le_refl _)
theorem bOk.lt {b : Nat} (h : bOk b) : b < 2000 := by
  rcases h with h | ⟨x, y, h1, h2, h3⟩ <;> omega
def caf (C : Nat) (L P tx : Nat → Nat) (n : Nat) : Nat → Nat → Nat := fun a b => cst C (exP L P a b) tx (n - 1)
def bst (C : Nat) (L P tx : Nat → Nat) (n : Nat) : Nat := (bO (caf C L P tx n) (cst C P tx (n - 1)) 12).2
theorem bst_ok (C : Nat) (L P tx : Nat → Nat) (n : Nat) : bOk (bst C L P tx n) := bO_ok _ _ _ (by omega)
/-- the layout with its swaps, and improve over it -/
abbrev Lay : Type := (Nat → Nat) × (Nat → Nat) × Nat × (Nat → Nat) × (Nat → Nat)
def mks (y : Lay) (a b : Nat) : Lay := (exL y.1 a b, exP y.1 y.2.1 a b, pshU y.2.2.1, pshA y.2.2.2.1 y.2.2.1 a, pshA y.2.2.2.2 y.2.2.1 b)
def lbs (C : Nat) (tx : Nat → Nat) (n : Nat) (y : Lay) : Nat := bst C y.1 y.2.1 tx n
def impr (C : Nat) (tx : Nat → Nat) (n : Nat) : Nat → Lay → Nat × Lay
  | 0, y => (0, y)
  | k + 1, y => if lbs C tx n y = 0 then (0, y) else ((impr C tx n k (mks y (lbs C tx n y / 100) (lbs C tx n y % 100))).1 + 1, (impr C tx n k (mks y (lbs C tx n y / 100) (lbs C tx n y % 100))).2)
/-- worstLetter -/
def prt (C : Nat) (P tx : Nat → Nat) (v : Nat) : Nat → Nat
  | 0 => 0
  | j + 1 => prt C P tx v j + (if tx j = v ∨ tx (j + 1) = v then clos C P (tx j) (tx (j + 1)) else 0)
theorem prt_le (C : Nat) (P tx : Nat → Nat) (v j : Nat) : prt C P tx v j ≤ cst C P tx j := by
  induction j with
  | zero => simp [prt]
  | succ j ih => simp only [prt, cst]; split <;> omega
def wst (C : Nat) (P tx : Nat → Nat) (n : Nat) : Nat → Nat × Nat
  | 0 => (0, 0)
  | v + 1 => if (wst C P tx n v).1 < prt C P tx v (n - 1) then (prt C P tx v (n - 1), v + 1) else wst C P tx n v
def wV (w : Nat) : Int32 := if w = 0 then -1000006 else nI (w - 1)
theorem wst_le {C : Nat} (P tx : Nat → Nat) {n : Nat} (hC : C ≤ 5) (hn : n ≤ 60) (v : Nat) : (wst C P tx n v).1 ≤ 360 := by
  induction v with
  | zero => simp [wst]
  | succ v ih =>
    simp only [wst]
    split
    · exact Nat.le_trans (prt_le _ _ _ _ _) (cst_lt P tx hC (by omega))
    · exact ih
/-- typing: rests by position, the tick of each keystroke, what comes of it -/
def jamF (C p t : Nat) (R : Nat → Nat) : Nat → Nat
  | 0 => 0
  | q + 1 => if q ≤ p + C ∧ p ≤ q + C ∧ t < R q then 1 else jamF C p t R q
def stpR (C p t : Nat) (R : Nat → Nat) : Nat → Nat := fun q => if q < 12 ∧ q ≤ p + C ∧ p ≤ q + C ∧ t < R q then t else R q
theorem jamF_le (C p t : Nat) (R : Nat → Nat) (k : Nat) : jamF C p t R k ≤ 1 := by
  induction k with
  | zero => simp [jamF]
  | succ k ih => simp only [jamF]; split <;> omega
theorem jamF_iff (C p t : Nat) (R : Nat → Nat) (k : Nat) : jamF C p t R k = 1 ↔ ∃ q, q < k ∧ q ≤ p + C ∧ p ≤ q + C ∧ t < R q := by
  induction k with
  | zero => simp [jamF]
  | succ k ih =>
    simp only [jamF]
    split
    · rename_i h
      exact ⟨fun _ => ⟨k, by omega, h⟩, fun _ => rfl⟩
    · rename_i h
      rw [ih]
      constructor
      · rintro ⟨q, h1, h2⟩; exact ⟨q, by omega, h2⟩
      · rintro ⟨q, h1, h2⟩
        refine ⟨q, ?_, h2⟩
        by_cases e : q = k
        · subst e; exact absurd h2 h
        · omega
def oc1 (C t : Nat) (R : Nat → Nat) (p : Nat) : Nat := if t < R p then 2 else if jamF C p t R 12 = 1 then 1 else 0
def rn1 (C T t : Nat) (R : Nat → Nat) (p : Nat) : Nat → Nat := if t < R p then R else if jamF C p t R 12 = 1 then stpR C p t R else up (stpR C p t R) p (t + T)
def tyS (tx P : Nat → Nat) (T C K iv : Nat) : Nat → (Nat → Nat) × Nat
  | 0 => (fun _ => 0, 0)
  | k + 1 => (rn1 C T (tyS tx P T C K iv k).2 (tyS tx P T C K iv k).1 (P (tx k)), (tyS tx P T C K iv k).2 + (if oc1 C (tyS tx P T C K iv k).2 (tyS tx P T C K iv k).1 (P (tx k)) = 1 then iv + K else iv))
def oc (tx P : Nat → Nat) (T C K iv : Nat) (k : Nat) : Nat := oc1 C (tyS tx P T C K iv k).2 (tyS tx P T C K iv k).1 (P (tx k))
theorem oc_le (tx P : Nat → Nat) (T C K iv k : Nat) : oc tx P T C K iv k ≤ 2 := by
  simp only [oc, oc1]; split <;> (try split) <;> omega
theorem stpR_le {C p t : Nat} {R : Nat → Nat} (q : Nat) : stpR C p t R q ≤ R q := by
  simp only [stpR]; split <;> omega
theorem rn1_le {C T t : Nat} {R : Nat → Nat} {p M : Nat} (hR : ∀ q, R q ≤ M) (hM : t + T ≤ M) (q : Nat) : rn1 C T t R p q ≤ M := by
  have h1 := hR q
  have h2 := stpR_le (C := C) (p := p) (t := t) (R := R) q
  simp only [rn1]
  split
  · exact h1
  · split
    · omega
    · simp only [up]; split <;> omega
theorem tyS_le {tx P : Nat → Nat} {T C K iv : Nat} (hT : T ≤ 20) (hK : K ≤ 50) (hi : iv ≤ 30) (k : Nat) : (tyS tx P T C K iv k).2 ≤ 80 * k ∧ ∀ q, (tyS tx P T C K iv k).1 q ≤ 80 * k + 20 := by
  induction k with
  | zero => simp [tyS]
  | succ k ih =>
    obtain ⟨h1, h2⟩ := ih
    refine ⟨?_, ?_⟩
    · simp only [tyS]; split <;> omega
    · intro q
      simp only [tyS]
      exact rn1_le (fun q => by have := h2 q; omega) (by omega) q
def pmF (o : Nat → Nat) : Nat → Nat
  | 0 => 0
  | k + 1 => if o k = 0 then pmF o k + 1 else pmF o k
def jmF (o : Nat → Nat) : Nat → Nat
  | 0 => 0
  | k + 1 => if o k = 1 then jmF o k + 1 else jmF o k
def lmF (o : Nat → Nat) : Nat → Nat
  | 0 => 0
  | k + 1 => if o k = 0 ∨ o k = 1 then lmF o k else lmF o k + 1
def prF (o tx pr : Nat → Nat) : Nat → (Nat → Nat)
  | 0 => pr
  | k + 1 => if o k = 0 then up (prF o tx pr k) (pmF o k) (tx k) else prF o tx pr k
def jaF (o ja : Nat → Nat) : Nat → (Nat → Nat)
  | 0 => ja
  | k + 1 => if o k = 1 then up (jaF o ja k) (jmF o k) k else jaF o ja k
def duF (tx P : Nat → Nat) (T C K iv n : Nat) : Nat := if n = 0 then 0 else (tyS tx P T C K iv (n - 1)).2 + T
theorem pmF_le (o : Nat → Nat) (k : Nat) : pmF o k ≤ k := by
  induction k with
  | zero => simp [pmF]
  | succ k ih => simp only [pmF]; split <;> omega
theorem jmF_le (o : Nat → Nat) (k : Nat) : jmF o k ≤ k := by
  induction k with
  | zero => simp [jmF]
  | succ k ih => simp only [jmF]; split <;> omega
theorem lmF_le (o : Nat → Nat) (k : Nat) : lmF o k ≤ k := by
  induction k with
  | zero => simp [lmF]
  | succ k ih => simp only [lmF]; split <;> omega
def allz (o : Nat → Nat) : Nat → Nat
  | 0 => 1
  | k + 1 => if allz o k = 1 ∧ o k = 0 then 1 else 0
theorem allz_eq (o : Nat → Nat) (k : Nat) : allz o k = if jmF o k + lmF o k = 0 then 1 else 0 := by
  induction k with
  | zero => simp [allz, jmF, lmF]
  | succ k ih =>
    simp only [allz, jmF, lmF, ih]
    by_cases h0 : o k = 0
    · simp [h0]
    · by_cases h1 : o k = 1
      · simp [h1]
      · simp [h0, h1]
/-- safeInterval -/
def sfF (bad : Nat → Nat) : Nat → Nat → Nat
  | 0, _ => 0
  | f + 1, i => if bad i = 0 then i else sfF bad f (i + 1)
def bad (tx P : Nat → Nat) (T C K n : Nat) (iv : Nat) : Nat := jmF (oc tx P T C K iv) n + lmF (oc tx P T C K iv) n
def sfi (tx P : Nat → Nat) (T C K n : Nat) : Nat := sfF (bad tx P T C K n) 30 1
/-- digest -/
def mx (h : Int64) (v : Int64) : Int64 := 31 * h + v
def mxF (h : Int64) (f : Nat → Nat) : Nat → Int64
  | 0 => h
  | k + 1 => mx (mxF h f k) (nI (f k)).toInt64
