/-! what holds between the calls -/
theorem and31 (x : Int32) : ∃ q, q < 32 ∧ x &&& nI 31 = nI q := by
  refine ⟨(x &&& nI 31).toBitVec.toNat, ?_, ?_⟩
  · rw [Int32.toBitVec_and, BitVec.toNat_and]
    have h : (nI 31).toBitVec.toNat = 31 := by decide
    rw [h]
    exact Nat.lt_of_le_of_lt Nat.and_le_right (by decide)
  · apply Int32.toBitVec_inj.1
    simp [nI]
theorem lg_cmp_self (x : Int64) : lg_cmp x x = 0 := by
  unfold lg_cmp
  rw [if_neg (by simp), if_pos rfl]
/-- no m numbers meet m + 1 -/
theorem nosurj (m : Nat) : ∀ f : Nat → Nat, ¬ (∀ v, v < m + 1 → ∃ i, i < m ∧ f i = v) := by
  induction m with
  | zero =>
    intro f h
    obtain ⟨i, hi, -⟩ := h 0 (by omega)
    omega
  | succ m ih =>
    intro f h
    obtain ⟨i0, hi0, hf0⟩ := h (m + 1) (by omega)
    refine ih (fun i => if i < i0 then f i else f (i + 1)) (fun v hv => ?_)
    obtain ⟨i, hi, hf⟩ := h v (by omega)
    by_cases h1 : i < i0
    · exact ⟨i, by omega, by simp only [if_pos h1]; exact hf⟩
    · have h2 : i ≠ i0 := fun e => by rw [e, hf0] at hf; omega
      refine ⟨i - 1, by omega, ?_⟩
      show (if i - 1 < i0 then f (i - 1) else f (i - 1 + 1)) = v
      rw [if_neg (by omega), show i - 1 + 1 = i by omega]
      exact hf
theorem surj_inj (f : Nat → Nat) (h : ∀ v, v < 12 → ∃ i, i < 12 ∧ f i = v) : ∀ i j, i < 12 → j < 12 → f i = f j → i = j := by
  have key : ∀ i j, i < j → j < 12 → f i ≠ f j := by
    intro i j hij hj e
    refine nosurj 11 (fun q => if q < j then f q else f (q + 1)) (fun v hv => ?_)
    obtain ⟨q, hq, hf⟩ := h v (by omega)
    by_cases h1 : q < j
    · exact ⟨q, by omega, by simp only [if_pos h1]; exact hf⟩
    · by_cases h2 : q = j
      · exact ⟨i, by omega, by simp only [if_pos hij]; rw [e, ← h2]; exact hf⟩
      · refine ⟨q - 1, by omega, ?_⟩
        show (if q - 1 < j then f (q - 1) else f (q - 1 + 1)) = v
        rw [if_neg (by omega), show q - 1 + 1 = q by omega]
        exact hf
  intro i j hi hj e
  rcases Nat.lt_trichotomy i j with w | w | w
  · exact absurd e (key i j w hj)
  · exact w
  · exact absurd e.symm (key j i w hi)
theorem bit_off : ∀ t, t < 12 → ∀ v, v < 12 → t ≠ v → (nI 1 <<< (nI t &&& 31)) &&& nI (2 ^ v) = 0 := by decide +kernel
theorem bit_all : ∀ v, v < 12 → ¬ nI 4095 &&& nI (2 ^ v) = 0 := by decide +kernel
theorem or_and (a b d : Int32) : (a ||| b) &&& d = (a &&& d) ||| (b &&& d) := by
  apply Int32.toBitVec_inj.1
  simp only [Int32.toBitVec_and, Int32.toBitVec_or]
  ext i hi
  simp only [BitVec.getElem_and, BitVec.getElem_or]
  cases a.toBitVec[i] <;> cases b.toBitVec[i] <;> cases d.toBitVec[i] <;> rfl
theorem msk_off {tx : Nat → Nat} (htx : ∀ i, tx i < 12) {v : Nat} (hv : v < 12) (j : Nat) (h : ∀ i, i < j → tx i ≠ v) : msk tx j &&& nI (2 ^ v) = 0 := by
  induction j with
  | zero =>
    show nI 0 &&& _ = 0
    rw [nI_0, Int32.zero_and]
  | succ j ih =>
    show (msk tx j ||| (nI 1 <<< (nI (tx j) &&& 31))) &&& _ = 0
    rw [or_and, ih (fun i hi => h i (by omega)), bit_off _ (htx j) v hv (h j (by omega)), Int32.or_zero]
theorem msk_surj {tx : Nat → Nat} (htx : ∀ i, tx i < 12) (h : msk tx 12 = nI 4095) : ∀ v, v < 12 → ∃ i, i < 12 ∧ tx i = v := by
  intro v hv
  apply Classical.byContradiction
  intro q
  refine bit_all v hv ?_
  rw [← h]
  exact msk_off htx hv 12 (fun i hi e => q ⟨i, hi, e⟩)
theorem ldL_at (L tx : Nat → Nat) (j i : Nat) (h : i < j) : ldL L tx j i = tx i := by
  induction j with
  | zero => omega
  | succ j ih =>
    simp only [ldL, up]
    split
    · rename_i e; rw [e]
    · exact ih (by omega)
theorem ldP_at (P tx : Nat → Nat) (j i : Nat) (h : i < j) (hj : j ≤ 12) (hi : ∀ i j, i < 12 → j < 12 → tx i = tx j → i = j) : ldP P tx j (tx i) = i := by
  induction j with
  | zero => omega
  | succ j ih =>
    simp only [ldP, up]
    split
    · rename_i e; exact (hi i j (by omega) (by omega) e).symm
    · rename_i e
      exact ih (by
        by_cases w : i = j
        · rw [w] at e; exact absurd rfl e
        · omega) (by omega)
theorem perm_ld {L P tx : Nat → Nat} (htx : ∀ i, tx i < 12) (h : msk tx 12 = nI 4095) : perm (ldL L tx 12) (ldP P tx 12) := by
  have hs := msk_surj htx h
  have hi := surj_inj tx hs
  intro i h12
  obtain ⟨k, hk, rfl⟩ := hs i h12
  have e1 := ldP_at P tx 12 k hk (by omega) hi
  refine ⟨?_, ?_, ?_, ?_⟩
  · rw [ldL_at _ _ _ _ h12]; exact htx _
  · rw [e1]; exact hk
  · rw [ldL_at _ _ _ _ h12]
    exact ldP_at P tx 12 (tx k) h12 (by omega) hi
  · rw [e1, ldL_at _ _ _ _ hk]
def yInv (y : Lay) : Prop := perm y.1 y.2.1 ∧ y.2.2.1 ≤ 30 ∧ (∀ i, y.2.2.2.1 i < 12) ∧ ∀ i, y.2.2.2.2 i < 12
theorem yInv.mks {y : Lay} (h : yInv y) {a b : Nat} (ha : a < 12) (hb : b < 12) : yInv (mks y a b) := ⟨h.1.ex ha hb, pshU_le _ h.2.1, pshA_lt h.2.2.1 ha, pshA_lt h.2.2.2 hb⟩
theorem yInv.impr {C n : Nat} {tx : Nat → Nat} (k : Nat) : ∀ y : Lay, yInv y → yInv (impr C tx n k y).2 := by
  induction k with
  | zero => exact fun y h => h
  | succ k ih =>
    intro y h
    by_cases e : lbs C tx n y = 0
    · rw [impr_s0 (by omega) e]; exact h
    · rw [impr_s1 (by omega) e]
      have hd := (bst_ok C y.1 y.2.1 tx n).dm e
      exact ih _ (h.mks hd.1 hd.2.1)
theorem yInv.im {C n : Nat} {tx : Nat → Nat} (v : Int32) {y : Lay} (h : yInv y) : yInv (yIm C tx n v y) := by
  unfold yIm
  split
  · exact yInv.impr _ y h
  · exact h
theorem yInv.sw (v w : Int32) {y : Lay} (h : yInv y) : yInv (ySw v w y) := by
  by_cases e : swErr v w = 0
  · obtain ⟨a, b, ha, hb, hab, rfl, rfl⟩ := swErr_0 e
    rw [ySw_ok ha hb hab]
    exact h.mks ha hb
  · rw [ySw_no e]; exact h
theorem yInv.un {y : Lay} (h : yInv y) : yInv (yUn y) := by
  unfold yUn
  split
  · exact h
  · exact ⟨h.1.ex (h.2.2.1 _) (h.2.2.2 _), by have := h.2.1; show y.2.2.1 - 1 ≤ 30; omega, h.2.2.1, h.2.2.2⟩
theorem yInv.ld {n : Nat} {tx : Nat → Nat} (htx : ∀ i, tx i < 12) {y : Lay} (h : yInv y) : yInv (yLd n tx y) := by
  unfold yLd
  split
  · rename_i e
    have e2 : msk tx 12 = nI 4095 := by
      unfold isLy at e
      split at e
      · rename_i q; exact q.2
      · omega
    exact ⟨perm_ld htx e2, Nat.zero_le _, h.2.2.1, h.2.2.2⟩
  · exact h
def sInv (n : Nat) (tx : Nat → Nat) (T C K : Nat) (y : Lay) (z : Rn) : Prop := n ≤ 60 ∧ (∀ i, tx i < 12) ∧ T ≤ 20 ∧ C ≤ 5 ∧ K ≤ 50 ∧ yInv y ∧ z.1 ≤ 60 ∧ z.2.1 ≤ 60
section SI
variable {n : Nat} {tx : Nat → Nat} {T C K : Nat} {y : Lay} {z : Rn}
theorem sInv.append (h : sInv n tx T C K y z) (v : Int32) : sInv (nApp n v) (tApp n tx v) T C K y z := by
  obtain ⟨h1, h2, h3⟩ := h
  refine ⟨?_, ?_, h3⟩
  · unfold nApp; split <;> (try split) <;> omega
  · intro i
    unfold tApp
    split
    · rename_i e
      obtain ⟨k, hk0, hk1, rfl⟩ := okR_1 (lo := 97) (hi := 108) (v := v) (by decide) (by omega)
      split
      · simp only [up]
        split
        · rw [iN_nI (by omega)]; omega
        · exact h2 i
      · exact h2 i
    · exact h2 i
theorem sInv.clearText (h : sInv n tx T C K y z) : sInv 0 tx T C K y z := ⟨Nat.zero_le _, h.2⟩
theorem nSet_le {lo hi x : Nat} (v : Int32) (hh : hi < 2147483648) (hx : x ≤ hi) : nSet lo hi x v ≤ hi := by
  unfold nSet
  split
  · rename_i e
    obtain ⟨k, hk0, hk1, rfl⟩ := okR_1 (lo := lo) (hi := hi) (v := v) hh (by omega)
    rw [iN_nI (by omega)]; omega
  · exact hx
theorem sInv.setTravelTime (h : sInv n tx T C K y z) (v : Int32) : sInv n tx (nSet 1 20 T v) C K y z := ⟨h.1, h.2.1, nSet_le v (by decide) h.2.2.1, h.2.2.2⟩
theorem sInv.setClashDistance (h : sInv n tx T C K y z) (v : Int32) : sInv n tx T (nSet 1 5 C v) K y z := ⟨h.1, h.2.1, h.2.2.1, nSet_le v (by decide) h.2.2.2.1, h.2.2.2.2⟩
theorem sInv.setClearingTime (h : sInv n tx T C K y z) (v : Int32) : sInv n tx T C (nSet 0 50 K v) y z := ⟨h.1, h.2.1, h.2.2.1, h.2.2.2.1, nSet_le v (by decide) h.2.2.2.2.1, h.2.2.2.2.2⟩
theorem sInv.lay (h : sInv n tx T C K y z) {y' : Lay} (hy : yInv y') : sInv n tx T C K y' z := ⟨h.1, h.2.1, h.2.2.1, h.2.2.2.1, h.2.2.2.2.1, hy, h.2.2.2.2.2.2⟩
theorem sInv.yi (h : sInv n tx T C K y z) : yInv y := h.2.2.2.2.2.1
theorem sInv.loadLayout (h : sInv n tx T C K y z) : sInv (nLd n tx) tx T C K (yLd n tx y) z := by
  refine ⟨?_, (h.lay (h.yi.ld h.2.1)).2⟩
  have := h.1
  unfold nLd; split <;> omega
theorem sInv.mirror (h : sInv n tx T C K y z) : sInv n tx T C K ((mir y.1 y.2.1 6).1, (mir y.1 y.2.1 6).2, 0, y.2.2.2.1, y.2.2.2.2) z := h.lay ⟨h.yi.1.mir 6 (by omega), Nat.zero_le _, h.yi.2.2.1, h.yi.2.2.2⟩
theorem sInv.run (h : sInv n tx T C K y z) (P : Nat → Nat) (v : Int32) : sInv n tx T C K y (yRn tx P T C K n v z) := by
  refine ⟨h.1, h.2.1, h.2.2.1, h.2.2.2.1, h.2.2.2.2.1, h.yi, ?_⟩
  have h1 := h.1
  unfold yRn
  split
  · exact ⟨Nat.le_trans (pmF_le _ _) h1, Nat.le_trans (jmF_le _ _) h1⟩
  · exact h.2.2.2.2.2.2
end SI
theorem sInv_0 : sInv 0 zf 4 2 10 (idF 12, idF 12, 0, zf, zf) (0, 0, 0, 0, zf, zf) := by
  refine ⟨by decide, fun i => by show 0 < 12; decide, by decide, by decide, by decide, ⟨?_, by decide, fun i => by show 0 < 12; decide, fun i => by show 0 < 12; decide⟩, by decide, by decide⟩
  intro i hi
  show idF 12 i < 12 ∧ idF 12 i < 12 ∧ idF 12 (idF 12 i) = i ∧ idF 12 (idF 12 i) = i
  rw [idF_at hi, idF_at hi]
  exact ⟨hi, hi, rfl, rfl⟩
