/-! the tape -/
theorem fu_eq (k : Nat) (h : k ≤ 1000000) : fu = (1000000 - k) + k := by unfold fu; omega
theorem and255 (x : Int32) : Int8.toInt32 (Int32.toInt8 x) &&& 255 = x &&& 255 := by
  refine Int32.toBitVec_inj.mp ?_
  apply BitVec.eq_of_getLsbD_eq
  intro i hi
  simp only [Int32.toBitVec_and, BitVec.getLsbD_and, Int8.toBitVec_toInt32, Int32.toBitVec_toInt8, BitVec.getLsbD_signExtend, BitVec.getLsbD_setWidth]
  by_cases h8 : i < 8
  · simp [h8, hi]
  · have h255 : (255 : Int32).toBitVec.getLsbD i = false := by
      have : ∀ j, j < 32 → ¬ j < 8 → (255 : Int32).toBitVec.getLsbD j = false := by decide
      exact this i hi h8
    rw [h255]; simp
/-- x's tape -/
def IXt (z : St) (n : Nat) (t : Nat → Int32) : Prop := z.1 0 1 = nI n ∧ n ≤ 1600 ∧ ∀ i, i < n → z.1 1 i &&& 255 = t i
/-- the reference's tape -/
def IMt (z : St) (n : Nat) (t : Nat → Int32) : Prop := z.1 172 1 = nI n ∧ n ≤ 1600 ∧ ∀ i, i < n → z.1 173 i = t i
def ap (n : Nat) (t : Nat → Int32) (v : Int32) : Nat → Int32 := fun i => if i = n then v else t i
theorem x_step {z : St} {n : Nat} {t : Nat → Int32} {k : Nat} {v1 v2 : Int32} (h : IXt z n t) (hn : n < 1600) (hv : ¬ v2 < 0) : ∃ z', fn_X11_putOnTape_3 (k + 1) v1 v2 z = fn_X11_putOnTape_3 k v1 (v2 + (-8)) z' ∧ IXt z' (n + 1) (ap n t ((v1 >>> (v2 &&& 31)) &&& 255)) := by
  obtain ⟨h1, h2, h3⟩ := h
  refine ⟨sI (sI z 1 n (Int8.toInt32 (Int32.toInt8 (Int8.toInt32 (Int32.toInt8 (v1 >>> (v2 &&& 31))))))) 0 1 (nI n + 1), ?_, ?_, by omega, ?_⟩
  · rw [fn_X11_putOnTape_3, if_neg hv, h1, if_neg (show ¬ (1600 : Int32) ≤ nI n from by rw [Int32.le_iff_toInt_le, nI_toInt (by omega), show (1600 : Int32).toInt = 1600 from by decide]; omega), show ix (nI n) 1600 = true from decide_eq_true (by rw [nI_toInt (by omega)]; omega), nI_clamp (by omega)]
    simp only [gd, if_true, nm, fn_X11_putOnTape_42]
    rw [show (sI z 1 n (Int8.toInt32 (Int32.toInt8 (Int8.toInt32 (Int32.toInt8 (v1 >>> (v2 &&& 31))))))).1 0 1 = nI n from h1]
  · simp [sI, nI_1]
  · intro i hi
    simp only [sI, ap]
    by_cases hin : i = n
    · subst hin; simp [and255]
    · simp [hin]; exact h3 i (by omega)
