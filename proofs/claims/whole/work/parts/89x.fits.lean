section
variable {z w : St} {c : RC} {F0 F1 : FO} {b : BD}
theorem m_isSo {C R n p q i : Nat} {sg : SG} (hV : VS n sg) (hM : MSg z n sg) (e1 : z.1 188 0 = iI (C : Int)) (e2 : z.1 189 0 = iI (R : Int)) (hC : C ≤ 8) (hR : R ≤ 8) (hp : 1 ≤ p ∧ p ≤ 8) (hq : 1 ≤ q ∧ q ≤ 8) (hi : i < n) : fn_X12_isSo (iI (i : Int)) (iI (p : Int)) (iI (q : Int)) z = some (iI (tr (was C R sg p q i = true)), z) := by
  have hn := hV.1
  obtain ⟨v1, v2, v3, v4, v5, v6⟩ := hV.2 i hi
  obtain ⟨d0, d1, d2, d3, d4⟩ := hM.2 i hi
  have hw := Nat.div_le_self C p
  have hd := Nat.div_le_self R q
  have hcl : C / p * (R / q) ≤ 8 * 8 := Nat.mul_le_mul (by omega) (by omega)
  unfold fn_X12_isSo was
  rw [gd_t (iI_ix (by omega)), iI_clampN (by omega), d0, d1]
  rcases v1 with ⟨w0, w1, w2⟩ | ⟨w0, w1, w2⟩
  · rw [w0, if_pos (show iI 0 = 0 from q_0.symm), gd_t (ne0 (by omega)), gd_t (ne0 (by omega)), gd_t (iI_ix (by omega)), c_0, e1, e2, ndiv (by omega) (by omega), ndiv (by omega) (by omega), iI_mul, ← Int.natCast_mul, if_pos rfl]
    by_cases hc : ((C / p * (R / q) : Nat) : Int) = sg i 1
    · rw [if_pos (by rw [hc]), tr_1 (decide_eq_true hc), q_1]
    · rw [if_neg (neq (by omega) (by omega) hc), tr_n (fun e => hc (of_decide_eq_true e)), q_0]
  · rw [w0, if_neg (by decide), gd_t (iI_ix (by omega)), nn w1, bd_o (m_hasIcing e1 e2 hC hR (by omega) (by omega) (by omega)), gd_t (tr_z2 _), if_neg (by omega)]
theorem m_isFit {C R n p q : Nat} {sg : SG} {k : Int} (hV : VS n sg) (hM : MSg z n sg) (hk : -2147483648 ≤ k ∧ k < 2147483648) (e0 : ∃ T : Int, 1 ≤ T ∧ T ≤ 3 ∧ z.1 172 43 = iI T) (e1 : z.1 188 0 = iI (C : Int)) (e2 : z.1 189 0 = iI (R : Int)) (hC : 1 ≤ C ∧ C ≤ 8) (hR : 1 ≤ R ∧ R ≤ 8) (hp : 1 ≤ p ∧ p ≤ 8) (hq : 1 ≤ q ∧ q ≤ 8) : fn_X12_isFit (iI (p : Int)) (iI (q : Int)) (iI k) z = some (iI (tr (fitb C R n sg k p q = true)), z) := by
  have hn := hV.1
  obtain ⟨T, t1, t2, t3⟩ := e0
  have stop : ∀ (m : Nat) (i : Nat), i ≤ n → fn_X12_isFit_27 (m + 1) (iI (p : Int)) (iI (q : Int)) (iI k) 0 (iI (i : Int)) z = some (0, z) := by
    intro m i hi
    rw [fn_X12_isFit_27, hM.1]
    by_cases h : n ≤ i
    · rw [if_pos (yle (by omega) (by omega) (by omega)), gd_t (by decide)]
    · rw [if_neg (nle (by omega) (by omega) (by omega)), if_pos rfl, gd_t (by decide)]
  unfold fn_X12_isFit fitb
  rw [t3, if_neg (by rw [q_0]; exact nle (by omega) (by omega) (by omega)), show (0 : Int32) = iI ((0 : Nat) : Int) from z0.symm, bd_o (m_isGrid (t := 0) (by omega) e1 e2 hC hR (by omega) (by omega))]
  unfold fn_X12_isFit_21 fn_X12_isFit_22
  by_cases hg : gok C R p q = true
  · rw [tr_1 hg, if_neg (show ¬ iI 1 = iI ((0 : Nat) : Int) from by decide), hg, Bool.true_and]
    obtain ⟨y, hy, ey⟩ := loopX (fun m i (s : Bool) => fn_X12_isFit_27 m (iI (p : Int)) (iI (q : Int)) (iI k) (iI (tr (s = true))) (iI (i : Int)) z) (fun i s => s = alla (agr C R sg k p q) i) (fun y => y = (iI (tr (alla (agr C R sg k p q) n = true)), z)) n (by omega) true rfl (fun i m s hi hs => by
      obtain ⟨v1, v2, v3, v4, v5, v6⟩ := hV.2 i hi
      obtain ⟨d0, d1, d2, d3, d4⟩ := hM.2 i hi
      show (∃ r, _ ∧ fn_X12_isFit_27 (m + 1) _ _ _ _ _ _ = _) ∨ ∃ s', _ ∧ fn_X12_isFit_27 (m + 1) _ _ _ _ _ _ = fn_X12_isFit_27 m _ _ _ _ _ _
      cases s with
      | false =>
        refine Or.inl ⟨_, rfl, ?_⟩
        rw [show iI (tr (false = true)) = 0 from rfl, stop m i (by omega), tr_n (fun qq => by
          have := (alla_iff n).mp qq
          have h2 := (alla_iff (A := agr C R sg k p q) i).mpr fun j hj => this j (by omega)
          rw [← hs] at h2
          cases h2), q_0]
      | true =>
        refine Or.inr ⟨alla (agr C R sg k p q) (i + 1), rfl, ?_⟩
        rw [alla, ← hs, Bool.true_and]
        rw [fn_X12_isFit_27, hM.1, if_neg (nle (by omega) (by omega) (by omega)), if_neg (by decide), gd_t (iI_ix (by omega)), iI_clampN (by omega), d3, d4]
        unfold fn_X12_isFit_76 fn_X12_isFit_99 fn_X12_isFit_101
        have g0 : ∀ x : Option (Int32 × St), gd (ix (iI (i : Int)) 30) x = x := fun x => gd_t (iI_ix (by omega))
        simp only [g0, m_isSo hV hM e1 e2 hC.2 hR.2 hp hq hi, bd_e, iI_clampN (show i < 2147483648 from by omega), d2, k1]
        have fin : cnt sg k i = true → (if iI (tr (was C R sg p q i = true)) = iI (sg i 2) then fn_X12_isFit_27 m (iI (p : Int)) (iI (q : Int)) (iI k) 1 (iI ((i + 1 : Nat) : Int)) z else fn_X12_isFit_27 m (iI (p : Int)) (iI (q : Int)) (iI k) 0 (iI ((i + 1 : Nat) : Int)) z) = fn_X12_isFit_27 m (iI (p : Int)) (iI (q : Int)) (iI k) (iI (tr (agr C R sg k p q i = true))) (iI ((i + 1 : Nat) : Int)) z := fun hc => by
          unfold agr
          rw [hc]
          cases hwas : was C R sg p q i <;> rcases v2 with e | e <;> rw [e] <;> rfl
        by_cases g1 : k < sg i 3
        · have hc : cnt sg k i = false := by unfold cnt; exact decide_eq_false (by omega)
          rw [if_pos (ylt (by omega) (by omega) g1), agr, hc]
          rfl
        · rw [if_neg (nlt (by omega) (by omega) g1)]
          by_cases g2 : sg i 4 < 0
          · rw [if_pos (by rw [q_0]; exact ylt (by omega) (by omega) g2)]
            exact fin (decide_eq_true (by omega))
          · rw [if_neg (by rw [q_0]; exact nlt (by omega) (by omega) g2)]
            by_cases g3 : k < sg i 4
            · rw [if_pos (ylt (by omega) (by omega) g3)]
              exact fin (decide_eq_true (by omega))
            · have hc : cnt sg k i = false := by unfold cnt; exact decide_eq_false (by omega)
              rw [if_neg (nlt (by omega) (by omega) g3), agr, hc]
              rfl) (fun m s hs => by
      subst hs
      refine ⟨_, rfl, ?_⟩
      show fn_X12_isFit_27 (m + 1) _ _ _ _ _ _ = _
      rw [fn_X12_isFit_27, hM.1, if_pos (yle (by omega) (by omega) (by omega)), gd_t (tr_z2 _)])
    subst hy
    exact ey
  · have e9 := stop 999999 0 (by omega)
    rw [tr_n hg, if_pos (show iI 0 = iI ((0 : Nat) : Int) from rfl), Bool.eq_false_iff.mpr hg, Bool.false_and]
    exact e9
/-! pairs that fit, in their order -/
def LJ (P : Nat → Nat → Bool) (p : Nat) (l : List (Nat × Nat)) : Nat → List (Nat × Nat)
  | 0 => l
  | j + 1 => if P p (j + 1) then LJ P p l j ++ [(p, j + 1)] else LJ P p l j
def LI (P : Nat → Nat → Bool) : Nat → List (Nat × Nat)
  | 0 => []
  | k + 1 => LJ P (k + 1) (LI P k) 8
theorem LJ_top {P : Nat → Nat → Bool} {p R : Nat} {l : List (Nat × Nat)} (h : ∀ q, R < q → P p q = false) : ∀ k, R ≤ k → LJ P p l k = LJ P p l R := by
  intro k
  induction k with
  | zero => intro hk; rw [show R = 0 from by omega]
  | succ k ih =>
    intro hk
    by_cases e : R = k + 1
    · rw [e]
    · rw [LJ, h (k + 1) (by omega)]; exact ih (by omega)
theorem LJ_no {P : Nat → Nat → Bool} {p : Nat} {l : List (Nat × Nat)} (h : ∀ q, P p q = false) : ∀ k, LJ P p l k = l := by
  intro k
  induction k with
  | zero => rfl
  | succ k ih => rw [LJ, h (k + 1)]; exact ih
theorem LI_top {P : Nat → Nat → Bool} {C : Nat} (h : ∀ p q, C < p → P p q = false) : ∀ k, C ≤ k → LI P k = LI P C := by
  intro k
  induction k with
  | zero => intro hk; rw [show C = 0 from by omega]
  | succ k ih =>
    intro hk
    by_cases e : C = k + 1
    · rw [e]
    · rw [LI, LJ_no fun q => h (k + 1) q (by omega)]; exact ih (by omega)
theorem LJ_len {P Q : Nat → Nat → Bool} {p : Nat} {l l' : List (Nat × Nat)} (h : ∀ q, P p q = true → Q p q = true) (hl : l.length ≤ l'.length) : ∀ k, (LJ P p l k).length ≤ (LJ Q p l' k).length := by
  intro k
  induction k with
  | zero => exact hl
  | succ k ih =>
    rw [LJ, LJ]
    by_cases h1 : P p (k + 1) = true
    · rw [if_pos h1, if_pos (h _ h1), List.length_append, List.length_append]
      exact Nat.add_le_add_right ih _
    · rw [if_neg h1]
      split
      · rw [List.length_append]; exact Nat.le_trans ih (Nat.le_add_right _ _)
      · exact ih
theorem LJ_mono {P : Nat → Nat → Bool} {p : Nat} {l : List (Nat × Nat)} {j : Nat} : ∀ k, j ≤ k → (LJ P p l j).length ≤ (LJ P p l k).length := by
  intro k
  induction k with
  | zero => intro h; rw [show j = 0 from by omega]; exact Nat.le_refl _
  | succ k ih =>
    intro h
    by_cases e : j = k + 1
    · rw [e]; exact Nat.le_refl _
    · rw [LJ]
      have := ih (by omega)
      split
      · rw [List.length_append]; omega
      · exact this
theorem LI_mono {P : Nat → Nat → Bool} {j : Nat} : ∀ k, j ≤ k → (LI P j).length ≤ (LI P k).length := by
  intro k
  induction k with
  | zero => intro h; rw [show j = 0 from by omega]; exact Nat.le_refl _
  | succ k ih =>
    intro h
    by_cases e : j = k + 1
    · rw [e]; exact Nat.le_refl _
    · rw [LI]
      exact Nat.le_trans (ih (by omega)) (LJ_mono (j := 0) 8 (by omega))
theorem LI_len {P Q : Nat → Nat → Bool} (h : ∀ p q, P p q = true → Q p q = true) : ∀ k, (LI P k).length ≤ (LI Q k).length := by
  intro k
  induction k with
  | zero => exact Nat.le_refl _
  | succ k ih => rw [LI, LI]; exact LJ_len (fun q => h (k + 1) q) ih 8
set_option maxRecDepth 100000 in
theorem gok16 {C R : Nat} (hC : C ≤ 8) (hR : R ≤ 8) : (LI (gok C R) 8).length ≤ 16 := by
  have : (List.range 9).all (fun C => (List.range 9).all fun R => decide ((LI (gok C R) 8).length ≤ 16)) = true := by decide +kernel
  exact of_decide_eq_true (List.all_eq_true.mp (List.all_eq_true.mp this C (List.mem_range.mpr (by omega))) R (List.mem_range.mpr (by omega)))
/-- room for one more -/
theorem fit16 {C R : Nat} {P : Nat → Nat → Bool} (hP : ∀ p q, P p q = true → gok C R p q = true) (hC : C ≤ 8) (hR : R ≤ 8) {k j : Nat} (hk : k < 8) (hj : j < 8) (hg : gok C R (k + 1) (j + 1) = true) : (LJ P (k + 1) (LI P k) j).length < 16 := by
  have h1 : (LJ P (k + 1) (LI P k) j).length ≤ (LJ (gok C R) (k + 1) (LI (gok C R) k) j).length := LJ_len (fun q => hP (k + 1) q) (LI_len hP k) j
  have h2 : (LJ (gok C R) (k + 1) (LI (gok C R) k) (j + 1)).length = (LJ (gok C R) (k + 1) (LI (gok C R) k) j).length + 1 := by rw [LJ, if_pos hg, List.length_append]; rfl
  have h3 : (LJ (gok C R) (k + 1) (LI (gok C R) k) (j + 1)).length ≤ (LJ (gok C R) (k + 1) (LI (gok C R) k) 8).length := LJ_mono 8 (by omega)
  have h4 : (LI (gok C R) (k + 1)).length ≤ (LI (gok C R) 8).length := LI_mono 8 (by omega)
  have h5 : LI (gok C R) (k + 1) = LJ (gok C R) (k + 1) (LI (gok C R) k) 8 := rfl
  have h6 := gok16 hC hR
  rw [h5] at h4
  omega
end
