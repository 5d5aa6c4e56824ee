section
variable {z w : St} {c : RC} {F0 F1 : FO} {b : BD}
/-- sights: kind, number, so, told, untold -/
abbrev SG : Type := Nat → Nat → Int
def VS (n : Nat) (sg : SG) : Prop := n ≤ 30 ∧ ∀ i, i < n → ((sg i 0 = 0 ∧ 1 ≤ sg i 1 ∧ sg i 1 ≤ 64) ∨ (sg i 0 = 1 ∧ 0 ≤ sg i 1 ∧ sg i 1 ≤ 32)) ∧ (sg i 2 = 0 ∨ sg i 2 = 1) ∧ 0 ≤ sg i 3 ∧ sg i 3 ≤ 100000 ∧ -1 ≤ sg i 4 ∧ sg i 4 ≤ 100000
def XSg (z : St) (n : Nat) (sg : SG) : Prop := z.1 162 11 = iI n ∧ ∀ i, i < n → ∀ f, f < 5 → z.1 (163 + f) i = iI (sg i f)
def MSg (z : St) (n : Nat) (sg : SG) : Prop := z.1 172 71 = iI n ∧ ∀ i, i < n → z.1 206 i = iI (sg i 0) ∧ z.1 207 i = iI (sg i 1) ∧ z.1 210 i = iI (sg i 2) ∧ z.1 208 i = iI (sg i 3) ∧ z.1 209 i = iI (sg i 4)
theorem RD.sg (h : RD z c F0 F1 b) : ∃ n sg, VS n sg ∧ XSg z n sg ∧ MSg z n sg := by
  obtain ⟨n, t, l1, l2, l3, l4, l5, l6, l7, l8⟩ := h.2.2.2.2.2.2.2.1
  refine ⟨n, fun i f => (z.1 (163 + f) i).toInt, ⟨l1, fun i hi => ?_⟩, ⟨l4, fun i hi f hf => (iI_self _).symm⟩, ⟨l5, fun i hi => ?_⟩⟩
  · obtain ⟨kd, nu, so, ta, ua, d1, d2, d3, d4, d5, d6, d7, d8, d9, d10, d11, d12, d13⟩ := l8 i hi
    simp only [show 163 + 0 = 163 from rfl, show 163 + 1 = 164 from rfl, show 163 + 2 = 165 from rfl, show 163 + 3 = 166 from rfl, show 163 + 4 = 167 from rfl, d1, d3, d5, d7, d9]
    rw [iI_toInt (by omega), iI_toInt (by omega), iI_toInt (by omega), iI_toInt (by omega), iI_toInt (by omega)]
    exact ⟨d11, d12, d13⟩
  · obtain ⟨kd, nu, so, ta, ua, d1, d2, d3, d4, d5, d6, d7, d8, d9, d10, d11, d12, d13⟩ := l8 i hi
    simp only [show 163 + 0 = 163 from rfl, show 163 + 1 = 164 from rfl, show 163 + 2 = 165 from rfl, show 163 + 3 = 166 from rfl, show 163 + 4 = 167 from rfl, iI_self, d1, d2, d3, d4, d5, d6, d7, d8, d9, d10, and_self]
def cnt (sg : SG) (k : Int) (i : Nat) : Bool := decide (sg i 3 ≤ k ∧ (sg i 4 = -1 ∨ k < sg i 4))
def was (C R : Nat) (sg : SG) (p q i : Nat) : Bool := if sg i 0 = 0 then decide (((C / p * (R / q) : Nat) : Int) = sg i 1) else hic (C / p) (R / q) p q (sg i 1).toNat
def agr (C R : Nat) (sg : SG) (k : Int) (p q i : Nat) : Bool := !cnt sg k i || (was C R sg p q i == decide (sg i 2 = 1))
def alla (A : Nat → Bool) : Nat → Bool
  | 0 => true
  | i + 1 => alla A i && A i
theorem alla_iff {A : Nat → Bool} : ∀ n, (alla A n = true ↔ ∀ i, i < n → A i = true) := by
  intro n
  induction n with
  | zero => exact ⟨fun _ i hi => absurd hi (Nat.not_lt_zero i), fun _ => rfl⟩
  | succ n ih =>
    rw [alla, Bool.and_eq_true, ih]
    refine ⟨fun ⟨h1, h2⟩ i hi => ?_, fun h => ⟨fun i hi => h i (by omega), h n (by omega)⟩⟩
    by_cases e : i = n
    · rw [e]; exact h2
    · exact h1 i (by omega)
def fitb (C R n : Nat) (sg : SG) (k : Int) (p q : Nat) : Bool := gok C R p q && alla (agr C R sg k p q) n
theorem x_counts {n i : Nat} {sg : SG} {k : Int} (hV : VS n sg) (hX : XSg z n sg) (hi : i < n) (hk : -2147483648 ≤ k ∧ k < 2147483648) : fn_X4_counts (iI (i : Int)) (iI k) z = some (iI (tr (cnt sg k i = true)), z) := by
  obtain ⟨v1, v2, v3, v4, v5, v6⟩ := hV.2 i hi
  have hn := hV.1
  have e3 : z.1 166 i = iI (sg i 3) := hX.2 i hi 3 (by omega)
  have e4 : z.1 167 i = iI (sg i 4) := hX.2 i hi 4 (by omega)
  unfold fn_X4_counts cnt
  rw [gd_t (iI_ix (by omega)), iI_clampN (by omega), e3, e4]
  by_cases g1 : k < sg i 3
  · rw [if_pos (ylt (by omega) (by omega) g1), tr_n (by simp; omega), q_0]
  · rw [if_neg (nlt (by omega) (by omega) g1), gd_t (iI_ix (by omega))]
    by_cases g2 : sg i 4 = -1
    · rw [if_pos (by rw [g2, q_m1]), tr_1 (decide_eq_true (by omega)), q_1]
    · rw [if_neg (by rw [q_m1]; exact neq (by omega) (by omega) g2), gd_t (iI_ix (by omega))]
      by_cases g3 : sg i 4 ≤ k
      · rw [if_pos (yle (by omega) (by omega) g3), tr_n (by simp; omega), q_0]
      · rw [if_neg (nle (by omega) (by omega) g3), tr_1 (decide_eq_true (by omega)), q_1]
theorem x_agrees {C R n p q : Nat} {sg : SG} {k : Int} (hV : VS n sg) (hX : XSg z n sg) (hk : -2147483648 ≤ k ∧ k < 2147483648) (hC : C ≤ 8) (hR : R ≤ 8) (hg : gok C R p q = true) : fn_X4_agrees (iI ((C / p * (R / q) : Nat) : Int)) (isI (C / p) (R / q) p q p) (iI k) z = some (iI (tr (alla (agr C R sg k p q) n = true)), z) := by
  have hn := hV.1
  obtain ⟨h1, h2, h3, h4, h5, h6⟩ := gok_s hg hC hR
  have hcl : C / p * (R / q) ≤ 8 * 8 := Nat.mul_le_mul h5 h6
  obtain ⟨y, hy, ey⟩ := loopX (fun m i (s : St) => fn_X4_agrees_3 m (iI ((C / p * (R / q) : Nat) : Int)) (isI (C / p) (R / q) p q p) (iI k) (iI (i : Int)) s) (fun i s => s = z ∧ ∀ j, j < i → agr C R sg k p q j = true) (fun y => y = (iI (tr (alla (agr C R sg k p q) n = true)), z)) n (by omega) z ⟨rfl, fun j hj => absurd hj (Nat.not_lt_zero j)⟩ (fun i m s hi ⟨e, ih⟩ => by
    subst e
    obtain ⟨v1, v2, v3, v4, v5, v6⟩ := hV.2 i hi
    have e0 : s.1 163 i = iI (sg i 0) := hX.2 i hi 0 (by omega)
    have e1 : s.1 164 i = iI (sg i 1) := hX.2 i hi 1 (by omega)
    have e2 : s.1 165 i = iI (sg i 2) := hX.2 i hi 2 (by omega)
    show (∃ r, _ ∧ fn_X4_agrees_3 (m + 1) _ _ _ _ _ = _) ∨ ∃ s', _ ∧ fn_X4_agrees_3 (m + 1) _ _ _ _ _ = fn_X4_agrees_3 m _ _ _ _ _
    rw [fn_X4_agrees_3, hX.1, if_neg (nle (by omega) (by omega) (by omega)), bd_o (x_counts hV hX hi hk)]
    unfold fn_X4_agrees_73 fn_X4_agrees_89
    have nx : agr C R sg k p q i = true → ∀ j, j < i + 1 → agr C R sg k p q j = true := fun h j hj => by
      by_cases e : j = i
      · rw [e]; exact h
      · exact ih j (by omega)
    by_cases g : cnt sg k i = true
    · have fin : ∀ (B : Bool) (tv : Int32), tv = (if B then 1 else 0) → was C R sg p q i = B → (∃ y, y = (iI (tr (alla (agr C R sg k p q) n = true)), s) ∧ (if tv = s.1 165 i then fn_X4_agrees_3 m (iI ((C / p * (R / q) : Nat) : Int)) (isI (C / p) (R / q) p q p) (iI k) (iI (i : Int) + 1) s else some (0, s)) = some y) ∨ ∃ s', (s' = s ∧ ∀ j, j < i + 1 → agr C R sg k p q j = true) ∧ (if tv = s.1 165 i then fn_X4_agrees_3 m (iI ((C / p * (R / q) : Nat) : Int)) (isI (C / p) (R / q) p q p) (iI k) (iI (i : Int) + 1) s else some (0, s)) = fn_X4_agrees_3 m (iI ((C / p * (R / q) : Nat) : Int)) (isI (C / p) (R / q) p q p) (iI k) (iI ((i + 1 : Nat) : Int)) s' := by
        intro B tv htv hw
        rw [e2, k1]
        have ea : agr C R sg k p q i = (B == decide (sg i 2 = 1)) := by unfold agr; rw [g, hw]; rfl
        by_cases hs : B = decide (sg i 2 = 1)
        · refine Or.inr ⟨s, ⟨rfl, nx (by rw [ea, hs]; exact beq_self_eq_true _)⟩, ?_⟩
          rw [if_pos]
          rw [htv, hs]
          rcases v2 with e | e <;> rw [e] <;> decide
        · refine Or.inl ⟨_, rfl, ?_⟩
          rw [if_neg, tr_n (fun q => by
            have := (alla_iff n).mp q i hi
            rw [ea] at this
            exact hs (eq_of_beq this)), q_0]
          intro q
          apply hs
          rw [htv] at q
          cases B <;> rcases v2 with e | e <;> rw [e] at q ⊢ <;> revert q <;> decide
      have g0 : ∀ x : Option (Int32 × St), gd (ix (iI (i : Int)) 30) x = x := fun x => gd_t (iI_ix (by omega))
      simp only [g0, iI_clampN (show i < 2147483648 from by omega)]
      rw [tr_1 g, if_neg (show ¬ iI 1 = 0 from by decide), e0, e1]
      rcases v1 with ⟨w0, w1, w2⟩ | ⟨w0, w1, w2⟩
      · rw [w0, if_pos (show iI 0 = 0 from q_0.symm)]
        by_cases hc : ((C / p * (R / q) : Nat) : Int) = sg i 1
        · rw [if_pos (show iI ((C / p * (R / q) : Nat) : Int) = iI (sg i 1) from by rw [hc])]
          exact fin true 1 rfl (by unfold was; rw [if_pos w0, decide_eq_true hc])
        · rw [if_neg (show ¬ iI ((C / p * (R / q) : Nat) : Int) = iI (sg i 1) from neq (by omega) (by omega) hc)]
          exact fin false 0 rfl (by unfold was; rw [if_pos w0, decide_eq_false hc])
      · have hb : bt64 (isI (C / p) (R / q) p q p) (sg i 1).toNat = hic (C / p) (R / q) p q (sg i 1).toNat := bt_hic h1 h2 (by omega)
        have ebt : (lg_cmp ((isI (C / p) (R / q) p q p >>> (Int32.toInt64 (iI (sg i 1)) &&& 63)) &&& 1) 1 = 0) ↔ hic (C / p) (R / q) p q (sg i 1).toNat = true := by
          rw [cmp_0, ← hb, bt64, beq_iff_eq, nn w1]
        rw [w0, if_neg (show ¬ iI 1 = 0 from by decide)]
        by_cases hc : hic (C / p) (R / q) p q (sg i 1).toNat = true
        · rw [if_pos (ebt.mpr hc)]
          exact fin true 1 rfl (by unfold was; rw [if_neg (by omega), hc])
        · rw [if_neg (fun q => hc (ebt.mp q))]
          exact fin false 0 rfl (by unfold was; rw [if_neg (by omega)]; exact Bool.eq_false_iff.mpr hc)
    · refine Or.inr ⟨s, ⟨rfl, nx (by unfold agr; rw [Bool.eq_false_iff.mpr g]; rfl)⟩, ?_⟩
      rw [tr_n g, if_pos (show iI 0 = 0 from q_0.symm), k1]) (fun m s ⟨e, ih⟩ => by
    subst e
    refine ⟨_, rfl, ?_⟩
    show fn_X4_agrees_3 (m + 1) _ _ _ _ _ = _
    rw [fn_X4_agrees_3, hX.1, if_pos (yle (by omega) (by omega) (by omega)), tr_1 ((alla_iff n).mpr ih), q_1])
  unfold fn_X4_agrees
  subst hy
  exact (show _ = fn_X4_agrees_3 fu (iI ((C / p * (R / q) : Nat) : Int)) (isI (C / p) (R / q) p q p) (iI k) (iI ((0 : Nat) : Int)) z from by rw [z0]).trans ey
/-! the reference -/
def hJ (w d p q a : Nat) (s : Bool) (i : Nat) : Nat → Bool
  | 0 => s
  | j + 1 => hJ w d p q a s i j || (icl w d p q i j == a)
def hI (w d p q a : Nat) : Nat → Bool
  | 0 => false
  | i + 1 => hJ w d p q a (hI w d p q a i) i q
theorem hJ_e (w d p q a : Nat) (s : Bool) (i : Nat) : ∀ j, hJ w d p q a s i j = (s || (List.range j).any fun j => icl w d p q i j == a) := by
  intro j
  induction j with
  | zero => rw [hJ]; simp
  | succ j ih => rw [hJ, ih, List.range_succ, List.any_append]; simp [Bool.or_assoc]
theorem hI_e (w d p q a : Nat) : ∀ i, hI w d p q a i = (List.range i).any fun i => (List.range q).any fun j => icl w d p q i j == a := by
  intro i
  induction i with
  | zero => rfl
  | succ i ih => rw [hI, hJ_e, ih, List.range_succ, List.any_append]; simp
theorem tr_z2 (B : Bool) : zok (iI (tr (B = true))) = true := tr_z _
theorem m_hasIcing {p q C R a : Nat} (e1 : z.1 188 0 = iI (C : Int)) (e2 : z.1 189 0 = iI (R : Int)) (hC : C ≤ 8) (hR : R ≤ 8) (hp : 1 ≤ p ∧ p ≤ 64) (hq : 1 ≤ q ∧ q ≤ 64) (ha : a ≤ 64) : fn_X12_hasIcing (iI (p : Int)) (iI (q : Int)) (iI (a : Int)) z = some (iI (tr (hic (C / p) (R / q) p q a = true)), z) := by
  have hw : C / p ≤ 8 := Nat.le_trans (Nat.div_le_self C p) hC
  have hd : R / q ≤ 8 := Nat.le_trans (Nat.div_le_self R q) hR
  obtain ⟨m, hm⟩ := loopK (fun m i => fn_X12_hasIcing_6 m (iI (p : Int)) (iI (q : Int)) (iI (a : Int)) (iI (tr (hI (C / p) (R / q) p q a i = true))) (iI (i : Int)) z) p (by omega) (fun i m hi => by
    show fn_X12_hasIcing_6 (m + 1) _ _ _ _ _ _ = fn_X12_hasIcing_6 m _ _ _ _ _ _
    rw [fn_X12_hasIcing_6, if_neg (nle (by omega) (by omega) (by omega))]
    obtain ⟨m2, hm2⟩ := loopK (fun m2 j => fn_X12_hasIcing_15 (fn_X12_hasIcing_6 m) m2 (iI (p : Int)) (iI (q : Int)) (iI (a : Int)) (iI (tr (hJ (C / p) (R / q) p q a (hI (C / p) (R / q) p q a i) i j = true))) (iI (i : Int)) (iI (j : Int)) z) q (by omega) (fun j m2 hj => by
      have hb := icl_b (p := p) (q := q) (i := i) (j := j) hw hd
      show fn_X12_hasIcing_15 _ (m2 + 1) _ _ _ _ _ _ _ = fn_X12_hasIcing_15 _ m2 _ _ _ _ _ _ _
      rw [fn_X12_hasIcing_15, if_neg (nle (by omega) (by omega) (by omega)), hJ]
      unfold fn_X12_hasIcing_41 fn_X12_hasIcing_46
      rw [k1]
      by_cases h1 : hJ (C / p) (R / q) p q a (hI (C / p) (R / q) p q a i) i j = true
      · rw [tr_1 h1, if_neg (by decide), tr_1 (by rw [h1]; rfl), q_1]
      · rw [tr_n h1, if_pos (show iI 0 = 0 from q_0.symm), show (0 : Int32) = iI ((0 : Nat) : Int) from z0.symm, bd_o (m_gridIcing (t := 0) (by omega) e1 e2 hC hR hp hq hi hj)]
        by_cases h2 : icl (C / p) (R / q) p q i j = a
        · rw [if_pos (by rw [h2]), tr_1 (by rw [Bool.eq_false_iff.mpr h1, h2]; simp), q_1]
        · rw [if_neg (neq (by omega) (by omega) (by omega)), tr_n (by rw [Bool.eq_false_iff.mpr h1]; simp [h2])]
          rfl)
    refine (show _ = fn_X12_hasIcing_15 (fn_X12_hasIcing_6 m) fu (iI (p : Int)) (iI (q : Int)) (iI (a : Int)) (iI (tr (hI (C / p) (R / q) p q a i = true))) (iI (i : Int)) (iI ((0 : Nat) : Int)) z from by rw [z0]).trans (hm2.trans ?_)
    rw [fn_X12_hasIcing_15, if_pos (yle (by omega) (by omega) (by omega)), k1]
    rfl)
  unfold fn_X12_hasIcing
  refine (show _ = fn_X12_hasIcing_6 fu (iI (p : Int)) (iI (q : Int)) (iI (a : Int)) (iI 0) (iI ((0 : Nat) : Int)) z from by rw [z0, ← q_0]).trans (hm.trans ?_)
  rw [fn_X12_hasIcing_6, if_pos (yle (by omega) (by omega) (by omega)), gd_t (tr_z2 _), hI_e]
  rfl
end
