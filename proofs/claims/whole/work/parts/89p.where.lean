section
variable {z w : St} {c : RC} {F0 F1 : FO} {b b' : BD}
/-! where -/
def hc (b : BD) (t x y : Int) (p : Nat) : Prop := pc b p 0 = t ∧ (pc b p 1 ≤ x ∧ x < pc b p 1 + pc b p 3) ∧ (pc b p 2 ≤ y ∧ y < pc b p 2 + pc b p 4)
def hcb (b : BD) (t x y : Int) (p : Nat) : Bool := decide (pc b p 0 = t ∧ (pc b p 1 ≤ x ∧ x < pc b p 1 + pc b p 3) ∧ (pc b p 2 ≤ y ∧ y < pc b p 2 + pc b p 4))
def lof (H : Nat → Bool) : Nat → Int
  | 0 => -1
  | k + 1 => if H k then k else lof H k
theorem lof_none {H : Nat → Bool} : ∀ n : Nat, (∀ q, q < n → H q = false) → lof H n = -1 := by
  intro n
  induction n with
  | zero => intro _; rfl
  | succ n ih => intro h; rw [lof, h n (by omega), ih fun q hq => h q (by omega)]; rfl
theorem lof_some {H : Nat → Bool} {p : Nat} : ∀ n : Nat, p < n → H p = true → (∀ q, q < n → q ≠ p → H q = false) → lof H n = p := by
  intro n
  induction n with
  | zero => intro h; omega
  | succ n ih =>
    intro h1 h2 h3
    rw [lof]
    by_cases hpn : p = n
    · subst hpn; rw [if_pos h2]
    · rw [h3 n (by omega) (by omega)]
      exact ih (by omega) h2 fun q hq => h3 q (by omega)
theorem x_holds {t x y : Int} {k : Nat} (hC : VC c) (hV : VB c b) (hB : XB 34 z b) (ht : -2147483648 ≤ t ∧ t < 2147483648) (hx : -2147483648 ≤ x ∧ x < 2147483648) (hy : -2147483648 ≤ y ∧ y < 2147483648) (hk : (k : Int) < b 168) : fn_X9_holds (36 + k) (iI t) (iI x) (iI y) z = some (iI (tr (hcb b t x y k = true)), z) := by
  have hS := hB.2.2.2.1 k hk
  have hs := (hV.2.2.1 k hk).s hC
  have e0 : z.1 (36 + k) 0 = iI (pc b k 0) := hS 0 (by omega)
  have e1 : z.1 (36 + k) 1 = iI (pc b k 1) := hS 1 (by omega)
  have e2 : z.1 (36 + k) 2 = iI (pc b k 2) := hS 2 (by omega)
  have e3 : z.1 (36 + k) 3 = iI (pc b k 3) := hS 3 (by omega)
  have e4 : z.1 (36 + k) 4 = iI (pc b k 4) := hS 4 (by omega)
  unfold fn_X9_holds hcb
  rw [e0, e1, e2, e3, e4, iI_add, iI_add]
  by_cases g0 : t = pc b k 0
  · rw [if_pos (by rw [g0])]
    by_cases g1 : x < pc b k 1
    · rw [if_pos (ylt (by omega) (by omega) g1), tr_n (by simp; omega), q_0]
    · rw [if_neg (nlt (by omega) (by omega) g1)]
      by_cases g2 : pc b k 1 + pc b k 3 ≤ x
      · rw [if_pos (yle (by omega) (by omega) g2), tr_n (by simp; omega), q_0]
      · rw [if_neg (nle (by omega) (by omega) g2)]
        by_cases g3 : y < pc b k 2
        · rw [if_pos (ylt (by omega) (by omega) g3), tr_n (by simp; omega), q_0]
        · rw [if_neg (nlt (by omega) (by omega) g3)]
          by_cases g4 : pc b k 2 + pc b k 4 ≤ y
          · rw [if_pos (yle (by omega) (by omega) g4), tr_n (by simp; omega), q_0]
          · rw [if_neg (nle (by omega) (by omega) g4), tr_1 (decide_eq_true (by omega)), q_1]
  · rw [if_neg (neq (by omega) (by omega) g0), tr_n (by simp; omega), q_0]
theorem m_hasCell {t x y : Int} {k : Nat} (hC : VC c) (hV : VB c b) (hB : MB 198 0 z b) (ht : -2147483648 ≤ t ∧ t < 2147483648) (hx : 0 ≤ x ∧ x < 8) (hy : 0 ≤ y ∧ y < 8) (hk : (k : Int) < b 168) : fn_X12_hasCell (iI k) (iI t) (iI x) (iI y) z = some (iI (tr (hcb b t x y k = true)), z) := by
  have h24 := hV.n hk
  have hs := (hV.2.2.1 k hk).s hC
  have e := hB.2.2.2 k hk
  simp only [Nat.zero_add] at e
  unfold fn_X12_hasCell hcb
  rw [gd_t (x7_1 h24), nm_o, gd_t (x7_2 h24), nm_o, gd_t (x7_0 h24), gd_t (x7_3 h24), gd_t (x7_4 h24), c7_0 h24, c7_1 h24, c7_2 h24, c7_3 h24, c7_4 h24, show z.1 198 (7 * k) = iI (pc b k 0) from e 0 (by omega), e 1 (by omega), e 2 (by omega), e 3 (by omega), e 4 (by omega), iI_sub, iI_sub]
  by_cases g0 : pc b k 0 = t
  · rw [if_pos (by rw [g0])]
    by_cases g1 : x - pc b k 1 < 0
    · rw [if_pos (by rw [q_0]; exact ylt (by omega) (by omega) g1), tr_n (by simp; omega), q_0]
    · rw [if_neg (by rw [q_0]; exact nlt (by omega) (by omega) g1)]
      by_cases g2 : pc b k 3 ≤ x - pc b k 1
      · rw [if_pos (yle (by omega) (by omega) g2), tr_n (by simp; omega), q_0]
      · rw [if_neg (nle (by omega) (by omega) g2)]
        by_cases g3 : y - pc b k 2 < 0
        · rw [if_pos (by rw [q_0]; exact ylt (by omega) (by omega) g3), tr_n (by simp; omega), q_0]
        · rw [if_neg (by rw [q_0]; exact nlt (by omega) (by omega) g3)]
          by_cases g4 : pc b k 4 ≤ y - pc b k 2
          · rw [if_pos (yle (by omega) (by omega) g4), tr_n (by simp; omega), q_0]
          · rw [if_neg (nle (by omega) (by omega) g4), tr_1 (decide_eq_true (by omega)), q_1]
  · rw [if_neg (neq (by omega) (by omega) g0), tr_n (by simp; omega), q_0]
theorem hc_one (hV : VB c b) {t x y : Int} {p q : Nat} (hp : (p : Int) < b 168) (hq : (q : Int) < b 168) (h1 : hcb b t x y p = true) (h2 : hcb b t x y q = true) : p = q := by
  have g1 := of_decide_eq_true h1
  have g2 := of_decide_eq_true h2
  refine Decidable.byContradiction fun hpq => ?_
  have := hV.2.2.2.2 p q hp hq hpq (by omega)
  unfold apart at this
  omega
theorem s_where (u v o : Int32) (h : RD z c F0 F1 b) : Same (fn_X11_where u v o) (fn_X12_where u v o) z := by
  obtain ⟨t, rfl, ht⟩ := ii u
  obtain ⟨x, rfl, hx⟩ := ii v
  obtain ⟨y, rfl, hy⟩ := ii o
  have hV := h.vb
  have hC := h.vc
  have h0 := hV.1
  refine qry (iI (lof (hcb b t x y) (b 168).toNat)) h (fun z h => ⟨z, ?_⟩) (fun z w e a k h => ff_X11_where (by trivial) e) (fun z h => ?_) (fun z w e a k h => ff_X12_where (by unfold PS at h; show ¬ a = 198; omega) e)
  · unfold fn_X11_where
    obtain ⟨r, hr, er⟩ := loopX (fun m k (s : St) => fn_X11_where_3 m (iI t) (iI x) (iI y) (iI (k : Int)) s) (fun k s => s = z ∧ ∀ q, q < k → hcb b t x y q = false) (fun r => r = (iI (lof (hcb b t x y) (b 168).toNat), z)) (b 168).toNat (by omega) z ⟨rfl, fun q hq => absurd hq (Nat.not_lt_zero q)⟩ (fun k m s hk ⟨e, i⟩ => by
      subst e
      have hp : (k : Int) < b 168 := by omega
      have h24 := hV.n hp
      show (∃ r, _ ∧ fn_X11_where_3 (m + 1) _ _ _ _ _ = _) ∨ ∃ s', _ ∧ fn_X11_where_3 (m + 1) _ _ _ _ _ = fn_X11_where_3 m _ _ _ _ _
      rw [fn_X11_where_3, h.xb.1, if_neg (nle (by omega) (by omega) (by omega)), gd_t (iI_ix (by omega)), iI_clampN (by omega), show 35 + 1 + k = 36 + k from by omega, bd_o (x_holds hC hV h.xb ht hx hy hp)]
      by_cases hh : hcb b t x y k = true
      · refine Or.inl ⟨_, rfl, ?_⟩
        rw [tr_1 hh, if_neg (by decide), lof_some (p := k) _ (by omega) hh fun q hq hqk => by
          cases hq' : hcb b t x y q
          · rfl
          · exact absurd (hc_one hV (by omega) hp hq' hh) hqk]
      · refine Or.inr ⟨s, ⟨rfl, fun q hq => ?_⟩, ?_⟩
        · by_cases hqk : q = k
          · rw [hqk]; exact Bool.eq_false_iff.mpr hh
          · exact i q (by omega)
        · rw [tr_n hh, if_pos (show iI 0 = 0 from q_0.symm), k1]) (fun m s ⟨e, i⟩ => by
      subst e
      refine ⟨_, rfl, ?_⟩
      show fn_X11_where_3 (m + 1) _ _ _ _ _ = _
      rw [fn_X11_where_3, h.xb.1, if_pos (yle (by omega) (by omega) (by omega)), lof_none _ i, q_m1])
    subst hr
    exact (show _ = fn_X11_where_3 fu (iI t) (iI x) (iI y) (iI ((0 : Nat) : Int)) z from by rw [z0]).trans er
  · have none : ¬ ((0 ≤ t ∧ t < c 6 0) ∧ (0 ≤ x ∧ x ≤ c 0 t.toNat - 1) ∧ (0 ≤ y ∧ y ≤ c 1 t.toNat - 1)) → lof (hcb b t x y) (b 168).toNat = -1 := fun hno => lof_none _ fun q hq => by
      have hv := hV.2.2.1 q (by omega)
      unfold VP at hv
      refine Bool.eq_false_iff.mpr fun e => hno ?_
      have g := of_decide_eq_true e
      rw [g.1] at hv
      omega
    unfold fn_X12_where
    rw [bd_o (m_isTier h.mr hC ht)]
    by_cases g1 : 0 ≤ t ∧ t < c 6 0
    · have hr := h.mr.2.2.2.1 t.toNat (by omega)
      have hcc := hC.2.2.2.1 t.toNat (by omega)
      have h3 := hC.t (t := t.toNat) (by omega)
      rw [tr_1 g1, if_neg (by decide), gd_t (iI_ix (by omega)), iI_clamp (by omega), hr.1, q_1, iI_sub, q_0, bd_o (m_isIn hx (by omega) (by omega))]
      by_cases g2 : 0 ≤ x ∧ x ≤ c 0 t.toNat - 1
      · rw [tr_1 g2, if_neg (by decide), gd_t (iI_ix (by omega)), hr.2.1, iI_sub, bd_o (m_isIn hy (by omega) (by omega))]
        by_cases g3 : 0 ≤ y ∧ y ≤ c 1 t.toNat - 1
        · obtain ⟨-, -, -, -, hR', hB', -, -⟩ := h.ld
          have e168 : (ldz z).1 198 168 = iI (b 168) := hB'.1
          rw [tr_1 g3, if_neg (by decide), bv_o (m_load z)]
          obtain ⟨m, hm⟩ := loopK (fun m k => fn_X12_where_52 m (iI t) (iI x) (iI y) (iI (lof (hcb b t x y) k)) (iI (k : Int)) (ldz z)) (b 168).toNat (by omega) (fun k m hk => by
            have hp : (k : Int) < b 168 := by omega
            show fn_X12_where_52 (m + 1) _ _ _ _ _ _ = fn_X12_where_52 m _ _ _ _ _ _
            rw [fn_X12_where_52, c_168, e168, if_neg (nle (by omega) (by omega) (by omega)), bd_o (m_hasCell hC hV hB' ht (by omega) (by omega) hp), lof]
            unfold fn_X12_where_81
            by_cases hh : hcb b t x y k = true
            · rw [tr_1 hh, if_neg (by decide), if_pos hh, k1]
            · rw [tr_n hh, if_pos (show iI 0 = 0 from q_0.symm), if_neg hh, k1])
          refine ⟨ldz z, (show _ = fn_X12_where_52 fu (iI t) (iI x) (iI y) (iI (-1)) (iI ((0 : Nat) : Int)) (ldz z) from by rw [iI_neg, show iI ((0 : Nat) : Int) = iI 0 from rfl]).trans (hm.trans ?_)⟩
          rw [fn_X12_where_52, c_168, e168, if_pos (yle (by omega) (by omega) (by omega))]
        · refine ⟨z, ?_⟩
          rw [tr_n g3, if_pos rfl, none (fun q => g3 q.2.2), iI_neg]
      · refine ⟨z, ?_⟩
        rw [tr_n g2, if_pos rfl, none (fun q => g2 q.2.1), iI_neg]
    · refine ⟨z, ?_⟩
      rw [tr_n g1, if_pos (show iI 0 = 0 from q_0.symm), none (fun q => g1 q.1), q_m1]
end
