section
variable {z w : St} {c : RC} {F0 F1 : FO} {b : BD}
def qf (C R n p : Nat) : Bool := decide (p * (n / p) = n) && gok C R p (n / p)
def uv (C R n p : Nat) : Int := unv (C / p) (R / (n / p)) p (n / p)
/-- the best p up to k; 0, if there is none -/
def bS (C R n : Nat) : Nat → Nat
  | 0 => 0
  | k + 1 => if qf C R n (k + 1) then (if bS C R n k = 0 ∨ k + 1 + n / (k + 1) < bS C R n k + n / bS C R n k ∨ (k + 1 + n / (k + 1) = bS C R n k + n / bS C R n k ∧ uv C R n (k + 1) < uv C R n (bS C R n k)) then k + 1 else bS C R n k) else bS C R n k
def wS (C R n : Nat) : Nat → Nat
  | 0 => 0
  | k + 1 => wS C R n k + (if qf C R n (k + 1) then 1 else 0)
theorem qf_s {C R n p : Nat} (h : qf C R n p = true) : p * (n / p) = n ∧ gok C R p (n / p) = true := by
  unfold qf at h
  have := (Bool.and_eq_true _ _).mp h
  exact ⟨of_decide_eq_true this.1, this.2⟩
theorem bS_p {C R n : Nat} : ∀ k : Nat, bS C R n k ≤ k ∧ (bS C R n k ≠ 0 → qf C R n (bS C R n k) = true) ∧ (bS C R n k = 0 ↔ wS C R n k = 0) ∧ wS C R n k ≤ k := by
  intro k
  induction k with
  | zero => exact ⟨Nat.le_refl 0, fun h => absurd rfl h, Iff.rfl, Nat.le_refl 0⟩
  | succ k ih =>
    obtain ⟨i1, i2, i3, i4⟩ := ih
    rw [bS, wS]
    by_cases hq : qf C R n (k + 1) = true
    · rw [if_pos hq, if_pos hq]
      split
      · exact ⟨Nat.le_refl _, fun _ => hq, ⟨fun h => absurd h (by omega), fun h => absurd h (by omega)⟩, by omega⟩
      · rename_i hno
        have : bS C R n k ≠ 0 := fun e => hno (Or.inl e)
        exact ⟨by omega, i2, ⟨fun h => absurd h this, fun h => absurd h (by omega)⟩, by omega⟩
    · rw [if_neg hq, if_neg hq]
      exact ⟨by omega, i2, i3, by omega⟩
theorem bS_top {C R n K : Nat} (h : ∀ p, K < p → qf C R n p = false) : ∀ k, K ≤ k → bS C R n k = bS C R n K ∧ wS C R n k = wS C R n K := by
  intro k
  induction k with
  | zero => intro hk; rw [show K = 0 from by omega]; exact ⟨rfl, rfl⟩
  | succ k ih =>
    intro hk
    by_cases e : K = k + 1
    · rw [e]; exact ⟨rfl, rfl⟩
    · rw [bS, wS, h (k + 1) (by omega)]
      exact ih (by omega)
theorem qf_no {C R n p : Nat} (hn : 1 ≤ n) (h : C < p ∨ n < p) : qf C R n p = false := by
  refine Bool.eq_false_iff.mpr fun e => ?_
  obtain ⟨e1, e2⟩ := qf_s e
  have g := of_decide_eq_true e2
  rcases h with h | h
  · omega
  · rw [Nat.div_eq_of_lt h] at e1
    omega
theorem unv_b {w d p q : Nat} (hw : w ≤ 8) (hd : d ≤ 8) : -33 ≤ unv w d p q ∧ unv w d p q ≤ 33 := by
  have := unI_b (p := p) (q := q) hw hd p
  unfold unv
  omega
theorem uv_b {C R n p : Nat} (hC : C ≤ 8) (hR : R ≤ 8) : -33 ≤ uv C R n p ∧ uv C R n p ≤ 33 :=
  unv_b (Nat.le_trans (Nat.div_le_self _ _) hC) (Nat.le_trans (Nat.div_le_self _ _) hR)
theorem x_search {C R n : Nat} (hC : 1 ≤ C ∧ C ≤ 8) (hR : 1 ≤ R ∧ R ≤ 8) (hn : 1 ≤ n ∧ n ≤ 64) : ∃ w, fn_X3_search (iI (C : Int)) (iI (R : Int)) (iI (n : Int)) z = some (iI ((wS C R n 8 : Nat) : Int), w) ∧ (bS C R n 8 ≠ 0 → w.1 161 0 = iI ((bS C R n 8 : Nat) : Int) ∧ w.1 161 1 = iI ((n / bS C R n 8 : Nat) : Int) ∧ w.1 161 2 = iI ((bS C R n 8 : Int) + ((n / bS C R n 8 : Nat) : Int) - 2) ∧ w.1 161 3 = iI (uv C R n (bS C R n 8))) := by
  generalize hK : min C n = K
  have hKC : K ≤ C := by omega
  have hKn : K ≤ n := by omega
  have top := bS_top (C := C) (R := R) (n := n) (K := K) (fun p hp => qf_no hn.1 (by omega)) 8 (by omega)
  rw [top.1, top.2]
  obtain ⟨m, s, i1, hm⟩ := loopE (fun m k s => fn_X3_search_6 m (iI (C : Int)) (iI (R : Int)) (iI (n : Int)) (iI ((wS C R n k : Nat) : Int)) (iI ((k + 1 : Nat) : Int)) s) (fun k s => bS C R n k ≠ 0 → s.1 161 0 = iI ((bS C R n k : Nat) : Int) ∧ s.1 161 1 = iI ((n / bS C R n k : Nat) : Int) ∧ s.1 161 2 = iI ((bS C R n k : Int) + ((n / bS C R n k : Nat) : Int) - 2) ∧ s.1 161 3 = iI (uv C R n (bS C R n k))) K (by omega) z (fun h => absurd rfl h) (fun k m s hk i => by
    obtain ⟨b1, b2, b3, b4⟩ := bS_p (C := C) (R := R) (n := n) k
    show ∃ s', _ ∧ fn_X3_search_6 (m + 1) _ _ _ _ _ _ = fn_X3_search_6 m _ _ _ _ _ _
    have hdl := Nat.div_le_self n (k + 1)
    rw [fn_X3_search_6, if_neg (nlt (by omega) (by omega) (by omega)), if_neg (nlt (by omega) (by omega) (by omega)), gd_t (ne0 (by omega)), nm_o, ndiv (by omega) (by omega), iI_mul]
    unfold fn_X3_search_102 fn_X3_search_126 fn_X3_search_129
    have hmul : (((k + 1 : Nat) : Int) * ((n / (k + 1) : Nat) : Int)) = (((k + 1) * (n / (k + 1)) : Nat) : Int) := (Int.natCast_mul _ _).symm
    have hle := Nat.mul_div_le n (k + 1)
    by_cases h1 : (k + 1) * (n / (k + 1)) = n
    · rw [if_pos (by rw [hmul, h1]), bd_o (x_canBe (by omega) (by omega) (by omega) (by omega))]
      by_cases h2 : gok C R (k + 1) (n / (k + 1)) = true
      · have hqf : qf C R n (k + 1) = true := by unfold qf; rw [decide_eq_true h1, h2]; rfl
        obtain ⟨q1, q2, q3, q4, q5, q6⟩ := gok_s h2 hC.2 hR.2
        have hsp : (spS (isI (C / (k + 1)) (R / (n / (k + 1))) (k + 1) (n / (k + 1)) (k + 1)) 33).2 - (spS (isI (C / (k + 1)) (R / (n / (k + 1))) (k + 1) (n / (k + 1)) (k + 1)) 33).1 = uv C R n (k + 1) := spr_unv q1 q2
        have hu1 := uv_b (n := n) (p := k + 1) hC.2 hR.2
        have hu2 := uv_b (n := n) (p := bS C R n k) hC.2 hR.2
        have hbd := Nat.div_le_self n (bS C R n k)
        have hr0 := Int.natCast_nonneg (n / bS C R n k)
        rw [tr_1 h2, if_neg (by decide), bd_o (x_icingSet hC.2 hR.2 h2), bd_o (x_spread _), hsp, nm_o, q_2, iI_add, iI_sub, k1, k1]
        have ewS : wS C R n (k + 1) = wS C R n k + 1 := by rw [wS, if_pos hqf]
        have eb1 : bS C R n k = 0 ∨ k + 1 + n / (k + 1) < bS C R n k + n / bS C R n k ∨ (k + 1 + n / (k + 1) = bS C R n k + n / bS C R n k ∧ uv C R n (k + 1) < uv C R n (bS C R n k)) → bS C R n (k + 1) = k + 1 := fun q => by rw [bS, if_pos hqf, if_pos q]
        have eb2 : ¬ (bS C R n k = 0 ∨ k + 1 + n / (k + 1) < bS C R n k + n / bS C R n k ∨ (k + 1 + n / (k + 1) = bS C R n k + n / bS C R n k ∧ uv C R n (k + 1) < uv C R n (bS C R n k))) → bS C R n (k + 1) = bS C R n k := fun q => by rw [bS, if_pos hqf, if_neg q]
        rw [ewS]
        have put : ∃ s', ((k + 1 ≠ 0 → s'.1 161 0 = iI ((k + 1 : Nat) : Int) ∧ s'.1 161 1 = iI ((n / (k + 1) : Nat) : Int) ∧ s'.1 161 2 = iI (((k + 1 : Nat) : Int) + ((n / (k + 1) : Nat) : Int) - 2) ∧ s'.1 161 3 = iI (uv C R n (k + 1)))) ∧ (nm (sI s 161 0 (iI ((k + 1 : Nat) : Int))) fun z1 => nm (sI z1 161 1 (iI ((n / (k + 1) : Nat) : Int))) fun z2 => nm (sI z2 161 2 (iI (((k + 1 : Nat) : Int) + ((n / (k + 1) : Nat) : Int) - 2))) fun z3 => nm (sI z3 161 3 (iI (uv C R n (k + 1)))) fun z4 => fn_X3_search_6 m (iI (C : Int)) (iI (R : Int)) (iI (n : Int)) (iI ((wS C R n k + 1 : Nat) : Int)) (iI ((k + 1 + 1 : Nat) : Int)) z4) = fn_X3_search_6 m (iI (C : Int)) (iI (R : Int)) (iI (n : Int)) (iI ((wS C R n k + 1 : Nat) : Int)) (iI ((k + 1 + 1 : Nat) : Int)) s' :=
          ⟨_, fun _ => ⟨by simp [sI], by simp [sI], by simp [sI], by simp [sI]⟩, rfl⟩
        by_cases h3 : bS C R n k = 0
        · rw [eb1 (Or.inl h3), show wS C R n k = 0 from b3.mp h3, if_pos z0]
          rw [b3.mp h3] at put
          exact put
        · have i' := i h3
          have hw0 : ¬ wS C R n k = 0 := fun e => h3 (b3.mpr e)
          rw [if_neg (i0_ne (by omega) (by omega)), i'.2.2.1, i'.2.2.2]
          by_cases h4 : k + 1 + n / (k + 1) < bS C R n k + n / bS C R n k
          · rw [if_pos (ylt (by omega) (by omega) (by omega)), eb1 (Or.inr (Or.inl h4))]
            exact put
          · rw [if_neg (nlt (by omega) (by omega) (by omega))]
            by_cases h5 : k + 1 + n / (k + 1) = bS C R n k + n / bS C R n k
            · rw [if_pos (yeq (by omega) (by omega) (by omega))]
              by_cases h6 : uv C R n (k + 1) < uv C R n (bS C R n k)
              · rw [if_neg (nle (by omega) (by omega) (by omega)), eb1 (Or.inr (Or.inr ⟨h5, h6⟩))]
                exact put
              · rw [if_pos (yle (by omega) (by omega) (by omega)), eb2 (by omega)]
                exact ⟨s, i, rfl⟩
            · rw [if_neg (neq (by omega) (by omega) (by omega)), eb2 (by omega)]
              exact ⟨s, i, rfl⟩
      · have hqf : ¬ qf C R n (k + 1) = true := fun e => h2 (qf_s e).2
        rw [tr_n h2, if_pos (show iI 0 = 0 from q_0.symm), k1, show bS C R n (k + 1) = bS C R n k from by rw [bS, if_neg hqf], show wS C R n (k + 1) = wS C R n k from by rw [wS, if_neg hqf]; rfl]
        exact ⟨s, i, rfl⟩
    · have hqf : ¬ qf C R n (k + 1) = true := fun e => h1 (qf_s e).1
      rw [if_neg (by rw [hmul]; exact neq (by omega) (by omega) (by omega)), k1, show bS C R n (k + 1) = bS C R n k from by rw [bS, if_neg hqf], show wS C R n (k + 1) = wS C R n k from by rw [wS, if_neg hqf]; rfl]
      exact ⟨s, i, rfl⟩)
  have b4 := (bS_p (C := C) (R := R) (n := n) K).2.2.2
  unfold fn_X3_search
  refine ⟨s, (show _ = fn_X3_search_6 fu (iI (C : Int)) (iI (R : Int)) (iI (n : Int)) (iI ((0 : Nat) : Int)) (iI ((0 + 1 : Nat) : Int)) z from by rw [z0, show iI ((0 + 1 : Nat) : Int) = 1 from q_1.symm]).trans (hm.trans ?_), i1⟩
  show fn_X3_search_6 (m + 1) _ _ _ _ _ _ = _
  rw [fn_X3_search_6]
  by_cases hc : C < K + 1
  · rw [if_pos (ylt (by omega) (by omega) (by omega))]
  · rw [if_neg (nlt (by omega) (by omega) (by omega)), if_pos (ylt (by omega) (by omega) (by omega))]
theorem x_alike {t n : Int} (hR : XR z c) (hC : VC c) (ht : -2147483648 ≤ t ∧ t < 2147483648) (hn : -2147483648 ≤ n ∧ n < 2147483648) : fn_X11_canBeAlike (iI t) (iI n) z = some (iI (tr ((0 ≤ t ∧ t < c 6 0) ∧ (1 ≤ n ∧ n ≤ 64))), z) := by
  unfold fn_X11_canBeAlike
  rw [bd_o (x_isTier hR hC ht)]
  by_cases g1 : 0 ≤ t ∧ t < c 6 0
  · rw [tr_1 g1, if_neg (by decide)]
    by_cases g2 : n < 1
    · rw [if_pos (by rw [q_1]; exact ylt (by omega) (by omega) g2), tr_n (by omega), q_0]
    · rw [if_neg (by rw [q_1]; exact nlt (by omega) (by omega) g2)]
      by_cases g3 : 64 < n
      · rw [if_pos (by rw [q_64]; exact ylt (by omega) (by omega) g3), tr_n (by omega), q_0]
      · rw [if_neg (by rw [q_64]; exact nlt (by omega) (by omega) g3), tr_1 (by omega), q_1]
  · rw [tr_n g1, if_pos (show iI 0 = 0 from q_0.symm), tr_n (fun q => g1 q.1), q_0]
/-- a tier's numbers -/
theorem tier_n (hC : VC c) {t : Int} (ht : 0 ≤ t ∧ t < c 6 0) : ∃ T C R H : Nat, t = T ∧ T < 3 ∧ ((T : Int) < c 6 0) ∧ c 0 T = C ∧ c 1 T = R ∧ c 2 T = H ∧ (1 ≤ C ∧ C ≤ 8) ∧ (1 ≤ R ∧ R ≤ 8) ∧ (1 ≤ H ∧ H ≤ 9) := by
  have h := hC.2.2.2.1 t.toNat (by omega)
  have h3 := hC.t (t := t.toNat) (by omega)
  exact ⟨t.toNat, (c 0 t.toNat).toNat, (c 1 t.toNat).toNat, (c 2 t.toNat).toNat, by omega, h3, by omega, by omega, by omega, by omega, by omega, by omega, by omega⟩
def bb (k : Nat) : Int := if k = 0 then -1 else k
theorem m_grid35 {t C R n : Nat} {y : Int} (ht : t < 3) (e1 : z.1 188 t = iI (C : Int)) (e2 : z.1 189 t = iI (R : Int)) (hC : 1 ≤ C ∧ C ≤ 8) (hR : 1 ≤ R ∧ R ≤ 8) (hn : 1 ≤ n ∧ n ≤ 64) (hy : 0 ≤ y ∧ y ≤ 3) : fn_X12_grid_35 fu (iI (t : Int)) (iI (n : Int)) (iI y) (-1) 1 z = some (if bS C R n 8 = 0 then -1 else if y = 0 then iI ((bS C R n 8 : Nat) : Int) else if y = 1 then iI ((n / bS C R n 8 : Nat) : Int) else if y = 2 then iI ((bS C R n 8 : Int) + ((n / bS C R n 8 : Nat) : Int) - 2) else iI (uv C R n (bS C R n 8)), z) := by
  obtain ⟨m, hm⟩ := loopK (fun m k => fn_X12_grid_35 m (iI (t : Int)) (iI (n : Int)) (iI y) (iI (bb (bS C R n k))) (iI ((k + 1 : Nat) : Int)) z) 8 (by omega) (fun k m hk => by
    obtain ⟨b1, b2, b3, b4⟩ := bS_p (C := C) (R := R) (n := n) k
    have hdl := Nat.div_le_self n (k + 1)
    have hle := Nat.mul_div_le n (k + 1)
    have hmul : (((k + 1 : Nat) : Int) * ((n / (k + 1) : Nat) : Int)) = (((k + 1) * (n / (k + 1)) : Nat) : Int) := (Int.natCast_mul _ _).symm
    show fn_X12_grid_35 (m + 1) _ _ _ _ _ _ = fn_X12_grid_35 m _ _ _ _ _ _
    rw [fn_X12_grid_35, if_neg (by rw [q_8]; exact nlt (by omega) (by omega) (by omega)), gd_t (ne0 (by omega)), nm_o, ndiv (by omega) (by omega), iI_mul, bS]
    unfold fn_X12_grid_101 fn_X12_grid_136 fn_X12_grid_140
    rw [k1]
    by_cases h1 : (k + 1) * (n / (k + 1)) = n
    · have hq1 : 1 ≤ n / (k + 1) := Nat.pos_of_ne_zero fun e => by rw [e] at h1; omega
      rw [if_pos (by rw [hmul, h1])]
      by_cases h8 : 8 < n / (k + 1)
      · have hqf : ¬ qf C R n (k + 1) = true := fun e => by
          have := of_decide_eq_true (qf_s e).2
          omega
        rw [if_pos (by rw [q_8]; exact ylt (by omega) (by omega) (by omega)), if_neg hqf]
      · rw [if_neg (by rw [q_8]; exact nlt (by omega) (by omega) (by omega)), bd_o (m_isGrid ht e1 e2 hC hR (by omega) (by omega))]
        by_cases h2 : gok C R (k + 1) (n / (k + 1)) = true
        · have hqf : qf C R n (k + 1) = true := by unfold qf; rw [decide_eq_true h1, h2]; rfl
          have hu1 := uv_b (n := n) (p := k + 1) hC.2 hR.2
          have hu2 := uv_b (n := n) (p := bS C R n k) hC.2 hR.2
          rw [tr_1 h2, if_neg (by decide), if_pos hqf]
          by_cases h3 : bS C R n k = 0
          · rw [if_pos (Or.inl h3), show bb (bS C R n k) = -1 from if_pos h3, if_neg (by decide), if_pos (by decide), show bb (k + 1) = ((k + 1 : Nat) : Int) from if_neg (by omega)]
          · have hbd := Nat.div_le_self n (bS C R n k)
            have hbq := of_decide_eq_true (qf_s (b2 h3)).2
            have e8 : bb (bS C R n k) = (bS C R n k : Int) := if_neg h3
            rw [e8, if_pos (by rw [q_0]; exact yle (by omega) (by omega) (by omega)), gd_t (ne0 (by omega)), ndiv (by omega) (by omega), iI_add, iI_sub, iI_sub]
            by_cases h4 : k + 1 + n / (k + 1) < bS C R n k + n / bS C R n k
            · rw [if_pos (by rw [q_0]; exact ylt (by omega) (by omega) (by omega)), if_pos (Or.inr (Or.inl h4)), show bb (k + 1) = ((k + 1 : Nat) : Int) from if_neg (by omega)]
            · rw [if_neg (by rw [q_0]; exact nlt (by omega) (by omega) (by omega))]
              by_cases h5 : k + 1 + n / (k + 1) = bS C R n k + n / bS C R n k
              · rw [if_pos (show iI ((((k + 1 : Nat) : Int) + ((n / (k + 1) : Nat) : Int)) - (bS C R n k : Int) - ((n / bS C R n k : Nat) : Int)) = 0 from by rw [q_0]; congr 1; omega), bd_o (m_uneven ht e1 e2 hC.2 hR.2 (by omega) (by omega)), gd_t (ne0 (by omega)), bd_o (m_uneven ht e1 e2 hC.2 hR.2 (by omega) (by omega)), show unv (C / (k + 1)) (R / (n / (k + 1))) (k + 1) (n / (k + 1)) = uv C R n (k + 1) from rfl, show unv (C / bS C R n k) (R / (n / bS C R n k)) (bS C R n k) (n / bS C R n k) = uv C R n (bS C R n k) from rfl]
                by_cases h6 : uv C R n (k + 1) < uv C R n (bS C R n k)
                · rw [if_neg (nle (by omega) (by omega) (by omega)), if_pos (Or.inr (Or.inr ⟨h5, h6⟩)), show bb (k + 1) = ((k + 1 : Nat) : Int) from if_neg (by omega)]
                · rw [if_pos (yle (by omega) (by omega) (by omega)), if_neg (by omega), e8]
              · rw [if_neg (i0_ne (by omega) (by omega)), if_neg (by omega), e8]
        · have hqf : ¬ qf C R n (k + 1) = true := fun e => h2 (qf_s e).2
          rw [tr_n h2, if_pos (show iI 0 = 0 from q_0.symm), if_neg hqf]
    · have hqf : ¬ qf C R n (k + 1) = true := fun e => h1 (qf_s e).1
      rw [if_neg (by rw [hmul]; exact neq (by omega) (by omega) (by omega)), if_neg hqf])
  obtain ⟨b1, b2, b3, b4⟩ := bS_p (C := C) (R := R) (n := n) 8
  refine (show _ = fn_X12_grid_35 fu (iI (t : Int)) (iI (n : Int)) (iI y) (iI (-1)) (iI ((0 + 1 : Nat) : Int)) z from by rw [← q_m1, show iI ((0 + 1 : Nat) : Int) = 1 from q_1.symm]).trans (hm.trans ?_)
  rw [fn_X12_grid_35, if_pos (by rw [q_8]; exact ylt (by omega) (by omega) (by omega))]
  by_cases h3 : bS C R n 8 = 0
  · rw [if_pos h3, show bb (bS C R n 8) = -1 from if_pos h3, if_neg (by decide)]
  · have hbd := Nat.div_le_self n (bS C R n 8)
    have hbq := of_decide_eq_true (qf_s (b2 h3)).2
    have e8 : bb (bS C R n 8) = (bS C R n 8 : Int) := if_neg h3
    rw [if_neg h3, e8, if_pos (by rw [q_0]; exact yle (by omega) (by omega) (by omega)), gd_t (ne0 (by omega)), nm_o, ndiv (by omega) (by omega), bd_o (m_uneven ht e1 e2 hC.2 hR.2 (by omega) (by omega)), q_2, iI_add, iI_sub]
    by_cases y0 : y = 0
    · rw [if_pos (by rw [y0]; exact q_0.symm), if_pos y0]
    · rw [if_neg (i0_ne (by omega) y0), if_neg y0]
      by_cases y1 : y = 1
      · rw [if_pos (by rw [y1]; exact q_1.symm), if_pos y1]
      · rw [if_neg (i1_ne (by omega) y1), if_neg y1]
        by_cases y2 : y = 2
        · rw [if_pos (by rw [y2]), if_pos y2]
        · rw [if_neg (neq (by omega) (by omega) y2), if_neg y2]
          rfl
theorem s_grid (u v x : Int32) (h : RD z c F0 F1 b) : Same (fn_X11_grid u v x) (fn_X12_grid u v x) z := by
  obtain ⟨t, rfl, ht⟩ := ii u
  obtain ⟨n, rfl, hn⟩ := ii v
  obtain ⟨y, rfl, hy⟩ := ii x
  have hC := h.vc
  by_cases h1 : (0 ≤ t ∧ t < c 6 0) ∧ (1 ≤ n ∧ n ≤ 64) ∧ (0 ≤ y ∧ y ≤ 3)
  · obtain ⟨g1, g2, g3⟩ := h1
    obtain ⟨T, C, R, H, rfl, t3, tc, eC, eR, eH, bC, bR, bH⟩ := tier_n hC g1
    obtain ⟨N, rfl⟩ : ∃ N : Nat, n = N := ⟨n.toNat, by omega⟩
    refine qry (if bS C R N 8 = 0 then -1 else if y = 0 then iI ((bS C R N 8 : Nat) : Int) else if y = 1 then iI ((N / bS C R N 8 : Nat) : Int) else if y = 2 then iI ((bS C R N 8 : Int) + ((N / bS C R N 8 : Nat) : Int) - 2) else iI (uv C R N (bS C R N 8))) h (fun z h => ?_) (fun z w e a k h => ff_X11_grid (by unfold PS at h; show ¬ (a = 161 ∧ k = 0) ∧ ¬ (a = 161 ∧ k = 1) ∧ ¬ (a = 161 ∧ k = 2) ∧ ¬ (a = 161 ∧ k = 3); omega) e) (fun z h => ?_) (fun z w e a k h => ff_X12_grid (by trivial) e)
    · have hr := h.xr.2.2.2.1 T tc
      obtain ⟨w, e, hw⟩ := x_search (z := z) bC bR (n := N) (by omega)
      obtain ⟨b1, b2, b3, b4⟩ := bS_p (C := C) (R := R) (n := N) 8
      unfold fn_X11_grid
      rw [bd_o (x_alike h.xr hC ht hn), tr_1 ⟨g1, g2⟩, if_neg (by decide), gd_t (iI_ix (by omega)), gd_t (iI_ix (by omega)), iI_clampN (by omega), hr.1, hr.2.1, eC, eR, bd_o e]
      refine ⟨w, ?_⟩
      by_cases h3 : bS C R N 8 = 0
      · rw [if_pos h3, b3.mp h3, if_pos z0]
      · have hw' := hw h3
        rw [if_neg h3, if_neg (i0_ne (by omega) (by omega)), hw'.1, hw'.2.1, hw'.2.2.1, hw'.2.2.2]
        by_cases y0 : y = 0
        · rw [if_pos (by rw [y0]; exact q_0.symm), if_pos y0]
        · rw [if_neg (i0_ne (by omega) y0), if_neg y0]
          by_cases y1 : y = 1
          · rw [if_pos (by rw [y1]; exact q_1.symm), if_pos y1]
          · rw [if_neg (i1_ne (by omega) y1), if_neg y1]
            by_cases y2 : y = 2
            · rw [if_pos (by rw [y2]; exact q_2.symm), if_pos y2]
            · rw [if_neg (by rw [q_2]; exact neq (by omega) (by omega) y2), if_neg y2, if_pos (by rw [show y = 3 from by omega]; exact q_3.symm)]
    · have hr := h.mr.2.2.2.1 T tc
      unfold fn_X12_grid
      rw [bd_o (m_isTier h.mr hC ht), tr_1 g1, if_neg (by decide), bd_o (show fn_X12_isIn (iI (N : Int)) 1 64 z = some (iI (tr (1 ≤ (N : Int) ∧ (N : Int) ≤ 64)), z) from by rw [q_1, q_64]; exact m_isIn hn (by omega) (by omega)), tr_1 g2, if_neg (by decide), bd_o (show fn_X12_isIn (iI y) 0 3 z = some (iI (tr (0 ≤ y ∧ y ≤ 3)), z) from by rw [q_0, q_3]; exact m_isIn hy (by omega) (by omega)), tr_1 g3, if_neg (by decide)]
      exact ⟨z, m_grid35 t3 (by rw [hr.1, eC]) (by rw [hr.2.1, eR]) bC bR (by omega) g3⟩
  · refine qry (-1) h (fun z h => ?_) (fun z w e a k h => ff_X11_grid (by unfold PS at h; show ¬ (a = 161 ∧ k = 0) ∧ ¬ (a = 161 ∧ k = 1) ∧ ¬ (a = 161 ∧ k = 2) ∧ ¬ (a = 161 ∧ k = 3); omega) e) (fun z h => ?_) (fun z w e a k h => ff_X12_grid (by trivial) e)
    · unfold fn_X11_grid
      rw [bd_o (x_alike h.xr hC ht hn)]
      by_cases g : (0 ≤ t ∧ t < c 6 0) ∧ (1 ≤ n ∧ n ≤ 64)
      · obtain ⟨T, C, R, H, rfl, t3, tc, eC, eR, eH, bC, bR, bH⟩ := tier_n hC g.1
        obtain ⟨N, rfl⟩ : ∃ N : Nat, n = N := ⟨n.toNat, by omega⟩
        have hr := h.xr.2.2.2.1 T tc
        obtain ⟨w, e, hw⟩ := x_search (z := z) bC bR (n := N) (by omega)
        have b4 := (bS_p (C := C) (R := R) (n := N) 8).2.2.2
        rw [tr_1 g, if_neg (by decide), gd_t (iI_ix (by omega)), gd_t (iI_ix (by omega)), iI_clampN (by omega), hr.1, hr.2.1, eC, eR, bd_o e]
        refine ⟨w, ?_⟩
        by_cases hw0 : wS C R N 8 = 0
        · rw [hw0, if_pos z0]
        · rw [if_neg (i0_ne (by omega) (by omega)), if_neg (i0_ne hy (by omega)), if_neg (i1_ne hy (by omega)), if_neg (by rw [q_2]; exact neq hy (by omega) (by omega)), if_neg (by rw [q_3]; exact neq hy (by omega) (by omega))]
      · exact ⟨z, by rw [tr_n g, if_pos (show iI 0 = 0 from q_0.symm)]⟩
    · unfold fn_X12_grid
      rw [bd_o (m_isTier h.mr hC ht)]
      by_cases g1 : 0 ≤ t ∧ t < c 6 0
      · rw [tr_1 g1, if_neg (by decide), bd_o (show fn_X12_isIn (iI n) 1 64 z = some (iI (tr (1 ≤ n ∧ n ≤ 64)), z) from by rw [q_1, q_64]; exact m_isIn hn (by omega) (by omega))]
        by_cases g2 : 1 ≤ n ∧ n ≤ 64
        · rw [tr_1 g2, if_neg (by decide), bd_o (show fn_X12_isIn (iI y) 0 3 z = some (iI (tr (0 ≤ y ∧ y ≤ 3)), z) from by rw [q_0, q_3]; exact m_isIn hy (by omega) (by omega)), tr_n (fun g3 => h1 ⟨g1, g2, g3⟩), if_pos (show iI 0 = 0 from q_0.symm)]
          exact ⟨z, rfl⟩
        · rw [tr_n g2, if_pos (show iI 0 = 0 from q_0.symm)]
          exact ⟨z, rfl⟩
      · rw [tr_n g1, if_pos (show iI 0 = 0 from q_0.symm)]
        exact ⟨z, rfl⟩
end
