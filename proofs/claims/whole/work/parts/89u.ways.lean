section
variable {z w : St} {c : RC} {F0 F1 : FO} {b : BD}
/-! ways -/
def vS (C R n p : Nat) : Nat → Nat
  | 0 => 0
  | j + 1 => vS C R n p j + (if p * (j + 1) = n ∧ gok C R p (j + 1) = true then 1 else 0)
theorem vS_e {C R n p : Nat} (hp : 1 ≤ p) (hn : 1 ≤ n) : ∀ j : Nat, vS C R n p j = if qf C R n p = true ∧ n / p ≤ j then 1 else 0 := by
  intro j
  induction j with
  | zero =>
    rw [vS, if_neg]
    rintro ⟨h1, h2⟩
    have := (qf_s h1).1
    rw [Nat.eq_zero_of_le_zero h2] at this
    omega
  | succ j ih =>
    rw [vS, ih]
    by_cases h1 : p * (j + 1) = n
    · have hd : n / p = j + 1 := by rw [← h1]; exact Nat.mul_div_cancel_left _ hp
      have hq : qf C R n p = gok C R p (j + 1) := by unfold qf; rw [hd, decide_eq_true h1]; rfl
      rw [hd, hq, if_neg (show ¬ (gok C R p (j + 1) = true ∧ j + 1 ≤ j) from fun q => by omega)]
      by_cases h2 : gok C R p (j + 1) = true
      · rw [if_pos ⟨h1, h2⟩, if_pos ⟨h2, Nat.le_refl _⟩]
      · rw [if_neg (fun q => h2 q.2), if_neg (fun q => h2 q.1)]
    · rw [if_neg (show ¬ (p * (j + 1) = n ∧ gok C R p (j + 1) = true) from fun q => h1 q.1), Nat.add_zero]
      by_cases h2 : qf C R n p = true
      · have h3 := (qf_s h2).1
        have h4 : n / p ≠ j + 1 := fun e => h1 (by rw [← e]; exact h3)
        by_cases h5 : n / p ≤ j
        · rw [if_pos ⟨h2, h5⟩, if_pos ⟨h2, by omega⟩]
        · rw [if_neg (fun q => h5 q.2), if_neg (fun q => by omega)]
      · rw [if_neg (fun q => h2 q.1), if_neg (fun q => h2 q.1)]
theorem vS_8 {C R n p : Nat} (hp : 1 ≤ p) (hn : 1 ≤ n) (hR : R ≤ 8) : vS C R n p 8 = if qf C R n p then 1 else 0 := by
  rw [vS_e hp hn]
  by_cases h : qf C R n p = true
  · have := of_decide_eq_true (qf_s h).2
    rw [if_pos ⟨h, by omega⟩, if_pos h]
  · rw [if_neg (fun q => h q.1), if_neg h]
theorem vS_b {C R n p : Nat} : ∀ j : Nat, vS C R n p j ≤ j := by
  intro j
  induction j with
  | zero => exact Nat.le_refl 0
  | succ j ih => rw [vS]; split <;> omega
theorem m_ways25 {t C R n : Nat} (ht : t < 3) (e1 : z.1 188 t = iI (C : Int)) (e2 : z.1 189 t = iI (R : Int)) (hC : 1 ≤ C ∧ C ≤ 8) (hR : 1 ≤ R ∧ R ≤ 8) (hn : 1 ≤ n ∧ n ≤ 64) : fn_X12_ways_25 fu (iI (t : Int)) (iI (n : Int)) 0 1 z = some (iI ((wS C R n 8 : Nat) : Int), z) := by
  obtain ⟨m, hm⟩ := loopK (fun m k => fn_X12_ways_25 m (iI (t : Int)) (iI (n : Int)) (iI ((wS C R n k : Nat) : Int)) (iI ((k + 1 : Nat) : Int)) z) 8 (by omega) (fun k m hk => by
    have b4 := (bS_p (C := C) (R := R) (n := n) k).2.2.2
    show fn_X12_ways_25 (m + 1) _ _ _ _ _ = fn_X12_ways_25 m _ _ _ _ _
    rw [fn_X12_ways_25, if_neg (by rw [q_8]; exact nlt (by omega) (by omega) (by omega))]
    obtain ⟨m2, hm2⟩ := loopK (fun m2 j => fn_X12_ways_35 (fn_X12_ways_25 m) m2 (iI (t : Int)) (iI (n : Int)) (iI ((wS C R n k + vS C R n (k + 1) j : Nat) : Int)) (iI ((k + 1 : Nat) : Int)) (iI ((j + 1 : Nat) : Int)) z) 8 (by omega) (fun j m2 hj => by
      have hv := vS_b (C := C) (R := R) (n := n) (p := k + 1) j
      have hmul : (((k + 1 : Nat) : Int) * ((j + 1 : Nat) : Int)) = (((k + 1) * (j + 1) : Nat) : Int) := (Int.natCast_mul _ _).symm
      have hmb : (k + 1) * (j + 1) ≤ 8 * 8 := Nat.mul_le_mul (by omega) (by omega)
      show fn_X12_ways_35 _ (m2 + 1) _ _ _ _ _ _ = fn_X12_ways_35 _ m2 _ _ _ _ _ _
      rw [fn_X12_ways_35, if_neg (by rw [q_8]; exact nlt (by omega) (by omega) (by omega)), vS, iI_mul, hmul]
      unfold fn_X12_ways_68 fn_X12_ways_69
      by_cases h1 : (k + 1) * (j + 1) = n
      · rw [if_pos (by rw [h1]), bd_o (m_isGrid ht e1 e2 hC hR (by omega) (by omega))]
        by_cases h2 : gok C R (k + 1) (j + 1) = true
        · rw [tr_1 h2, if_neg (by decide), bd_o m_truth1, nm_o, k1, k1, if_pos ⟨h1, h2⟩, Nat.add_assoc]
        · rw [tr_n h2, if_pos (show iI 0 = 0 from q_0.symm), bd_o m_truth0, nm_o, k1, q_0, iI_add, if_neg (fun q => h2 q.2), Int.add_zero, Nat.add_zero (vS C R n (k + 1) j)]
      · rw [if_neg (neq (by omega) (by omega) (by omega)), bd_o m_truth0, nm_o, k1, q_0, iI_add, if_neg (fun q => h1 q.1), Int.add_zero, Nat.add_zero (vS C R n (k + 1) j)])
    refine (show _ = fn_X12_ways_35 (fn_X12_ways_25 m) fu (iI (t : Int)) (iI (n : Int)) (iI ((wS C R n k + vS C R n (k + 1) 0 : Nat) : Int)) (iI ((k + 1 : Nat) : Int)) (iI ((0 + 1 : Nat) : Int)) z from by rw [show iI ((0 + 1 : Nat) : Int) = 1 from q_1.symm]; rfl).trans (hm2.trans ?_)
    rw [fn_X12_ways_35, if_pos (by rw [q_8]; exact ylt (by omega) (by omega) (by omega)), k1, vS_8 (by omega) hn.1 hR.2, wS])
  have b4 := (bS_p (C := C) (R := R) (n := n) 8).2.2.2
  refine (show _ = fn_X12_ways_25 fu (iI (t : Int)) (iI (n : Int)) (iI ((0 : Nat) : Int)) (iI ((0 + 1 : Nat) : Int)) z from by rw [z0, show iI ((0 + 1 : Nat) : Int) = 1 from q_1.symm]).trans (hm.trans ?_)
  rw [fn_X12_ways_25, if_pos (by rw [q_8]; exact ylt (by omega) (by omega) (by omega))]
theorem s_ways (u v : Int32) (h : RD z c F0 F1 b) : Same (fn_X11_ways u v) (fn_X12_ways u v) z := by
  obtain ⟨t, rfl, ht⟩ := ii u
  obtain ⟨n, rfl, hn⟩ := ii v
  have hC := h.vc
  by_cases h1 : (0 ≤ t ∧ t < c 6 0) ∧ (1 ≤ n ∧ n ≤ 64)
  · obtain ⟨T, C, R, H, rfl, t3, tc, eC, eR, eH, bC, bR, bH⟩ := tier_n hC h1.1
    obtain ⟨N, rfl⟩ : ∃ N : Nat, n = N := ⟨n.toNat, by omega⟩
    refine qry (iI ((wS C R N 8 : Nat) : Int)) h (fun z h => ?_) (fun z w e a k h => ff_X11_ways (by unfold PS at h; show ¬ (a = 161 ∧ k = 0) ∧ ¬ (a = 161 ∧ k = 1) ∧ ¬ (a = 161 ∧ k = 2) ∧ ¬ (a = 161 ∧ k = 3); omega) e) (fun z h => ?_) (fun z w e a k h => ff_X12_ways (by trivial) e)
    · have hr := h.xr.2.2.2.1 T tc
      obtain ⟨w, e, hw⟩ := x_search (z := z) bC bR (n := N) (by omega)
      unfold fn_X11_ways
      rw [bd_o (x_alike h.xr hC ht hn), tr_1 h1, if_neg (by decide), gd_t (iI_ix (by omega)), gd_t (iI_ix (by omega)), iI_clampN (by omega), hr.1, hr.2.1, eC, eR, bd_o e]
      exact ⟨w, rfl⟩
    · have hr := h.mr.2.2.2.1 T tc
      unfold fn_X12_ways
      rw [bd_o (m_isTier h.mr hC ht), tr_1 h1.1, if_neg (by decide), bd_o (show fn_X12_isIn (iI (N : Int)) 1 64 z = some (iI (tr (1 ≤ (N : Int) ∧ (N : Int) ≤ 64)), z) from by rw [q_1, q_64]; exact m_isIn hn (by omega) (by omega)), tr_1 h1.2, if_neg (by decide)]
      exact ⟨z, m_ways25 t3 (by rw [hr.1, eC]) (by rw [hr.2.1, eR]) bC bR (by omega)⟩
  · refine ⟨-1, z, z, ?_, ?_, c, F0, F1, b, h⟩
    · unfold fn_X11_ways
      rw [bd_o (x_alike h.xr hC ht hn), tr_n h1, if_pos (show iI 0 = 0 from q_0.symm)]
    · unfold fn_X12_ways
      rw [bd_o (m_isTier h.mr hC ht)]
      by_cases g1 : 0 ≤ t ∧ t < c 6 0
      · rw [tr_1 g1, if_neg (by decide), bd_o (show fn_X12_isIn (iI n) 1 64 z = some (iI (tr (1 ≤ n ∧ n ≤ 64)), z) from by rw [q_1, q_64]; exact m_isIn hn (by omega) (by omega)), tr_n (fun g2 => h1 ⟨g1, g2⟩), if_pos (show iI 0 = 0 from q_0.symm)]
      · rw [tr_n g1, if_pos (show iI 0 = 0 from q_0.symm)]
/-! most -/
def mok (C R H n p q : Nat) : Bool := gok C R p q && decide (n ≤ C / p * (R / q) * H)
def mJ (C R H n p : Nat) (s : Int) : Nat → Int
  | 0 => s
  | j + 1 => if mok C R H n p (j + 1) then (if mJ C R H n p s j < ((p * (j + 1) : Nat) : Int) then ((p * (j + 1) : Nat) : Int) else mJ C R H n p s j) else mJ C R H n p s j
def mI (C R H n : Nat) : Nat → Int
  | 0 => -1
  | k + 1 => mJ C R H n (k + 1) (mI C R H n k) 8
theorem mJ_p {C R H n p : Nat} {s : Int} : ∀ j : Nat, s ≤ mJ C R H n p s j ∧ (∀ q, 1 ≤ q → q ≤ j → mok C R H n p q = true → ((p * q : Nat) : Int) ≤ mJ C R H n p s j) ∧ (mJ C R H n p s j = s ∨ ∃ q, 1 ≤ q ∧ q ≤ j ∧ mok C R H n p q = true ∧ mJ C R H n p s j = ((p * q : Nat) : Int)) := by
  intro j
  induction j with
  | zero => exact ⟨Int.le_refl _, fun q h1 h2 => by omega, Or.inl rfl⟩
  | succ j ih =>
    obtain ⟨i1, i2, i3⟩ := ih
    rw [mJ]
    by_cases h1 : mok C R H n p (j + 1) = true
    · rw [if_pos h1]
      by_cases h2 : mJ C R H n p s j < ((p * (j + 1) : Nat) : Int)
      · rw [if_pos h2]
        refine ⟨by omega, fun q q1 q2 q3 => ?_, Or.inr ⟨j + 1, by omega, Nat.le_refl _, h1, rfl⟩⟩
        by_cases e : q = j + 1
        · rw [e]; exact Int.le_refl _
        · have := i2 q q1 (by omega) q3
          omega
      · rw [if_neg h2]
        refine ⟨i1, fun q q1 q2 q3 => ?_, ?_⟩
        · by_cases e : q = j + 1
          · rw [e]; omega
          · exact i2 q q1 (by omega) q3
        · rcases i3 with e | ⟨q, q1, q2, q3, q4⟩
          · exact Or.inl e
          · exact Or.inr ⟨q, q1, by omega, q3, q4⟩
    · rw [if_neg h1]
      refine ⟨i1, fun q q1 q2 q3 => ?_, ?_⟩
      · by_cases e : q = j + 1
        · rw [e] at q3; exact absurd q3 h1
        · exact i2 q q1 (by omega) q3
      · rcases i3 with e | ⟨q, q1, q2, q3, q4⟩
        · exact Or.inl e
        · exact Or.inr ⟨q, q1, by omega, q3, q4⟩
theorem mI_p {C R H n : Nat} : ∀ k : Nat, (∀ p q, 1 ≤ p → p ≤ k → 1 ≤ q → q ≤ 8 → mok C R H n p q = true → ((p * q : Nat) : Int) ≤ mI C R H n k) ∧ (mI C R H n k = -1 ∨ ∃ p q, 1 ≤ p ∧ p ≤ k ∧ 1 ≤ q ∧ q ≤ 8 ∧ mok C R H n p q = true ∧ mI C R H n k = ((p * q : Nat) : Int)) := by
  intro k
  induction k with
  | zero => exact ⟨fun p q h1 h2 => by omega, Or.inl rfl⟩
  | succ k ih =>
    obtain ⟨i1, i2⟩ := ih
    obtain ⟨j1, j2, j3⟩ := mJ_p (C := C) (R := R) (H := H) (n := n) (p := k + 1) (s := mI C R H n k) 8
    rw [mI]
    refine ⟨fun p q p1 p2 q1 q2 ok => ?_, ?_⟩
    · by_cases e : p = k + 1
      · rw [e] at ok ⊢; exact j2 q q1 q2 ok
      · exact Int.le_trans (i1 p q p1 (by omega) q1 q2 ok) j1
    · rcases j3 with e | ⟨q, q1, q2, q3, q4⟩
      · rw [e]
        rcases i2 with e' | ⟨p, q, h1, h2, h3, h4, h5, h6⟩
        · exact Or.inl e'
        · exact Or.inr ⟨p, q, h1, by omega, h3, h4, h5, h6⟩
      · exact Or.inr ⟨k + 1, q, by omega, Nat.le_refl _, q1, q2, q3, q4⟩
theorem wS_pos {C R n : Nat} : ∀ k : Nat, (0 < wS C R n k ↔ ∃ p, 1 ≤ p ∧ p ≤ k ∧ qf C R n p = true) := by
  intro k
  induction k with
  | zero => exact ⟨fun h => absurd h (by rw [wS]; omega), fun ⟨p, h1, h2, _⟩ => by omega⟩
  | succ k ih =>
    rw [wS]
    by_cases hq : qf C R n (k + 1) = true
    · rw [if_pos hq]
      exact ⟨fun _ => ⟨k + 1, by omega, Nat.le_refl _, hq⟩, fun _ => by omega⟩
    · rw [if_neg hq, Nat.add_zero, ih]
      refine ⟨fun ⟨p, h1, h2, h3⟩ => ⟨p, h1, by omega, h3⟩, fun ⟨p, h1, h2, h3⟩ => ⟨p, h1, ?_, h3⟩⟩
      by_cases e : p = k + 1
      · rw [e] at h3; exact absurd h3 hq
      · omega
theorem gok_cells {C R p q : Nat} (h : gok C R p q = true) : C * R / (p * q) = C / p * (R / q) ∧ p * q ≤ C * R := by
  have g := of_decide_eq_true h
  obtain ⟨x, hx⟩ := Nat.dvd_of_mod_eq_zero g.2.2.2.2.1
  obtain ⟨y, hy⟩ := Nat.dvd_of_mod_eq_zero g.2.2.2.2.2
  refine ⟨?_, Nat.mul_le_mul g.2.2.1 g.2.2.2.1⟩
  rw [hx, hy, Nat.mul_div_cancel_left _ (by omega), Nat.mul_div_cancel_left _ (by omega), show p * x * (q * y) = p * q * (x * y) from by rw [Nat.mul_mul_mul_comm]]
  exact Nat.mul_div_cancel_left _ (Nat.mul_pos (by omega) (by omega))
/-- so many like pieces, each large enough -/
def Cm (C R H n k : Nat) : Prop := n ≤ C * R / k * H ∧ 0 < wS C R k 8
theorem Cm_iff {C R H n k : Nat} (hR : R ≤ 8) : Cm C R H n k ↔ ∃ p q, 1 ≤ p ∧ p ≤ 8 ∧ 1 ≤ q ∧ q ≤ 8 ∧ mok C R H n p q = true ∧ p * q = k := by
  unfold Cm
  rw [wS_pos]
  constructor
  · rintro ⟨h1, p, p1, p2, p3⟩
    obtain ⟨e1, e2⟩ := qf_s p3
    have g := of_decide_eq_true e2
    refine ⟨p, k / p, p1, p2, g.2.1, Nat.le_trans g.2.2.2.1 hR, ?_, e1⟩
    unfold mok
    rw [e2, ← (gok_cells e2).1, e1, decide_eq_true h1]
    rfl
  · rintro ⟨p, q, p1, p2, q1, q2, ok, e⟩
    unfold mok at ok
    obtain ⟨o1, o2⟩ := (Bool.and_eq_true _ _).mp ok
    have o2 := of_decide_eq_true o2
    have hd : k / p = q := by rw [← e]; exact Nat.mul_div_cancel_left _ p1
    refine ⟨by rw [← e, (gok_cells o1).1]; exact o2, p, p1, p2, ?_⟩
    unfold qf
    rw [hd, decide_eq_true e, o1]
    rfl
end
