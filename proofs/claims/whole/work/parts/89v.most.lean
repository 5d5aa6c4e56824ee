section
variable {z w : St} {c : RC} {F0 F1 : FO} {b : BD}
theorem mI_b {C R H n : Nat} (k : Nat) : -1 ≤ mI C R H n k ∧ (k ≤ 8 → mI C R H n k ≤ 64) := by
  rcases (mI_p (C := C) (R := R) (H := H) (n := n) k).2 with e | ⟨p, q, h1, h2, h3, h4, h5, h6⟩
  · omega
  · refine ⟨by omega, fun hk => ?_⟩
    have : p * q ≤ 8 * 8 := Nat.mul_le_mul (by omega) h4
    omega
theorem m_most26 {t C R H n : Nat} (ht : t < 3) (e1 : z.1 188 t = iI (C : Int)) (e2 : z.1 189 t = iI (R : Int)) (e3 : z.1 190 t = iI (H : Int)) (hC : 1 ≤ C ∧ C ≤ 8) (hR : 1 ≤ R ∧ R ≤ 8) (hH : 1 ≤ H ∧ H ≤ 9) (hn : 1 ≤ n ∧ n ≤ 999) : fn_X12_most_26 fu (iI (t : Int)) (iI (n : Int)) (-1) 1 z = some (iI (mI C R H n 8), z) := by
  obtain ⟨m, hm⟩ := loopK (fun m k => fn_X12_most_26 m (iI (t : Int)) (iI (n : Int)) (iI (mI C R H n k)) (iI ((k + 1 : Nat) : Int)) z) 8 (by omega) (fun k m hk => by
    have hb := mI_b (C := C) (R := R) (H := H) (n := n) k
    show fn_X12_most_26 (m + 1) _ _ _ _ _ = fn_X12_most_26 m _ _ _ _ _
    rw [fn_X12_most_26, if_neg (by rw [q_8]; exact nlt (by omega) (by omega) (by omega))]
    obtain ⟨m2, hm2⟩ := loopK (fun m2 j => fn_X12_most_36 (fn_X12_most_26 m) m2 (iI (t : Int)) (iI (n : Int)) (iI (mJ C R H n (k + 1) (mI C R H n k) j)) (iI ((k + 1 : Nat) : Int)) (iI ((j + 1 : Nat) : Int)) z) 8 (by omega) (fun j m2 hj => by
      have hmul : (((k + 1 : Nat) : Int) * ((j + 1 : Nat) : Int)) = (((k + 1) * (j + 1) : Nat) : Int) := (Int.natCast_mul _ _).symm
      have hmb : (k + 1) * (j + 1) ≤ 8 * 8 := Nat.mul_le_mul (by omega) (by omega)
      have hjb : -1 ≤ mJ C R H n (k + 1) (mI C R H n k) j ∧ mJ C R H n (k + 1) (mI C R H n k) j ≤ 64 := by
        obtain ⟨j1, j2, j3⟩ := mJ_p (C := C) (R := R) (H := H) (n := n) (p := k + 1) (s := mI C R H n k) j
        rcases j3 with e | ⟨q, q1, q2, q3, q4⟩
        · omega
        · have : (k + 1) * q ≤ 8 * 8 := Nat.mul_le_mul (by omega) (by omega)
          omega
      show fn_X12_most_36 _ (m2 + 1) _ _ _ _ _ _ = fn_X12_most_36 _ m2 _ _ _ _ _ _
      rw [fn_X12_most_36, if_neg (by rw [q_8]; exact nlt (by omega) (by omega) (by omega)), bd_o (m_isGrid ht e1 e2 hC hR (by omega) (by omega)), mJ]
      unfold fn_X12_most_106 fn_X12_most_107 mok
      by_cases h2 : gok C R (k + 1) (j + 1) = true
      · have hw := Nat.div_le_self C (k + 1)
        have hd := Nat.div_le_self R (j + 1)
        have a1 : C / (k + 1) * (R / (j + 1)) ≤ 8 * 8 := Nat.mul_le_mul (by omega) (by omega)
        have a2 : C / (k + 1) * (R / (j + 1)) * H ≤ 64 * 9 := Nat.mul_le_mul (by omega) (by omega)
        rw [tr_1 h2, if_neg (by decide), gd_t (iI_ix (by omega)), gd_t (ne0 (by omega)), gd_t (iI_ix (by omega)), gd_t (ne0 (by omega)), gd_t (iI_ix (by omega)), iI_clampN (by omega), e1, e2, e3, ndiv (by omega) (by omega), ndiv (by omega) (by omega), iI_mul, iI_mul, iI_mul, hmul, ← Int.natCast_mul, ← Int.natCast_mul, h2, Bool.true_and, k1]
        by_cases h3 : n ≤ C / (k + 1) * (R / (j + 1)) * H
        · rw [if_pos (yle (by omega) (by omega) (by omega)), if_pos (decide_eq_true h3)]
          by_cases h4 : mJ C R H n (k + 1) (mI C R H n k) j < (((k + 1) * (j + 1) : Nat) : Int)
          · rw [if_neg (nle (by omega) (by omega) (by omega)), if_pos h4]
          · rw [if_pos (yle (by omega) (by omega) (by omega)), if_neg h4]
        · rw [if_neg (nle (by omega) (by omega) (by omega)), if_neg (by simp [h3])]
      · rw [tr_n h2, if_pos (show iI 0 = 0 from q_0.symm), if_neg (by simp [h2]), k1])
    refine (show _ = fn_X12_most_36 (fn_X12_most_26 m) fu (iI (t : Int)) (iI (n : Int)) (iI (mI C R H n k)) (iI ((k + 1 : Nat) : Int)) (iI ((0 + 1 : Nat) : Int)) z from by rw [show iI ((0 + 1 : Nat) : Int) = 1 from q_1.symm]).trans (hm2.trans ?_)
    rw [fn_X12_most_36, if_pos (by rw [q_8]; exact ylt (by omega) (by omega) (by omega)), k1, mI])
  refine (show _ = fn_X12_most_26 fu (iI (t : Int)) (iI (n : Int)) (iI (-1)) (iI ((0 + 1 : Nat) : Int)) z from by rw [← q_m1, show iI ((0 + 1 : Nat) : Int) = 1 from q_1.symm]).trans (hm.trans ?_)
  rw [fn_X12_most_26, if_pos (by rw [q_8]; exact ylt (by omega) (by omega) (by omega))]
theorem x_most60 {t C R H n : Nat} (ht : t < 3) (e1 : z.1 4 t = iI (C : Int)) (e2 : z.1 5 t = iI (R : Int)) (hC : 1 ≤ C ∧ C ≤ 8) (hR : 1 ≤ R ∧ R ≤ 8) (hH : 1 ≤ H ∧ H ≤ 9) (hn : 1 ≤ n ∧ n ≤ 999) : ∃ w, fn_X11_most_60 fu (iI (t : Int)) (iI (n : Int)) (iI (H : Int)) (iI ((C * R : Nat) : Int)) (iI ((C * R : Nat) : Int)) z = some (iI (mI C R H n 8), w) := by
  have hcr : C * R ≤ 8 * 8 := Nat.mul_le_mul (by omega) (by omega)
  obtain ⟨p1, p2⟩ := mI_p (C := C) (R := R) (H := H) (n := n) 8
  have up : ∀ k, 1 ≤ k → Cm C R H n k → (k : Int) ≤ mI C R H n 8 := fun k hk hCm => by
    obtain ⟨p, q, a1, a2, a3, a4, a5, a6⟩ := (Cm_iff hR.2).mp hCm
    rw [← a6]; exact p1 p q a1 a2 a3 a4 a5
  have dn : mI C R H n 8 = -1 ∨ ∃ k, 1 ≤ k ∧ k ≤ C * R ∧ Cm C R H n k ∧ mI C R H n 8 = (k : Int) := by
    rcases p2 with e | ⟨p, q, a1, a2, a3, a4, a5, a6⟩
    · exact Or.inl e
    · have o1 := ((Bool.and_eq_true _ _).mp a5).1
      exact Or.inr ⟨p * q, Nat.mul_pos a1 a3, (gok_cells o1).2, (Cm_iff hR.2).mpr ⟨p, q, a1, a2, a3, a4, a5, rfl⟩, a6⟩
  obtain ⟨y, hy, ey⟩ := loopX (fun m k s => fn_X11_most_60 m (iI (t : Int)) (iI (n : Int)) (iI (H : Int)) (iI ((C * R : Nat) : Int)) (iI ((C * R : Nat) - (k : Int))) s) (fun k s => (∀ a j, a ≠ 161 → SA z s a j) ∧ ∀ x : Nat, x ≤ C * R → C * R < x + k → ¬ Cm C R H n x) (fun y => y.1 = iI (mI C R H n 8)) (C * R) (by omega) z ⟨fun a j _ => SA.rf, fun x h1 h2 => by omega⟩ (fun k m s hk ⟨i1, i2⟩ => by
    obtain ⟨x, hx⟩ : ∃ x : Nat, C * R = x + k := ⟨C * R - k, by omega⟩
    have hxx : ((C * R : Nat) : Int) - (k : Int) = (x : Int) := by omega
    have hx1 : 1 ≤ x := by omega
    show (∃ r, _ ∧ fn_X11_most_60 (m + 1) _ _ _ _ _ _ = _) ∨ ∃ s', _ ∧ fn_X11_most_60 (m + 1) _ _ _ _ _ _ = fn_X11_most_60 m _ _ _ _ _ _
    have hdv := Nat.div_le_self (C * R) x
    have a2 : C * R / x * H ≤ 64 * 9 := Nat.mul_le_mul (by omega) (by omega)
    obtain ⟨w, e, -⟩ := x_search (z := s) hC hR (n := x) (by omega)
    have fw : ∀ a j, a ≠ 161 → SA s w a j := fun a j ha => ff_X3_search (by show ¬ (a = 161 ∧ j = 0) ∧ ¬ (a = 161 ∧ j = 1) ∧ ¬ (a = 161 ∧ j = 2) ∧ ¬ (a = 161 ∧ j = 3); omega) e
    have b4 := (bS_p (C := C) (R := R) (n := x) 8).2.2.2
    rw [fn_X11_most_60, hxx, if_neg (by rw [q_1]; exact nlt (by omega) (by omega) (by omega)), gd_t (ne0 (by omega)), ndiv (by omega) (by omega), iI_mul, ← Int.natCast_mul]
    unfold fn_X11_most_82 fn_X11_most_122
    have ex : iI (x : Int) + -1 = iI (((C * R : Nat) : Int) - ((k + 1 : Nat) : Int)) := by rw [q_m1, iI_add]; congr 1; omega
    have nx : ¬ Cm C R H n x → ∀ y : Nat, y ≤ C * R → C * R < y + (k + 1) → ¬ Cm C R H n y := fun hno y h1 h2 => by
      by_cases hyx : y = x
      · rw [hyx]; exact hno
      · exact i2 y h1 (by omega)
    by_cases h1 : n ≤ C * R / x * H
    · rw [if_neg (nlt (by omega) (by omega) (by omega)), if_neg (by decide), gd_t (iI_ix (by omega)), gd_t (iI_ix (by omega)), iI_clampN (by omega), (i1 4 t (by omega)).1, (i1 5 t (by omega)).1, e1, e2, bd_o e]
      by_cases h2 : 0 < wS C R x 8
      · refine Or.inl ⟨(iI (x : Int), w), ?_, ?_⟩
        · have u1 := up x hx1 ⟨h1, h2⟩
          rcases dn with e' | ⟨k', b1, b2, b3, b5⟩
          · omega
          · have : k' = x := by
              have : ¬ (x < k') := fun q => i2 k' b2 (by omega) b3
              omega
            show iI (x : Int) = _
            rw [b5, this]
        · rw [if_neg (by rw [q_0]; exact nle (by omega) (by omega) (by omega))]
      · refine Or.inr ⟨w, ⟨fun a j ha => (i1 a j ha).tr (fw a j ha), nx fun q => h2 q.2⟩, ?_⟩
        rw [if_pos (by rw [q_0]; exact yle (by omega) (by omega) (by omega)), ex]
    · refine Or.inr ⟨s, ⟨i1, nx fun q => h1 q.1⟩, ?_⟩
      rw [if_pos (ylt (by omega) (by omega) (by omega)), if_pos rfl, ex]) (fun m s ⟨i1, i2⟩ => by
    refine ⟨(-1, s), ?_, ?_⟩
    · rcases dn with e' | ⟨k', b1, b2, b3, b5⟩
      · rw [e']; exact q_m1
      · exact absurd b3 (i2 k' b2 (by omega))
    · show fn_X11_most_60 (m + 1) _ _ _ _ _ _ = _
      rw [fn_X11_most_60, if_pos (by rw [q_1]; exact ylt (by omega) (by omega) (by omega))])
  obtain ⟨y1, y2⟩ := y
  refine ⟨y2, (show _ = fn_X11_most_60 fu (iI (t : Int)) (iI (n : Int)) (iI (H : Int)) (iI ((C * R : Nat) : Int)) (iI ((C * R : Nat) - ((0 : Nat) : Int))) z from by rw [show ((C * R : Nat) : Int) - ((0 : Nat) : Int) = ((C * R : Nat) : Int) from by omega]).trans (ey.trans ?_)⟩
  rw [show y1 = _ from hy]
theorem s_most (u v : Int32) (h : RD z c F0 F1 b) : Same (fn_X11_most u v) (fn_X12_most u v) z := by
  obtain ⟨t, rfl, ht⟩ := ii u
  obtain ⟨n, rfl, hn⟩ := ii v
  have hC := h.vc
  by_cases h1 : (0 ≤ t ∧ t < c 6 0) ∧ (1 ≤ n ∧ n ≤ 999)
  · obtain ⟨T, C, R, H, rfl, t3, tc, eC, eR, eH, bC, bR, bH⟩ := tier_n hC h1.1
    obtain ⟨N, rfl⟩ : ∃ N : Nat, n = N := ⟨n.toNat, by omega⟩
    refine qry (iI (mI C R H N 8)) h (fun z h => ?_) (fun z w e a k h => ff_X11_most (by unfold PS at h; show ¬ (a = 161 ∧ k = 0) ∧ ¬ (a = 161 ∧ k = 1) ∧ ¬ (a = 161 ∧ k = 2) ∧ ¬ (a = 161 ∧ k = 3); omega) e) (fun z h => ?_) (fun z w e a k h => ff_X12_most (by trivial) e)
    · have hr := h.xr.2.2.2.1 T tc
      obtain ⟨w, e⟩ := x_most60 (z := z) (n := N) t3 (by rw [hr.1, eC]) (by rw [hr.2.1, eR]) bC bR bH (by omega)
      unfold fn_X11_most
      rw [bd_o (x_isTier h.xr hC ht), tr_1 h1.1, if_neg (by decide), if_neg (by rw [q_1]; exact nlt (by omega) (by omega) (by omega)), if_pos (by rw [q_999]; exact yle (by omega) (by omega) (by omega)), gd_t (iI_ix (by omega)), nm_o, gd_t (iI_ix (by omega)), gd_t (iI_ix (by omega)), nm_o, iI_clampN (by omega), hr.1, hr.2.1, hr.2.2, eC, eR, eH, iI_mul, ← Int.natCast_mul]
      exact ⟨w, e⟩
    · have hr := h.mr.2.2.2.1 T tc
      unfold fn_X12_most
      rw [bd_o (m_isTier h.mr hC ht), tr_1 h1.1, if_neg (by decide), bd_o (show fn_X12_isIn (iI (N : Int)) 1 999 z = some (iI (tr (1 ≤ (N : Int) ∧ (N : Int) ≤ 999)), z) from by rw [q_1, q_999]; exact m_isIn hn (by omega) (by omega)), tr_1 h1.2, if_neg (by decide)]
      exact ⟨z, m_most26 t3 (by rw [hr.1, eC]) (by rw [hr.2.1, eR]) (by rw [hr.2.2, eH]) bC bR bH (by omega)⟩
  · refine ⟨-1, z, z, ?_, ?_, c, F0, F1, b, h⟩
    · unfold fn_X11_most
      rw [bd_o (x_isTier h.xr hC ht)]
      by_cases g1 : 0 ≤ t ∧ t < c 6 0
      · rw [tr_1 g1, if_neg (by decide)]
        by_cases g2 : n < 1
        · rw [if_pos (by rw [q_1]; exact ylt (by omega) (by omega) g2)]
        · rw [if_neg (by rw [q_1]; exact nlt (by omega) (by omega) g2), if_neg (by rw [q_999]; exact nle (by omega) (by omega) (by omega))]
      · rw [tr_n g1, if_pos (show iI 0 = 0 from q_0.symm)]
    · unfold fn_X12_most
      rw [bd_o (m_isTier h.mr hC ht)]
      by_cases g1 : 0 ≤ t ∧ t < c 6 0
      · rw [tr_1 g1, if_neg (by decide), bd_o (show fn_X12_isIn (iI n) 1 999 z = some (iI (tr (1 ≤ n ∧ n ≤ 999)), z) from by rw [q_1, q_999]; exact m_isIn hn (by omega) (by omega)), tr_n (fun g2 => h1 ⟨g1, g2⟩), if_pos (show iI 0 = 0 from q_0.symm)]
      · rw [tr_n g1, if_pos (show iI 0 = 0 from q_0.symm)]
end
