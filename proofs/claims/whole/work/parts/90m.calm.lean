section
variable {z w : St} {c : RC} {F0 F1 : FO} {b : BD}
theorem m_calm25 {y : Int} (h : RD z c F0 F1 b) (hy : 0 ≤ y ∧ y ≤ 2) : ∃ w, fn_X12_calm_25 fu (iI y) (iI (aE c F0 b (c 6 1).toNat)) (-1) 0 z = some (if 0 ≤ (clI c F0 b (c 6 1).toNat).2 then (if y = 0 then iI ((clI c F0 b (c 6 1).toNat).2 / 6) else if y = 1 then iI ((clI c F0 b (c 6 1).toNat).2 % 6) else iI (clI c F0 b (c 6 1).toNat).1) else -1, w) := by
  have hC := h.vc
  have hV := h.vb
  have hn := hV.1
  have hG := hC.2.1
  obtain ⟨m, s, i1, hm⟩ := loopE (fun m a s => fn_X12_calm_25 m (iI y) (iI (clI c F0 b a).1) (iI (clI c F0 b a).2) (iI (a : Int)) s) (fun a s => RD s c F0 F1 b) (c 6 1).toNat (by omega) z h (fun a m s ha hs => by
    have hcb := clI_b (F0 := F0) (b := b) hC a (by omega)
    have hba := hp_b hV (a : Int)
    obtain ⟨m2, t, j1, hm2⟩ := loopE (fun m2 k t => fn_X12_calm_40 (fn_X12_calm_25 m) m2 (iI y) (iI (clJ c F0 b a (clI c F0 b a) (a + 1 + k)).1) (iI (clJ c F0 b a (clI c F0 b a) (a + 1 + k)).2) (iI (a : Int)) (iI ((a + 1 + k : Nat) : Int)) t) (fun k t => RD t c F0 F1 b) ((c 6 1).toNat - (a + 1)) (by omega) s hs (fun k m2 t hk ht => by
      have hj6 : a + 1 + k < (c 6 1).toNat := by omega
      generalize hJ : a + 1 + k = J at *
      have hbj := hp_b hV (J : Int)
      have hjb := clJ_b (F0 := F0) (b := b) hC (a := a) (by omega) hcb J (by omega)
      have hax := aX_b (F0 := F0) (b := b) hC (f := a) (o := J) (c 6 1).toNat
      have hl := ht.ld
      have hld : RD (ldz t) c F0 F1 b := ht.fr fun x j g => ldz_S (by unfold PS at g; omega)
      have e1 : clJ c F0 b a (clI c F0 b a) (a + 1 + (k + 1)) = if (a < J ∧ hp b (a : Int) ≠ -1 ∧ hp b (J : Int) ≠ -1) ∧ aX c F0 b a J (c 6 1).toNat < (clJ c F0 b a (clI c F0 b a) J).1 then (aX c F0 b a J (c 6 1).toNat, 6 * (a : Int) + (J : Int)) else clJ c F0 b a (clI c F0 b a) J := by
        rw [show a + 1 + (k + 1) = J + 1 from by omega, clJ]
      show ∃ s', _ ∧ fn_X12_calm_40 _ (m2 + 1) _ _ _ _ _ _ = fn_X12_calm_40 _ m2 _ _ _ _ _ _
      rw [fn_X12_calm_40, ht.mr.2.1, if_neg (nle (by omega) (by omega) (by omega)), bv_o (m_load t), bd_o (m_pieceOf hC hl.2.2.2.2.2.1 hV (by omega)), bd_o (m_pieceOf hC hl.2.2.2.2.2.1 hV (by omega)), e1, show a + 1 + (k + 1) = J + 1 from by omega]
      unfold fn_X12_calm_139
      rw [k1]
      by_cases h1 : hp b (a : Int) = -1
      · rw [if_pos (show iI (hp b (a : Int)) < 0 from by rw [h1]; decide), if_neg (fun q => q.1.2.1 h1)]
        exact ⟨ldz t, hld, rfl⟩
      · rw [if_neg (show ¬ iI (hp b (a : Int)) < 0 from by rw [q_0]; exact nlt (by omega) (by omega) (by omega))]
        by_cases h2 : hp b (J : Int) = -1
        · rw [if_neg (show ¬ 0 ≤ iI (hp b (J : Int)) from by rw [h2]; decide), if_neg (fun q => q.1.2.2 h2)]
          exact ⟨ldz t, hld, rfl⟩
        · obtain ⟨p, hp1⟩ : ∃ p : Nat, hp b (a : Int) = p := ⟨(hp b (a : Int)).toNat, by omega⟩
          obtain ⟨q, hq1⟩ : ∃ q : Nat, hp b (J : Int) = q := ⟨(hp b (J : Int)).toNat, by omega⟩
          have p1 : (p : Int) < b 168 := by omega
          have q1 : (q : Int) < b 168 := by omega
          have p24 := hV.n p1
          have q24 := hV.n q1
          have hpa := (hp_at hV (by omega) p1).mp hp1
          have hqJ := (hp_at hV (by omega) q1).mp hq1
          have hpq : p ≠ q := fun e => by subst e; omega
          obtain ⟨hV', H'⟩ := trade_V hV (show (a : Int) < c 6 1 from by omega) (show (J : Int) < c 6 1 from by omega) (by omega) p1 q1 hp1 hq1
          rw [hp1, hq1, if_pos (show 0 ≤ iI (q : Int) from by rw [q_0]; exact yle (by omega) (by omega) (by omega)), gd_t (x7_6 p24), nm_o, c7_6 p24, gd_t (x7_6 q24), nm_o, c7_6 q24]
          have B1 := MB_put (g := (J : Int)) hl.2.2.2.2.2.1 p1
          have B2 := MB_put (p := q) (g := (a : Int)) B1 (by rw [(bPut_168 b p _).1]; exact q1)
          rw [bPut_com b hpq] at B2
          generalize hu : sI (sI (ldz t) 198 (7 * p + 6) (iI (J : Int))) 198 (7 * q + 6) (iI (a : Int)) = u at *
          have fu' : ∀ x j, x ≠ 198 → SA (ldz t) u x j := fun x j hx => by rw [← hu]; exact (sa_Ia rfl hx).tr (sa_Ia rfl hx)
          have hMu : RM u c F0 F1 (bPut (bPut b q (a : Int)) p (J : Int)) := ⟨hC, hV', hl.2.2.1, hl.2.2.2.1, hl.2.2.2.2.1.fr fun x j g => fu' x j (by unfold QR at g; omega), B2, hl.2.2.2.2.2.2.1.fr fun x j g => fu' x j (by omega), hl.2.2.2.2.2.2.2.fr fun x j g => fu' x j (by omega)⟩
          obtain ⟨v, e⟩ := m_allEnvies hMu
          have fv : ∀ x j, x ≠ 184 → x ≠ 182 → SA u v x j := fun x j g1 g2 => ff_X12_allEnvies (by show ¬ x = 184 ∧ ¬ x = 182; exact ⟨g1, g2⟩) e
          rw [aE_exch hC hV (show (a : Int) < c 6 1 from by omega) (show (J : Int) < c 6 1 from by omega) (by omega) p1 q1 hp1 hq1] at e
          have hRv : RD v c F0 F1 b := hld.fr fun x j g => (fu' x j (by unfold PS at g; omega)).tr (fv x j (by unfold PS at g; omega) (by unfold PS at g; omega))
          rw [bd_o e]
          refine ⟨v, hRv, ?_⟩
          by_cases h3 : aX c F0 b a J (c 6 1).toNat < (clJ c F0 b a (clI c F0 b a) J).1
          · rw [if_pos (show iI (aX c F0 b a J (c 6 1).toNat) < iI (clJ c F0 b a (clI c F0 b a) J).1 from ylt (by omega) (by omega) h3), nm_o, q_6, iI_mul, iI_add, if_pos ⟨⟨by omega, by omega, by omega⟩, h3⟩]
          · rw [if_neg (show ¬ iI (aX c F0 b a J (c 6 1).toNat) < iI (clJ c F0 b a (clI c F0 b a) J).1 from nlt (by omega) (by omega) h3), if_neg (fun q => h3 q.2)])
    rw [show a + 1 + ((c 6 1).toNat - (a + 1)) = (c 6 1).toNat from by omega] at hm2
    refine ⟨t, j1, ?_⟩
    show fn_X12_calm_25 (m + 1) _ _ _ _ _ = fn_X12_calm_25 m _ _ _ _ _
    rw [fn_X12_calm_25, hs.mr.2.1, if_neg (nle (by omega) (by omega) (by omega)), nm_o, k1]
    refine (show _ = fn_X12_calm_40 (fn_X12_calm_25 m) fu (iI y) (iI (clJ c F0 b a (clI c F0 b a) (a + 1 + 0)).1) (iI (clJ c F0 b a (clI c F0 b a) (a + 1 + 0)).2) (iI (a : Int)) (iI ((a + 1 + 0 : Nat) : Int)) s from by rw [clJ_low _ (by omega)]).trans (hm2.trans ?_)
    show fn_X12_calm_40 _ (m2 + 1) _ _ _ _ _ _ = _
    rw [fn_X12_calm_40, j1.mr.2.1, if_pos (yle (by omega) (by omega) (by omega)), k1]
    rfl)
  have hcb := clI_b (F0 := F0) (b := b) hC (c 6 1).toNat (by omega)
  refine ⟨s, (show _ = fn_X12_calm_25 fu (iI y) (iI (clI c F0 b 0).1) (iI (clI c F0 b 0).2) (iI ((0 : Nat) : Int)) z from by rw [z0, show (clI c F0 b 0).2 = -1 from rfl, ← q_m1]; rfl).trans (hm.trans ?_)⟩
  show fn_X12_calm_25 (m + 1) _ _ _ _ _ = _
  rw [fn_X12_calm_25, i1.mr.2.1, if_pos (yle (by omega) (by omega) (by omega))]
  generalize clI c F0 b (c 6 1).toNat = r at *
  by_cases h0 : 0 ≤ r.2
  · rw [if_pos (show 0 ≤ iI r.2 from by rw [q_0]; exact yle (by omega) (by omega) h0), if_pos h0, q_6, iI_mod (by omega) (by omega), iI_div (by omega) (by omega)]
    by_cases y0 : y = 0
    · rw [if_pos (show iI y = 0 from by rw [y0]; exact q_0.symm), if_pos y0]
    · rw [if_neg (show ¬ iI y = 0 from i0_ne (by omega) y0), if_neg y0]
      by_cases y1 : y = 1
      · rw [if_pos (show iI y = 1 from by rw [y1]; exact q_1.symm), if_pos y1]
      · rw [if_neg (show ¬ iI y = 1 from i1_ne (by omega) y1), if_neg y1]
  · rw [if_neg (show ¬ 0 ≤ iI r.2 from by rw [q_0]; exact nle (by omega) (by omega) h0), if_neg h0]
theorem s_calm (v : Int32) (h : RD z c F0 F1 b) : Same (fn_X11_calm v) (fn_X12_calm v) z := by
  obtain ⟨y, rfl, hy⟩ := ii v
  have hC := h.vc
  refine qry (if (0 ≤ y ∧ y ≤ 2) ∧ 0 ≤ (clI c F0 b (c 6 1).toNat).2 then (if y = 0 then iI ((clI c F0 b (c 6 1).toNat).2 / 6) else if y = 1 then iI ((clI c F0 b (c 6 1).toNat).2 % 6) else iI (clI c F0 b (c 6 1).toNat).1) else -1) h (fun z h => ?_) (fun z w e a k h => ff_X11_calm (by unfold PS at h; show ¬ a = 144 ∧ ¬ a = 13 ∧ ¬ a = 145 ∧ ¬ (a = 143 ∧ k = 4) ∧ ¬ (a = 143 ∧ k = 5) ∧ ¬ (a = 143 ∧ k = 6); omega) e) (fun z h => ?_) (fun z w e a k h => ff_X12_calm (by unfold PS at h; show ¬ a = 198 ∧ ¬ a = 184 ∧ ¬ a = 182; omega) e)
  · obtain ⟨w, e, hN⟩ := x_calm h.xs
    unfold fn_X11_calm
    rw [bd_o e]
    refine ⟨w, ?_⟩
    by_cases h0 : 0 ≤ (clI c F0 b (c 6 1).toNat).2
    · obtain ⟨a2, a3⟩ := hN.2 h0
      rw [tr_1 h0, if_neg (show ¬ iI 1 = 0 from by decide), a2, a3, hN.1]
      by_cases g : 0 ≤ y ∧ y ≤ 2
      · rw [if_pos (show (0 ≤ y ∧ y ≤ 2) ∧ 0 ≤ (clI c F0 b (c 6 1).toNat).2 from ⟨g, h0⟩)]
        by_cases y0 : y = 0
        · rw [if_pos (show iI y = 0 from by rw [y0]; exact q_0.symm), if_pos y0]
        · rw [if_neg (show ¬ iI y = 0 from i0_ne hy y0), if_neg y0]
          by_cases y1 : y = 1
          · rw [if_pos (show iI y = 1 from by rw [y1]; exact q_1.symm), if_pos y1]
          · rw [if_neg (show ¬ iI y = 1 from i1_ne hy y1), if_neg y1, if_pos (show iI y = 2 from by rw [show y = 2 from by omega]; exact q_2.symm)]
      · rw [if_neg (show ¬ ((0 ≤ y ∧ y ≤ 2) ∧ 0 ≤ (clI c F0 b (c 6 1).toNat).2) from fun q => g q.1), if_neg (show ¬ iI y = 0 from i0_ne hy (by omega)), if_neg (show ¬ iI y = 1 from i1_ne hy (by omega)), if_neg (show ¬ iI y = 2 from by rw [q_2]; exact neq hy (by omega) (by omega))]
    · rw [tr_n h0, if_pos (show iI 0 = 0 from q_0.symm), if_neg (show ¬ ((0 ≤ y ∧ y ≤ 2) ∧ 0 ≤ (clI c F0 b (c 6 1).toNat).2) from fun q => h0 q.2)]
  · unfold fn_X12_calm
    rw [bd_o (show fn_X12_isIn (iI y) 0 2 z = some (iI (tr (0 ≤ y ∧ y ≤ 2)), z) from by rw [q_0, q_2]; exact m_isIn hy (by omega) (by omega))]
    by_cases g : 0 ≤ y ∧ y ≤ 2
    · obtain ⟨w, e⟩ := m_allEnvies h.ld
      have fv : ∀ x j, x ≠ 184 → x ≠ 182 → SA (ldz z) w x j := fun x j g1 g2 => ff_X12_allEnvies (by show ¬ x = 184 ∧ ¬ x = 182; exact ⟨g1, g2⟩) e
      have hRw : RD w c F0 F1 b := h.fr fun x j g => (ldz_S (by unfold PS at g; omega)).tr (fv x j (by unfold PS at g; omega) (by unfold PS at g; omega))
      obtain ⟨w2, e2⟩ := m_calm25 hRw g
      rw [tr_1 g, if_neg (show ¬ iI 1 = 0 from by decide), bv_o (m_load z), bd_o e]
      refine ⟨w2, e2.trans ?_⟩
      by_cases h0 : 0 ≤ (clI c F0 b (c 6 1).toNat).2
      · rw [if_pos h0, if_pos (show (0 ≤ y ∧ y ≤ 2) ∧ 0 ≤ (clI c F0 b (c 6 1).toNat).2 from ⟨g, h0⟩)]
      · rw [if_neg h0, if_neg (show ¬ ((0 ≤ y ∧ y ≤ 2) ∧ 0 ≤ (clI c F0 b (c 6 1).toNat).2) from fun q => h0 q.2)]
    · rw [tr_n g, if_pos (show iI 0 = 0 from q_0.symm), if_neg (show ¬ ((0 ≤ y ∧ y ≤ 2) ∧ 0 ≤ (clI c F0 b (c 6 1).toNat).2) from fun q => g q.1)]
      exact ⟨z, rfl⟩
end
