section
variable {z w : St} {c : RC} {F0 F1 : FO} {b : BD}
theorem canB_no {p : Nat} (h : ¬ ((p : Int) < b 168 ∧ pc b p 6 = -1 ∧ b 168 < 24)) (j : Nat) : canB b p j = false := Bool.eq_false_iff.mpr fun q => h (by have := of_decide_eq_true q; exact ⟨this.1, this.2.1, this.2.2.1⟩)
theorem nxJ_no {p : Nat} {s : Int × Nat} (h : ∀ j, canB b p j = false) : ∀ j, nxJ c b p s j = s := by
  intro j
  induction j with
  | zero => rfl
  | succ j ih => rw [nxJ_skip (h j), ih]
theorem x_findCut (h : RXs z c F0 F1 b) : ∃ w, fn_X8_findCut z = some (iI (tr (0 ≤ (nxI c b (b 168).toNat).1)), w) ∧ XN w (nxI c b (b 168).toNat) := by
  have hC := h.1
  have hV := h.2.1
  have hn := hV.1
  obtain ⟨w1, e1, g1, g2⟩ := x_prepare (g0 := -1) (mo := 0) h (by omega) (by omega)
  generalize hw2 : sI w1 153 5 (-1) = w2
  have f2 : ∀ a j, sFr a j → SA z w2 a j := fun a j q => by
    rw [← hw2]
    exact (g2 a j (Or.inl q)).tr (sa_I rfl (by unfold sFr at q; omega))
  have S2 : SX w2 (WL (Cg b (-1)) (Vg c 0) (c 6 1).toNat) (fun x => (cA (Cp b (-1)) (Vp c b) x (b 168).toNat : Int)) := by
    rw [← hw2]
    exact g1.fr fun a j q => sa_I rfl (by omega)
  obtain ⟨m, s, ⟨i1, i2, i3⟩, hm⟩ := loopE (fun m p s => fn_X8_findCut_13 m (iI (p : Int)) s) (fun p s => SX s (WL (Cg b (-1)) (Vg c 0) (c 6 1).toNat) (fun x => (cA (Cp b (-1)) (Vp c b) x (b 168).toNat : Int)) ∧ XN s (nxI c b p) ∧ ∀ a j, sFr a j → SA z s a j) (b 168).toNat (by omega) w2 ⟨S2, Or.inl ⟨rfl, by rw [← hw2, sI_at, if_pos rfl, q_m1]⟩, f2⟩ (fun p m s hp ⟨i1, i2, i3⟩ => by
    have hpb : (p : Int) < b 168 := by omega
    have h24 := hV.n hpb
    have Ms := h.sfr i3
    have hv := Vp_b hC hV hpb
    have hnb := nxI_b (b := b) hC p
    show ∃ s', _ ∧ fn_X8_findCut_13 (m + 1) _ _ = fn_X8_findCut_13 m _ _
    rw [fn_X8_findCut_13, Ms.2.2.2.2.2.1.1, if_neg (nle (by omega) (by omega) (by omega)), bd_o (x_isCut hC Ms.2.2.2.2.2.1 hV (by omega)), Int.toNat_natCast]
    unfold fn_X8_findCut_78
    rw [k1, nxI]
    by_cases hc : 0 ≤ (p : Int) ∧ (p : Int) < b 168 ∧ pc b p 6 = -1 ∧ b 168 < 24
    · obtain ⟨s1, n1, n2, n3⟩ := x_count (A := Vp c b p) (by' := -1) i1 hv.2
      have fr1 : ∀ a j, sFr a j → SA z s1 a j := fun a j q => (i3 a j q).tr (n3 a j q.2.2)
      obtain ⟨s2, a1, a2, a3, a4⟩ := x_try (y := 0) (s0 := nxI c b p) (e1 := fun _ => 0) (by omega) (h.sfr fr1) hpb hc.2.2.1 hc.2.2.2 (by omega) n2 (i2.fr fun j _ _ => (n3 153 j (by omega)).1)
      have fr2 : ∀ a j, sFr a j → SA z s2 a j := fun a j q => (fr1 a j q).tr (a4 a j q)
      obtain ⟨s3, b1, b2, b3, b4⟩ := x_try (y := 1) (s0 := nxI c b p) (e1 := fun _ => 0) (by omega) (h.sfr fr2) hpb hc.2.2.1 hc.2.2.2 (by omega) a2 a3
      obtain ⟨s4, o1, o2, o3⟩ := x_count (A := Vp c b p) (by' := 1) b2 hv.2
      have o2' := o2.ex (f := fun x => (cA (Cp b (-1)) (Vp c b) x (b 168).toNat : Int)) fun x _ => by
        by_cases q : x ≤ Vp c b p
        · simp only [if_pos q]; omega
        · simp only [if_neg q]; omega
      rw [tr_1 hc, if_neg (show ¬ iI 1 = 0 from by decide), gd_t (iI_ix (by omega)), iI_clampN (by omega), bd_o (x_area Ms.2.2.2.2.1 hC (Ms.2.2.2.2.2.1.2.2.2.1 p hpb) (hV.2.2.1 p hpb)), show fn_X8_count (iI (ar c (pc b p))) (-1) s = some s1 from by rw [← hv.1, q_m1]; exact n1, bv_e, show fn_X8_tryCuts (iI (p : Int)) 0 (iI (ar c (pc b p))) s1 = some s2 from a1, bv_e, show fn_X8_tryCuts (iI (p : Int)) 1 (iI (ar c (pc b p))) s2 = some s3 from b1, bv_e, show fn_X8_count (iI (ar c (pc b p))) 1 s3 = some s4 from by rw [← hv.1, q_1]; exact o1, bv_e]
      exact ⟨s4, ⟨o2', b3.fr fun j _ _ => (o3 153 j (by omega)).1, fun a j q => ((fr2 a j q).tr (b4 a j q)).tr (o3 a j q.2.2)⟩, rfl⟩
    · rw [tr_n hc, if_pos (show iI 0 = 0 from q_0.symm), nxJ_no (canB_no fun q => hc ⟨by omega, q⟩)]
      exact ⟨s, ⟨i1, i2, i3⟩, rfl⟩)
  have hnb := nxI_b (b := b) hC (b 168).toNat
  refine ⟨s, ?_, i2⟩
  unfold fn_X8_findCut
  rw [show (0 : Int32) = iI 0 from q_0, show (-1 : Int32) = iI (-1) from q_m1, bv_o e1, nm_o, ← q_m1, hw2]
  refine (show _ = fn_X8_findCut_13 fu (iI ((0 : Nat) : Int)) w2 from rfl).trans (hm.trans ?_)
  show fn_X8_findCut_13 (m + 1) _ _ = _
  rw [fn_X8_findCut_13, (h.sfr i3).2.2.2.2.2.1.1, if_pos (yle (by omega) (by omega) (by omega))]
  rcases i2 with ⟨a1, a2⟩ | ⟨a1, a2, a3, a4, a5⟩
  · rw [if_pos (show s.1 153 5 = -1 from by rw [a2]; exact q_m1.symm), tr_n (by omega), q_0]
  · rw [if_neg (show ¬ s.1 153 5 = -1 from by rw [a2, q_m1]; exact neq (by omega) (by omega) (by omega)), tr_1 a1, q_1]
theorem m_next18 {y : Int} (h : RD z c F0 F1 b) (hy : 0 ≤ y ∧ y ≤ 3) : ∃ w, fn_X12_next_18 fu (iI y) (-1) 0 0 z = some (if 0 ≤ (nxI c b (b 168).toNat).1 then (if y = 0 then iI (((nxI c b (b 168).toNat).2 / 16 : Nat) : Int) else if y = 1 then iI (((nxI c b (b 168).toNat).2 / 8 % 2 : Nat) : Int) else if y = 2 then iI (((nxI c b (b 168).toNat).2 % 8 : Nat) : Int) else iI (nxI c b (b 168).toNat).1) else -1, w) := by
  have hC := h.vc
  have hV := h.vb
  have hn := hV.1
  obtain ⟨m, s, i1, hm⟩ := loopE (fun m p s => fn_X12_next_18 m (iI y) (iI (nxI c b p).1) (iI ((nxI c b p).2 : Int)) (iI (p : Int)) s) (fun p s => RD s c F0 F1 b) (b 168).toNat (by omega) z h (fun p m s hp hs => by
    have hpb : (p : Int) < b 168 := by omega
    have h24 := hV.n hpb
    have hnb := nxI_b (b := b) hC p
    show ∃ s', _ ∧ fn_X12_next_18 (m + 1) _ _ _ _ _ = fn_X12_next_18 m _ _ _ _ _
    rw [fn_X12_next_18, c_168, show s.1 197 168 = iI (b 168) from hs.mb.1, if_neg (nle (by omega) (by omega) (by omega))]
    obtain ⟨m2, t, j1, hm2⟩ := loopE (fun m2 j t => fn_X12_next_34 (fn_X12_next_18 m) m2 (iI y) (iI (nxJ c b p (nxI c b p) j).1) (iI ((nxJ c b p (nxI c b p) j).2 : Int)) (iI (p : Int)) (iI (j : Int)) t) (fun j t => RD t c F0 F1 b) 16 (by omega) s hs (fun j m2 t hj ht => by
      have hjb := nxJ_b (b := b) hC (p := p) (s := nxI c b p) (by omega) j (by omega)
      have hl := ht.ld
      have hld : RD (ldz t) c F0 F1 b := ht.fr fun a k g => ldz_S (by unfold PS at g; omega)
      show ∃ s', _ ∧ fn_X12_next_34 _ (m2 + 1) _ _ _ _ _ _ = fn_X12_next_34 _ m2 _ _ _ _ _ _
      rw [fn_X12_next_34, if_neg (by rw [q_16]; exact nle (by omega) (by omega) (by omega)), bv_o (m_load t), q_8, show iI 8 = iI ((8 : Nat) : Int) from rfl, nmod (by omega) (by omega), ndiv (by omega) (by omega), bd_o (m_canCut hC hl.2.2.2.2.2.1 hV (by omega) (by omega) (by omega)), nxJ]
      unfold fn_X12_next_113
      rw [k1]
      have hce : cs b (p : Int) ((j / 8 : Nat) : Int) ((j % 8 : Nat) : Int) ↔ canB b p j = true := by
        unfold cs canB
        rw [decide_eq_true_iff, Int.toNat_natCast]
        have hj8 : j / 8 = 0 ∨ j / 8 = 1 := by omega
        rcases hj8 with e | e <;> rw [e]
        · show _ ↔ (p : Int) < b 168 ∧ pc b p 6 = -1 ∧ b 168 < 24 ∧ 1 ≤ j % 8 ∧ ((j % 8 : Nat) : Int) < pc b p 3
          omega
        · show _ ↔ (p : Int) < b 168 ∧ pc b p 6 = -1 ∧ b 168 < 24 ∧ 1 ≤ j % 8 ∧ ((j % 8 : Nat) : Int) < pc b p 4
          omega
      by_cases hcb : canB b p j = true
      · have hcS := canB_s hj hcb
        obtain ⟨u, e, bu, fu'⟩ := m_goCut hl.2.2.2.2.2.1 hC hV hcS
        have hVu := VB_goC hV hcS
        have hMu : RM u c F0 F1 (goC b p (j / 8) ((j % 8 : Nat) : Int)) := ⟨hC, hVu, hl.2.2.1, hl.2.2.2.1, hl.2.2.2.2.1.fr fun a k g => fu' a k (by unfold QR at g; omega), bu, hl.2.2.2.2.2.2.1.fr fun a k g => fu' a k (by omega), hl.2.2.2.2.2.2.2.fr fun a k g => fu' a k (by omega)⟩
        have u57 : u.1 172 57 = iI 0 := by rw [(fu' 172 57 (by omega)).1, (ldz_S (by omega)).1, ht.mo]; exact q_0
        obtain ⟨v, e2⟩ := m_servedBut (g0 := -1) (p0 := -1) (mo := 0) hMu u57 (by omega) (by omega) (by omega)
        have fv : ∀ a k, ¬ a = 200 ∧ ¬ (a = 172 ∧ k = 55) ∧ ¬ a = 201 ∧ ¬ (a = 172 ∧ k = 56) → SA u v a k := fun a k q => ff_X12_servedBut q e2
        have hRv : RD v c F0 F1 b := hld.fr fun a k g => (fu' a k (by unfold PS at g; omega)).tr (fv a k (by unfold PS at g; omega))
        have hsb := sv_b c (goC b p (j / 8) ((j % 8 : Nat) : Int)) (-1) (-1) 0 hC
        rw [tr_1 (hce.mpr hcb), if_neg (show ¬ iI 1 = 0 from by decide), bd_o e, show fn_X12_servedBut (-1) (-1) u = fn_X12_servedBut (iI (-1)) (iI (-1)) u from by rw [q_m1], bd_o e2, if_pos hcb]
        refine ⟨v, hRv, ?_⟩
        by_cases hlt : (nxJ c b p (nxI c b p) j).1 < sv c (goC b p (j / 8) ((j % 8 : Nat) : Int)) (-1) (-1) 0
        · rw [if_pos (show iI (nxJ c b p (nxI c b p) j).1 < iI (sv c (goC b p (j / 8) ((j % 8 : Nat) : Int)) (-1) (-1) 0) from ylt (by omega) (by omega) hlt), nm_o, q_16, iI_mul, iI_add, if_pos hlt]
          rfl
        · rw [if_neg (show ¬ iI (nxJ c b p (nxI c b p) j).1 < iI (sv c (goC b p (j / 8) ((j % 8 : Nat) : Int)) (-1) (-1) 0) from nlt (by omega) (by omega) hlt), if_neg hlt]
      · rw [tr_n (fun q => hcb (hce.mp q)), if_pos (show iI 0 = 0 from q_0.symm), if_neg hcb]
        exact ⟨ldz t, hld, rfl⟩)
    refine ⟨t, j1, ?_⟩
    refine (show _ = fn_X12_next_34 (fn_X12_next_18 m) fu (iI y) (iI (nxI c b p).1) (iI ((nxI c b p).2 : Int)) (iI (p : Int)) (iI ((0 : Nat) : Int)) s from by rw [z0]).trans (hm2.trans ?_)
    show fn_X12_next_34 _ (m2 + 1) _ _ _ _ _ _ = _
    rw [fn_X12_next_34, if_pos (by rw [q_16]; exact yle (by omega) (by omega) (by omega)), k1]
    rfl)
  have hnb := nxI_b (b := b) hC (b 168).toNat
  refine ⟨s, (show _ = fn_X12_next_18 fu (iI y) (iI (-1)) (iI ((0 : Nat) : Int)) (iI ((0 : Nat) : Int)) z from by rw [← q_m1, z0]).trans (hm.trans ?_)⟩
  show fn_X12_next_18 (m + 1) _ _ _ _ _ = _
  rw [fn_X12_next_18, c_168, show s.1 197 168 = iI (b 168) from i1.mb.1, if_pos (yle (by omega) (by omega) (by omega))]
  generalize nxI c b (b 168).toNat = r at *
  by_cases h0 : 0 ≤ r.1
  · rw [if_pos (show 0 ≤ iI r.1 from by rw [q_0]; exact yle (by omega) (by omega) h0), if_pos h0, q_16, q_8, q_2, show iI 16 = iI ((16 : Nat) : Int) from rfl, show iI 8 = iI ((8 : Nat) : Int) from rfl, show iI 2 = iI ((2 : Nat) : Int) from rfl, ndiv (by omega) (by omega), ndiv (by omega) (by omega)]
    by_cases y0 : y = 0
    · rw [if_pos (by rw [y0]; exact q_0.symm), if_pos y0]
    · rw [if_neg (i0_ne (by omega) y0), if_neg y0]
      by_cases y1 : y = 1
      · rw [if_pos (by rw [y1]; exact q_1.symm), if_pos y1, nmod (by omega) (by omega)]
      · rw [if_neg (i1_ne (by omega) y1), if_neg y1]
        by_cases y2 : y = 2
        · rw [if_pos (by rw [y2]; rfl), if_pos y2, ← ndiv (a := r.2) (n := 8) (by omega) (by omega), nmod (by omega) (by omega)]
        · rw [if_neg (show ¬ iI y = iI ((2 : Nat) : Int) from neq (by omega) (by omega) (by omega)), if_neg y2]
  · rw [if_neg (show ¬ 0 ≤ iI r.1 from by rw [q_0]; exact nle (by omega) (by omega) h0), if_neg h0]
theorem s_next (v : Int32) (h : RD z c F0 F1 b) : Same (fn_X11_next v) (fn_X12_next v) z := by
  obtain ⟨y, rfl, hy⟩ := ii v
  have hC := h.vc
  refine qry (if (0 ≤ y ∧ y ≤ 3) ∧ 0 ≤ (nxI c b (b 168).toNat).1 then (if y = 0 then iI (((nxI c b (b 168).toNat).2 / 16 : Nat) : Int) else if y = 1 then iI (((nxI c b (b 168).toNat).2 / 8 % 2 : Nat) : Int) else if y = 2 then iI (((nxI c b (b 168).toNat).2 % 8 : Nat) : Int) else iI (nxI c b (b 168).toNat).1) else -1) h (fun z h => ?_) (fun z w e a k h => ff_X11_next (by unfold PS at h; show ¬ a = 155 ∧ ¬ (a = 153 ∧ k = 5) ∧ ¬ (a = 153 ∧ k = 6) ∧ ¬ (a = 153 ∧ k = 7) ∧ ¬ (a = 153 ∧ k = 8) ∧ ¬ a = 154 ∧ ¬ (a = 153 ∧ k = 4); omega) e) (fun z h => ?_) (fun z w e a k h => ff_X12_next (by unfold PS at h; show ¬ a = 198 ∧ ¬ a = 200 ∧ ¬ (a = 172 ∧ k = 55) ∧ ¬ a = 201 ∧ ¬ (a = 172 ∧ k = 56); omega) e)
  · obtain ⟨w, e, hN⟩ := x_findCut h.xs
    unfold fn_X11_next
    rw [bd_o e]
    refine ⟨w, ?_⟩
    rcases hN with ⟨a1, a2⟩ | ⟨a1, a2, a3, a4, a5⟩
    · rw [tr_n (by omega), if_pos (show iI 0 = 0 from q_0.symm), if_neg (fun q => by omega)]
    · rw [tr_1 a1, if_neg (show ¬ iI 1 = 0 from by decide), a2, a3, a4, a5]
      by_cases g : 0 ≤ y ∧ y ≤ 3
      · rw [if_pos (show (0 ≤ y ∧ y ≤ 3) ∧ 0 ≤ (nxI c b (b 168).toNat).1 from ⟨g, a1⟩)]
        by_cases y0 : y = 0
        · rw [if_pos (show iI y = 0 from by rw [y0]; exact q_0.symm), if_pos y0]
        · rw [if_neg (show ¬ iI y = 0 from i0_ne hy y0), if_neg y0]
          by_cases y1 : y = 1
          · rw [if_pos (show iI y = 1 from by rw [y1]; exact q_1.symm), if_pos y1]
          · rw [if_neg (show ¬ iI y = 1 from i1_ne hy y1), if_neg y1]
            by_cases y2 : y = 2
            · rw [if_pos (show iI y = 2 from by rw [y2]; exact q_2.symm), if_pos y2]
            · rw [if_neg (show ¬ iI y = 2 from by rw [q_2]; exact neq hy (by omega) y2), if_neg y2, if_pos (show iI y = 3 from by rw [show y = 3 from by omega]; exact q_3.symm)]
      · rw [if_neg (show ¬ ((0 ≤ y ∧ y ≤ 3) ∧ 0 ≤ (nxI c b (b 168).toNat).1) from fun q => g q.1), if_neg (show ¬ iI y = 0 from i0_ne hy (by omega)), if_neg (show ¬ iI y = 1 from i1_ne hy (by omega)), if_neg (show ¬ iI y = 2 from by rw [q_2]; exact neq hy (by omega) (by omega)), if_neg (show ¬ iI y = 3 from by rw [q_3]; exact neq hy (by omega) (by omega))]
  · unfold fn_X12_next
    rw [bd_o (show fn_X12_isIn (iI y) 0 3 z = some (iI (tr (0 ≤ y ∧ y ≤ 3)), z) from by rw [q_0, q_3]; exact m_isIn hy (by omega) (by omega))]
    by_cases g : 0 ≤ y ∧ y ≤ 3
    · rw [tr_1 g, if_neg (show ¬ iI 1 = 0 from by decide)]
      obtain ⟨w, e⟩ := m_next18 h g
      refine ⟨w, e.trans ?_⟩
      by_cases h0 : 0 ≤ (nxI c b (b 168).toNat).1
      · rw [if_pos h0, if_pos (show (0 ≤ y ∧ y ≤ 3) ∧ 0 ≤ (nxI c b (b 168).toNat).1 from ⟨g, h0⟩)]
      · rw [if_neg h0, if_neg (show ¬ ((0 ≤ y ∧ y ≤ 3) ∧ 0 ≤ (nxI c b (b 168).toNat).1) from fun q => h0 q.2)]
    · rw [tr_n g, if_pos (show iI 0 = 0 from q_0.symm), if_neg (show ¬ ((0 ≤ y ∧ y ≤ 3) ∧ 0 ≤ (nxI c b (b 168).toNat).1) from fun q => g q.1)]
      exact ⟨z, rfl⟩
end
