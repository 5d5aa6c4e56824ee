section
variable {z w : St} {c : RC} {F0 F1 : FO} {b : BD}
theorem hp_b (hV : VB c b) (g : Int) : -1 ≤ hp b g ∧ hp b g < b 168 := by
  have h0 := hV.1
  have := pof_b b g (b 168).toNat
  unfold hp
  omega
theorem ex_ite {α : Type} {P : Prop} [Decidable P] {x y : Option (α × St)} (hx : ∃ r, x = some (r, z)) (hy : ∃ r, y = some (r, z)) : ∃ r, (if P then x else y) = some (r, z) := by
  split
  · exact hx
  · exact hy
/-! hungry -/
def fhu (c : RC) (b : BD) (g : Nat) : Bool := decide (hp b g = -1 ∧ fee c b g = 0)
theorem x_hungry (h : RXs z c F0 F1 b) : fn_X11_hungry z = some (orf (fhu c b) (c 6 1).toNat, z) := by
  have hX := h
  obtain ⟨hC, hV, -, -, hR, hB, -, -⟩ := h
  have h0 := hC.2.1
  have h24 := hV.1
  obtain ⟨m, hm⟩ := loopK (fun m k => fn_X11_hungry_4 m (orf (fhu c b) k) (iI (k : Int)) z) (c 6 1).toNat (by omega) (fun k m hk => by
    have hp1 := hp_b hV k
    show fn_X11_hungry_4 (m + 1) _ _ _ = fn_X11_hungry_4 m _ _ _
    rw [fn_X11_hungry_4, hR.2.1, if_neg (nle (by omega) (by omega) (by omega)), gd_t (iI_ix (by omega)), iI_clampN (by omega), show z.1 60 k = iI (hp b k) from hB.2.2.2.2 k (by omega), orf, fhu]
    unfold fn_X11_hungry_45
    by_cases hf : hp b k = -1
    · rw [if_pos (by rw [hf, q_m1]), bd_o (x_feeders (by omega) hX), k1]
      by_cases hi2 : fee c b k = 0
      · rw [if_pos hi2, nm_o, decide_eq_true ⟨hf, hi2⟩, if_pos rfl]
      · rw [if_neg hi2, if_neg (by simp [hi2])]
    · rw [if_neg (by rw [q_m1]; exact neq (by omega) (by omega) hf), if_neg (by simp [hf]), k1])
  unfold fn_X11_hungry
  refine (show _ = fn_X11_hungry_4 fu 0 (iI ((0 : Nat) : Int)) z from by rw [z0]).trans (hm.trans ?_)
  rw [fn_X11_hungry_4, hR.2.1, if_pos (yle (by omega) (by omega) (by omega))]
theorem m_hungry (h : RD z c F0 F1 b) : ∃ w, fn_X12_hungry z = some (orf (fhu c b) (c 6 1).toNat, w) := by
  have h0 := h.vc.2.1
  have h24 := h.vb.1
  obtain ⟨m, s, i1, hm⟩ := loopE (fun m k s => fn_X12_hungry_8 m (orf (fhu c b) k) (iI (k : Int)) s) (fun k s => RD s c F0 F1 b ∧ RM s c F0 F1 b) (c 6 1).toNat (by omega) (ldz z) ⟨h.fr fun a k h => ldz_S (by unfold PS at h; omega), h.ld⟩ (fun k m s hk ⟨hD, hM⟩ => by
    have hp1 := hp_b h.vb k
    have hg : (k : Int) < c 6 1 := by omega
    show ∃ s', _ ∧ fn_X12_hungry_8 (m + 1) _ _ _ = fn_X12_hungry_8 m _ _ _
    rw [fn_X12_hungry_8, hM.2.2.2.2.1.2.1, if_neg (nle (by omega) (by omega) (by omega)), bd_o (m_pieceOf hM.1 hM.2.2.2.2.2.1 hM.2.1 (by omega)), orf, fhu]
    unfold fn_X12_hungry_37 fn_X12_hungry_38
    by_cases hf : hp b k = -1
    · rw [if_neg (by rw [q_0]; exact nle (by omega) (by omega) (by omega))]
      have e : fn_X12_feeds (iI k) s = some (fee c b k, ldz s) := by
        unfold fn_X12_feeds
        rw [bd_o (m_isGuest hD.mr hD.vc (by omega)), tr_1 (by omega), if_neg (by decide), bv_o (m_load s), m_feeds hg hD.ld]
      refine ⟨ldz s, ⟨hD.fr fun a k h => ldz_S (by unfold PS at h; omega), hD.ld⟩, ?_⟩
      rw [bd_o e]
      by_cases hi2 : fee c b k = 0
      · rw [if_pos hi2, bd_o m_truth1, nm_o, k1, decide_eq_true ⟨hf, hi2⟩, if_pos rfl]
      · rw [if_neg hi2, bd_o m_truth0, nm_o, k1, if_neg (by simp [hi2]), q_0, or_n]
    · refine ⟨s, ⟨hD, hM⟩, ?_⟩
      rw [if_pos (by rw [q_0]; exact yle (by omega) (by omega) (by omega)), bd_o m_truth0, nm_o, k1, q_0, or_n, if_neg (by simp [hf])])
  unfold fn_X12_hungry
  rw [bv_o (m_load z)]
  refine ⟨s, (show _ = fn_X12_hungry_8 fu 0 (iI ((0 : Nat) : Int)) (ldz z) from by rw [z0]).trans (hm.trans ?_)⟩
  show fn_X12_hungry_8 (m + 1) _ _ _ = _
  rw [fn_X12_hungry_8, i1.2.2.2.2.2.1.2.1, if_pos (yle (by omega) (by omega) (by omega))]
theorem s_hungry (h : RD z c F0 F1 b) : Same fn_X11_hungry fn_X12_hungry z :=
  qry (orf (fhu c b) (c 6 1).toNat) h (fun z h => ⟨z, x_hungry h.xs⟩) (fun z w e a k h => ff_X11_hungry (by trivial) e) (fun z h => m_hungry h) (fun z w e a k h => ff_X12_hungry (by unfold PS at h; show ¬ a = 198; omega) e)
/-! fault, lies -/
theorem s_fault (v : Int32) (h : RD z c F0 F1 b) : Same (fn_X11_fault v) (fn_X12_fault v) z := by
  refine ⟨if v = 0 then z.1 32 11 else if v = 1 then z.1 32 12 else -1, z, z, ?_, ?_, c, F0, F1, b, h⟩
  · unfold fn_X11_fault
    split
    · rfl
    · split <;> rfl
  · unfold fn_X12_fault
    rw [← h.2.1.1, ← h.2.1.2]
    split
    · rfl
    · split <;> rfl
theorem s_lies (v : Int32) (h : RD z c F0 F1 b) : Same (fn_X11_lies v) (fn_X12_lies v) z := by
  obtain ⟨n, rfl, hn⟩ := ii v
  obtain ⟨y, y1, y2, y3, y4⟩ := h.2.2.2.1
  refine ⟨if 0 ≤ n ∧ n < y then z.1 205 n.toNat else -2, z, z, ?_, ?_, c, F0, F1, b, h⟩
  · unfold fn_X11_lies
    rw [y2, q_0]
    by_cases h1 : n < 0
    · rw [if_pos (ylt (by omega) (by omega) h1), if_neg (by omega)]
    · rw [if_neg (nlt (by omega) (by omega) h1)]
      by_cases h2 : (y : Int) ≤ n
      · rw [if_pos (yle (by omega) (by omega) h2), if_neg (by omega)]
      · rw [if_neg (nle (by omega) (by omega) h2), if_pos (by rw [q_6]; exact ylt (by omega) (by omega) (by omega)), if_pos (by omega), gd_t (iI_ix (by omega)), iI_clamp (by omega), y4 _ (by omega)]
  · unfold fn_X12_lies
    rw [y3, q_1, iI_sub, q_0, bd_o (m_isIn hn (by omega) (by omega))]
    by_cases h1 : 0 ≤ n ∧ n ≤ (y : Int) - 1
    · rw [tr_1 h1, if_neg (neq (by omega) (by omega) (by omega)), if_pos (by omega), gd_t (iI_ix (by omega)), iI_clamp (by omega)]
    · rw [tr_n h1, if_pos rfl, if_neg (by omega)]
/-! about -/
def fbro (b : BD) (k : Nat) : Bool := decide (pc b k 5 = 1)
theorem x_broken (h : RXs z c F0 F1 b) : fn_X1_brokenSet 34 z = some (orf (fbro b) (b 168).toNat, z) := by
  obtain ⟨hC, hV, -, -, hR, hB, -, -⟩ := h
  have h0 := hV.1
  obtain ⟨m, hm⟩ := loopK (fun m k => fn_X1_brokenSet_4 m 34 (orf (fbro b) k) (iI (k : Int)) z) (b 168).toNat (by omega) (fun k m hk => by
    have hp : (k : Int) < b 168 := by omega
    have h24 := hV.n hp
    have h5 := (hV.2.2.1 k hp).2.2.2.1
    show fn_X1_brokenSet_4 (m + 1) _ _ _ _ = fn_X1_brokenSet_4 m _ _ _ _
    rw [fn_X1_brokenSet_4, hB.1, if_neg (nle (by omega) (by omega) (by omega)), gd_t (iI_ix (by omega)), iI_clampN (by omega), show z.1 (34 + 1 + 1 + k) 5 = iI (pc b k 5) from hB.2.2.2.1 k hp 5 (by omega), orf, fbro, q_0]
    unfold fn_X1_brokenSet_30
    by_cases hf : pc b k 5 = 1
    · rw [if_neg (neq (by omega) (by omega) (by omega)), nm_o, k1, decide_eq_true hf, if_pos rfl]
    · rw [if_pos (yeq (by omega) (by omega) (by omega)), if_neg (by simp [hf]), k1])
  unfold fn_X1_brokenSet
  refine (show _ = fn_X1_brokenSet_4 fu 34 0 (iI ((0 : Nat) : Int)) z from by rw [z0]).trans (hm.trans ?_)
  rw [fn_X1_brokenSet_4, hB.1, if_pos (yle (by omega) (by omega) (by omega))]
theorem m_broken (h : RD z c F0 F1 b) : fn_X12_brokenOnes z = some (orf (fbro b) (b 168).toNat, z) := by
  have hV := h.vb
  have hB := h.mb
  have h0 := hV.1
  have e168 : z.1 197 168 = iI (b 168) := hB.1
  obtain ⟨m, hm⟩ := loopK (fun m k => fn_X12_brokenOnes_4 m (orf (fbro b) k) (iI (k : Int)) z) (b 168).toNat (by omega) (fun k m hk => by
    have hp : (k : Int) < b 168 := by omega
    have h24 := hV.n hp
    have h5 := (hV.2.2.1 k hp).2.2.2.1
    have e := hB.2.2.2 k hp 5 (by omega)
    rw [Nat.zero_add] at e
    show fn_X12_brokenOnes_4 (m + 1) _ _ _ = fn_X12_brokenOnes_4 m _ _ _
    rw [fn_X12_brokenOnes_4, c_168, e168, if_neg (nle (by omega) (by omega) (by omega)), gd_t (x7_5 h24), c7_5 h24, e, nm_o, k1, orf, fbro]
    by_cases hf : pc b k 5 = 1
    · rw [hf, decide_eq_true rfl, if_pos rfl, ← q_1]
    · rw [show pc b k 5 = 0 from by omega, or_n, if_neg (by simp)])
  unfold fn_X12_brokenOnes
  refine (show _ = fn_X12_brokenOnes_4 fu 0 (iI ((0 : Nat) : Int)) z from by rw [z0]).trans (hm.trans ?_)
  rw [fn_X12_brokenOnes_4, c_168, e168, if_pos (yle (by omega) (by omega) (by omega))]
theorem s_about (v : Int32) (h : RD z c F0 F1 b) : Same (fn_X11_about v) (fn_X12_about v) z := by
  obtain ⟨ha, d, n, a1, a2, a3, a4, a5, a6, -⟩ := h.2.2.2.2.2.2.2.2
  obtain ⟨l, t, l1, l2, l3, l4, l5, l6, l7, -⟩ := h.2.2.2.2.2.2.2.1
  obtain ⟨y, y1, y2, y3, -⟩ := h.2.2.2.1
  obtain ⟨tp, t1, t2, t3, -⟩ := h.1
  have e2 : fn_X12_about v z = fn_X11_about v z := by
    unfold fn_X11_about fn_X12_about
    rw [h.xr.1, h.mr.1, h.xr.2.1, h.mr.2.1, h.xb.1, c_168, show z.1 197 168 = iI (b 168) from h.mb.1, h.xb.2.1, c_169, show z.1 197 169 = iI (b 169) from h.mb.2.1, h.xb.2.2.1, c_170, show z.1 197 170 = iI (b 170) from h.mb.2.2.1, bd_o (x_broken h.xs), bd_o (m_broken h), a3, a4, a5, a6, l4, l5, l6, l7, t2, t3, y2, y3, h.un, iI_sub, show ((n - d : Nat) : Int) = (n : Int) - (d : Int) from by omega]
  have e1 : ∃ r, fn_X11_about v z = some (r, z) := by
    unfold fn_X11_about
    rw [bd_o (x_broken h.xs)]
    repeat (refine ex_ite ⟨_, rfl⟩ ?_)
    exact ⟨_, rfl⟩
  obtain ⟨r, e1⟩ := e1
  exact ⟨r, z, z, e1, e2.trans e1, c, F0, F1, b, h⟩
end
