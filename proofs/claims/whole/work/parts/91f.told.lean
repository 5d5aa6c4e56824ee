section
variable {z w : St} {T : Nat → Int} {n s : Nat} {c : RC} {dr hp hd : Int} {F0 F1 : FO} {t0 t1 u0 u1 : Nat}
theorem TRd.nf (h : TRd z w T n s) : ¬ TFt z w := fun a => a.x h.2.2.2.2.1
/-- if no fault is told, the count goes on -/
theorem m_more {k v : Nat} {j : Nat} (hj : j = 39 ∨ j = 40) (h : w.1 172 j = iI (v : Int)) : ∃ w', (if w.1 172 2 = 0 then nm (sI w 172 j (w.1 172 j + 1)) (fun z20 => some z20) else some w) = some w' ∧ (w.1 172 2 = 0 → w'.1 172 j = iI ((v + 1 : Nat) : Int)) ∧ ∀ a i, ¬ (a = 172 ∧ i = j) → SA w w' a i := by
  by_cases e : w.1 172 2 = 0
  · rw [if_pos e, nm_o, h, k1]
    exact ⟨_, rfl, fun _ => by rw [sI_at, if_pos rfl], fun a i p => sa_I rfl p⟩
  · rw [if_neg e]
    exact ⟨w, rfl, fun a => absurd a e, fun _ _ _ => SA.rf⟩
/-! a tier is told -/
theorem l_tier (hT : VT T n) (h : TRd z w T n s) (hP : PDr z w c dr hp hd F0 F1 t0 t1 u0 u1) (h3 : c 6 0 < 3) (hk : kx T n s = 1) : ∃ z' w', fn_X6_tierLine z = some z' ∧ bv (fn_X12_readTier w) (fun z7 => fn_X12_readLine_189 z7) = some w' ∧ LRr z' w' T n s := by
  obtain ⟨hX, hM, hN, hF0, hF1, hG0, hG1, hU, hC, hdr, hhp, hhd⟩ := hP
  obtain ⟨t, ht⟩ : ∃ t : Nat, c 6 0 = (t : Int) := ⟨(c 6 0).toNat, by have := hC.1; omega⟩
  have ht3 : t < 3 := by omega
  have x0 : z.1 17 0 = iI (t : Int) := by rw [← ht]; exact hX.1
  have m0 : w.1 172 39 = iI (t : Int) := by rw [← ht]; exact hM.1
  obtain ⟨z1, w1, a1, a2, a3, a4, a5, a6⟩ := p_adv hT h (Or.inl hk)
  have x1 : z1.1 17 0 = iI (t : Int) := (a5 17 0 (by unfold xT; omega)).1.trans x0
  obtain ⟨z2, w2, b1, b2, b3, b4, b5, b6, b7, b8⟩ := p_name (p1 := 18) (fr := 0) (k := t) hT a3 (Or.inl ⟨rfl, rfl, ht3⟩) (fun i hi => by rw [(a5 18 i (by unfold xT; omega)).2, (a6 174 _ (by unfold mT; omega)).2]; exact hN.1 i (by omega))
  have hS2 : TSd z2 w2 T n (nx T n s) := b8.elim Or.inl fun q => q.2
  obtain ⟨z3, w3, r1, r1', c1, c2, c3, c4, c5, c6⟩ := p_num hT hS2 (lo := 1) (hi := 8) (by omega)
  have hS3 : TSd z3 (sI w3 185 t r1') T n (nx T n s) := TSd.fr (c5.elim Or.inl fun ⟨v, s', q⟩ => Or.inr ⟨s', q.2.2.2.2⟩) (fun _ _ _ => SA.rf) (fun a j p => sa_Ia rfl (by omega))
  obtain ⟨z4', z4, w4, r2, r2', d1, d2, d3, d4, d5, d6, d7⟩ := p_told hT hS3 1 (by omega) (lo := 1) (hi := 8) (by omega)
  have hS4 : TSd z4 (sI w4 186 t r2') T n (nx T n s) := TSd.fr (d6.elim Or.inl fun ⟨v, s', q⟩ => Or.inr ⟨s', q.2.2.2.2⟩) (fun _ _ _ => SA.rf) (fun a j p => sa_Ia rfl (by omega))
  obtain ⟨z5', z5, w5, r3, r3', e1, e2, e3, e4, e5, e6, e7⟩ := p_told hT hS4 2 (by omega) (lo := 1) (hi := 9) (by omega)
  have m39 : (sI w5 187 t r3').1 172 39 = iI (t : Int) := by
    rw [(sa_Ia (z := w5) (a := 172) (k := 39) rfl (by omega)).1, (e5 172 39 (by unfold mT; omega)).1, (sa_Ia (z := w4) (a := 172) (k := 39) rfl (by omega)).1, (d5 172 39 (by unfold mT; omega)).1, (sa_Ia (z := w3) (a := 172) (k := 39) rfl (by omega)).1, (c4 172 39 (by unfold mT; omega)).1, (b4 172 39 (by unfold mT; omega) (by omega)).1, (a6 172 39 (by unfold mT; omega)).1, m0]
  obtain ⟨w6, g1, g2, g3⟩ := m_more (k := 0) (j := 39) (Or.inl rfl) m39
  have hS5 : TSd z5 w6 T n (nx T n s) := TSd.fr (e6.elim Or.inl fun ⟨v, s', q⟩ => Or.inr ⟨s', q.2.2.2.2⟩) (fun _ _ _ => SA.rf) (fun a j p => (sa_Ia rfl (by omega)).tr (g3 a j (by omega)))
  obtain ⟨z7, w7, i1, i2, i3, i4, i5, i6⟩ := p_end hT hS5
  have x7 : z7.1 17 0 = iI (t : Int) := by rw [(i3 17 0 (by unfold xT; omega)).1, (e4 17 0 (by unfold xT; omega)).1, (d4 17 0 (by unfold xT; omega)).1, (c3 17 0 (by unfold xT; omega)).1, (b3 17 0 (by unfold xT; omega) (by omega)).1, x1]
  obtain ⟨z8, j1, j2, j3, j4, j5, j6⟩ := x_addTier (r1 := r1) (r2 := r2) (r3 := r3) x7 ht3
  have per3 : TFt z3 w3 → TFt z7 w7 := fun q => i6 (TFt.fr (e7 (TFt.fr (d7 (TFt.fr q (fun _ _ _ => SA.rf) (fun a j p => sa_Ia rfl (by omega)))) (fun _ _ _ => SA.rf) (fun a j p => sa_Ia rfl (by omega)))) (fun _ _ _ => SA.rf) (fun a j p => (sa_Ia rfl (by omega)).tr (g3 a j (by omega))))
  have per4 : TFt z4 w4 → TFt z7 w7 := fun q => i6 (TFt.fr (e7 (TFt.fr q (fun _ _ _ => SA.rf) (fun a j p => sa_Ia rfl (by omega)))) (fun _ _ _ => SA.rf) (fun a j p => (sa_Ia rfl (by omega)).tr (g3 a j (by omega))))
  have per5 : TFt z5 w5 → TFt z7 w7 := fun q => i6 (TFt.fr q (fun _ _ _ => SA.rf) (fun a j p => (sa_Ia rfl (by omega)).tr (g3 a j (by omega))))
  refine ⟨z8, w7, ?_, ?_, ?_⟩
  · unfold fn_X6_tierLine
    rw [x0, q_3, if_pos (ylt (by omega) (by omega) (by omega)), bv_o a1, x1, bv_o b1, bd_o (show fn_X6_numberWithin 1 8 z2 = some (r1, z3) from c1), bv_o (show fn_X6_expectKeyword 1 z3 = some z4' from d1), bd_o (show fn_X6_numberWithin 1 8 z4' = some (r2, z4) from d2), bv_o (show fn_X6_expectKeyword 2 z4 = some z5' from e1), bd_o (show fn_X6_numberWithin 1 9 z5' = some (r3, z5) from e2), bv_o i1, bv_o j1]
  · unfold fn_X12_readTier fn_X12_newName
    rw [z0] at b2
    rw [m0, bv_o a2, bv_o b2, nm_o, show w2.1 172 39 = iI (t : Int) from by rw [(b4 172 39 (by unfold mT; omega) (by omega)).1, (a6 172 39 (by unfold mT; omega)).1, m0], bd_o (show fn_X12_toldNumber 1 8 w2 = some (r1', w3) from c2), gd_t (iI_ix (by omega)), nm_o, iI_clampN (by omega), bd_o (show fn_X12_told 25209 1 8 (sI w3 185 t r1') = some (r2', w4) from d3), gd_t (iI_ix (by omega)), nm_o, bd_o (show fn_X12_told 1751738216 1 9 (sI w4 186 t r2') = some (r3', w5) from e3), gd_t (iI_ix (by omega)), nm_o, bv_o g1]
    exact i2
  · rcases i5 with q | ⟨s', hs', q⟩
    · exact Or.inl (q.fr (fun a j p => j6 a j (by omega) (by omega)) (fun _ _ _ => SA.rf))
    · have nf := q.nf
      obtain ⟨v1, -, l1, l2, rfl, rfl, -⟩ := c5.resolve_left fun a => nf (per3 a)
      obtain ⟨v2, -, l3, l4, rfl, rfl, -⟩ := d6.resolve_left fun a => nf (per4 a)
      obtain ⟨v3, s5, l5, l6, rfl, rfl, -, q5⟩ := e6.resolve_left fun a => nf (per5 a)
      have nf2 : ¬ TFt z2 w2 := fun a => nf (per3 (c6 a))
      obtain ⟨hnew, -⟩ := b8.resolve_left nf2
      have w60 : (sI w5 187 t (iI v3)).1 172 2 = 0 := (sa_Ia (z := w5) (a := 172) (k := 2) rfl (by omega)).1.trans q5.2.2.2.2.2.1
      have fx : ∀ a j, xT a j → ¬ a = 18 → ¬ (a = 17 ∧ j = 0) → ¬ ((a = 19 ∨ a = 20 ∨ a = 21) ∧ j = t) → SA z z8 a j := fun a j p1 p2 p3 p4 => ((((((a5 a j p1).tr (b3 a j p1 p2)).tr (c3 a j p1)).tr (d4 a j p1)).tr (e4 a j p1)).tr (i3 a j p1)).tr (j6 a j p3 p4)
      have fm : ∀ a j, mT a j → ¬ a = 174 → ¬ (a = 172 ∧ j = 39) → ¬ ((a = 185 ∨ a = 186 ∨ a = 187) ∧ j = t) → SA w w7 a j := fun a j p1 p2 p3 p4 => ((((((((a6 a j p1).tr (b4 a j p1 p2)).tr (c4 a j p1)).tr (sa_I rfl (by omega))).tr (d5 a j p1)).tr (sa_I rfl (by omega))).tr (e5 a j p1)).tr (sa_I rfl (by omega))).tr ((g3 a j p3).tr (i4 a j p1))
      have w185 : w7.1 185 t = iI v1 := by rw [(i4 185 t (by unfold mT; omega)).1, (g3 185 t (by omega)).1, (sa_Ia (z := w5) (a := 185) (k := t) rfl (by omega)).1, (e5 185 t (by unfold mT; omega)).1, (sa_Ia (z := w4) (a := 185) (k := t) rfl (by omega)).1, (d5 185 t (by unfold mT; omega)).1, sI_at, if_pos rfl]
      have w186 : w7.1 186 t = iI v2 := by rw [(i4 186 t (by unfold mT; omega)).1, (g3 186 t (by omega)).1, (sa_Ia (z := w5) (a := 186) (k := t) rfl (by omega)).1, (e5 186 t (by unfold mT; omega)).1, sI_at, if_pos rfl]
      have w187 : w7.1 187 t = iI v3 := by rw [(i4 187 t (by unfold mT; omega)).1, (g3 187 t (by omega)).1, sI_at, if_pos rfl]
      have w39 : w7.1 172 39 = iI ((t + 1 : Nat) : Int) := by rw [(i4 172 39 (by unfold mT; omega)).1]; exact g2 w60
      have zn : ∀ i, z8.2 18 i = z2.2 18 i := fun i => by rw [(j6 18 i (by omega) (by omega)).2, (i3 18 i (by unfold xT; omega)).2, (e4 18 i (by unfold xT; omega)).2, (d4 18 i (by unfold xT; omega)).2, (c3 18 i (by unfold xT; omega)).2]
      have wn : ∀ i, w7.2 174 i = w2.2 174 i := fun i => by rw [(i4 174 i (by unfold mT; omega)).2, (g3 174 i (by omega)).2, (sa_Ia (z := w5) (a := 174) (k := i) rfl (by omega)).2, (e5 174 i (by unfold mT; omega)).2, (sa_Ia (z := w4) (a := 174) (k := i) rfl (by omega)).2, (d5 174 i (by unfold mT; omega)).2, (sa_Ia (z := w3) (a := 174) (k := i) rfl (by omega)).2, (c4 174 i (by unfold mT; omega)).2]
      obtain ⟨k61, k62, k63⟩ := aT_6 c t v1 v2 v3
      obtain ⟨k01, k02, k03⟩ := aT_t c t v1 v2 v3
      obtain ⟨y1, y2, y3, y4, y5, y6, y7, y8⟩ := hX
      obtain ⟨o1, o2, o3, o4, o5, o6, o7, o8⟩ := hM
      have nx5 : ∀ a j, 17 ≤ a ∧ a ≤ 30 → xT a j := fun a j p => by unfold xT; omega
      have DX8 : DXr z8 (addT c t v1 v2 v3) dr hp hd := by
        refine ⟨by rw [k61]; exact j2, by rw [k62]; exact (fx 17 5 (nx5 _ _ (by omega)) (by omega) (by omega) (by omega)).1.trans y2, by rw [k63]; exact (fx 17 12 (nx5 _ _ (by omega)) (by omega) (by omega) (by omega)).1.trans y3, (fx 17 13 (nx5 _ _ (by omega)) (by omega) (by omega) (by omega)).1.trans y4, (fx 17 14 (nx5 _ _ (by omega)) (by omega) (by omega) (by omega)).1.trans y5, (fx 17 15 (nx5 _ _ (by omega)) (by omega) (by omega) (by omega)).1.trans y6, fun i hi => ?_, fun g hg => ?_⟩
        · rw [k61] at hi
          by_cases e : i = t
          · rw [e, k01, k02, k03]; exact ⟨j3, j4, j5⟩
          · rw [aT_o c v1 v2 v3 (by omega) (Or.inl e), aT_o c v1 v2 v3 (by omega) (Or.inl e), aT_o c v1 v2 v3 (by omega) (Or.inl e), (fx 19 i (nx5 _ _ (by omega)) (by omega) (by omega) (by omega)).1, (fx 20 i (nx5 _ _ (by omega)) (by omega) (by omega) (by omega)).1, (fx 21 i (nx5 _ _ (by omega)) (by omega) (by omega) (by omega)).1]
            exact y7 i (by omega)
        · rw [k62] at hg
          rw [aT_o c v1 v2 v3 (by omega) (Or.inr (by omega)), aT_o c v1 v2 v3 (by omega) (Or.inr (by omega)), aT_o c v1 v2 v3 (by omega) (Or.inr (by omega)), (fx 23 g (nx5 _ _ (by omega)) (by omega) (by omega) (by omega)).1, (fx 24 g (nx5 _ _ (by omega)) (by omega) (by omega) (by omega)).1, (fx 25 g (nx5 _ _ (by omega)) (by omega) (by omega) (by omega)).1]
          exact y8 g hg
      have DM8 : DMr w7 (addT c t v1 v2 v3) dr hp hd := by
        refine ⟨by rw [k61]; exact w39, by rw [k62]; exact (fm 172 40 (by unfold mT; omega) (by omega) (by omega) (by omega)).1.trans o2, by rw [k63]; exact (fm 172 41 (by unfold mT; omega) (by omega) (by omega) (by omega)).1.trans o3, (fm 172 46 (by unfold mT; omega) (by omega) (by omega) (by omega)).1.trans o4, (fm 172 42 (by unfold mT; omega) (by omega) (by omega) (by omega)).1.trans o5, (fm 172 47 (by unfold mT; omega) (by omega) (by omega) (by omega)).1.trans o6, fun i hi => ?_, fun g hg => ?_⟩
        · rw [k61] at hi
          by_cases e : i = t
          · rw [e, k01, k02, k03]; exact ⟨w185, w186, w187⟩
          · rw [aT_o c v1 v2 v3 (by omega) (Or.inl e), aT_o c v1 v2 v3 (by omega) (Or.inl e), aT_o c v1 v2 v3 (by omega) (Or.inl e), (fm 185 i (by unfold mT; omega) (by omega) (by omega) (by omega)).1, (fm 186 i (by unfold mT; omega) (by omega) (by omega) (by omega)).1, (fm 187 i (by unfold mT; omega) (by omega) (by omega) (by omega)).1]
            exact o7 i (by omega)
        · rw [k62] at hg
          rw [aT_o c v1 v2 v3 (by omega) (Or.inr (by omega)), aT_o c v1 v2 v3 (by omega) (Or.inr (by omega)), aT_o c v1 v2 v3 (by omega) (Or.inr (by omega)), (fm 191 g (by unfold mT; omega) (by omega) (by omega) (by omega)).1, (fm 192 g (by unfold mT; omega) (by omega) (by omega) (by omega)).1, (fm 193 g (by unfold mT; omega) (by omega) (by omega) (by omega)).1]
          exact o8 g hg
      have DN8 : DNm z8 w7 (addT c t v1 v2 v3) := by
        refine ⟨fun i hi => ?_, fun g hg => ?_⟩
        · rw [k61] at hi
          rw [zn, wn]
          by_cases e : i = t
          · rw [e]; exact hnew
          · rw [b6 i e, b7 (0 + i) (by omega), (a5 18 i (by unfold xT; omega)).2, (a6 174 _ (by unfold mT; omega)).2]
            exact hN.1 i (by omega)
        · rw [k62] at hg
          rw [wn, b7 (3 + g) (by omega), (a6 174 _ (by unfold mT; omega)).2, (fx 22 g (nx5 _ _ (by omega)) (by omega) (by omega) (by omega)).2]
          exact hN.2 g hg
      exact Or.inr ⟨s', addT c t v1 v2 v3, dr, hp, hd, F0, F1, t0, t1, u0, u1, by omega, q.fr (fun a j p => j6 a j (by omega) (by omega)) (fun _ _ _ => SA.rf), DX8, DM8, DN8, hF0.fr fun a j p => fx a j (nx5 _ _ (by omega)) (by omega) (by omega) (by omega), hF1.fr fun a j p => fx a j (nx5 _ _ (by omega)) (by omega) (by omega) (by omega), hG0.fr hF0.2.2.2.2.1 fun a j p => fm a j (by unfold mT; omega) (by omega) (by omega) (by omega), hG1.fr hF1.2.2.2.2.1 fun a j p => fm a j (by unfold mT; omega) (by omega) (by omega) (by omega), (fm 172 22 (by unfold mT; omega) (by omega) (by omega) (by omega)).1.trans hU, hC.addT ht ht3 ⟨l1, l2⟩ ⟨l3, l4⟩ ⟨l5, l6⟩, hdr, hhp, hhd⟩
end
