section
variable {z w : St} {T : Nat → Int} {n s : Nat} {c : RC} {dr hp hd : Int} {F0 F1 : FO} {t0 t1 u0 u1 : Nat}
theorem iI3 : iI ((3 : Nat) : Int) = 3 := by decide
/-! a guest is told -/
theorem l_guest (hT : VT T n) (h : TRd z w T n s) (hP : PDr z w c dr hp hd F0 F1 t0 t1 u0 u1) (h3 : c 6 1 < 6) (hk : kx T n s = 1) : ∃ z' w', fn_X6_guestLine z = some z' ∧ bv (fn_X12_readGuest w) (fun z7 => fn_X12_readLine_189 z7) = some w' ∧ LRr z' w' T n s := by
  obtain ⟨hX, hM, hN, hF0, hF1, hG0, hG1, hU, hC, hdr, hhp, hhd⟩ := hP
  obtain ⟨t, ht⟩ : ∃ t : Nat, c 6 1 = (t : Int) := ⟨(c 6 1).toNat, by have := hC.2.1; omega⟩
  have ht3 : t < 6 := by omega
  have x0 : z.1 17 5 = iI (t : Int) := by rw [← ht]; exact hX.2.1
  have m0 : w.1 172 40 = iI (t : Int) := by rw [← ht]; exact hM.2.1
  obtain ⟨z1, w1, a1, a2, a3, a4, a5, a6⟩ := p_adv hT h (Or.inl hk)
  have x1 : z1.1 17 5 = iI (t : Int) := (a5 17 5 (by unfold xT; omega)).1.trans x0
  obtain ⟨z2, w2, b1, b2, b3, b4, b5, b6, b7, b8⟩ := p_name (p1 := 22) (fr := 3) (k := t) hT a3 (Or.inr ⟨rfl, rfl, ht3⟩) (fun i hi => by rw [(a5 22 i (by unfold xT; omega)).2, (a6 174 _ (by unfold mT; omega)).2]; exact hN.2 i (by omega))
  have hS2 : TSd z2 w2 T n (nx T n s) := b8.elim Or.inl fun q => q.2
  obtain ⟨z3', z3, w3, r1, r1', c0, c1, c2, c3, c4, c5, c6⟩ := p_told hT hS2 4 (by omega) (lo := 0) (hi := 999) (by omega)
  have hS3 : TSd z3 (sI w3 191 t r1') T n (nx T n s) := TSd.fr (c5.elim Or.inl fun ⟨v, s', q⟩ => Or.inr ⟨s', q.2.2.2.2⟩) (fun _ _ _ => SA.rf) (fun a j p => sa_Ia rfl (by omega))
  obtain ⟨z4, w4, r2, r2', d1, d3, d4, d5, d6, d7⟩ := p_opt hT hS3 5 (by omega) (hi := 9) (d := 0) (by omega) (by omega) (fun v y => fn_X6_guestLine_75 r1 v y)
  have hS4 : TSd z4 (sI w4 192 t r2') T n (nx T n s) := TSd.fr (d6.elim Or.inl fun ⟨v, s', q⟩ => Or.inr ⟨s', q.2.2.2.2⟩) (fun _ _ _ => SA.rf) (fun a j p => sa_Ia rfl (by omega))
  obtain ⟨z5, w5, r3, r3', e1, e3, e4, e5, e6, e7⟩ := p_opt hT hS4 6 (by omega) (hi := 100) (d := 100) (by omega) (by omega) (fun v y => fn_X6_guestLine_99 r1 r2 v y)
  have m39 : (sI w5 193 t r3').1 172 40 = iI (t : Int) := by
    rw [(sa_Ia (z := w5) (a := 172) (k := 40) rfl (by omega)).1, (e5 172 40 (by unfold mT; omega)).1, (sa_Ia (z := w4) (a := 172) (k := 40) rfl (by omega)).1, (d5 172 40 (by unfold mT; omega)).1, (sa_Ia (z := w3) (a := 172) (k := 40) rfl (by omega)).1, (c4 172 40 (by unfold mT; omega)).1, (b4 172 40 (by unfold mT; omega) (by omega)).1, (a6 172 40 (by unfold mT; omega)).1, m0]
  obtain ⟨w6, g1, g2, g3⟩ := m_more (k := 0) (j := 40) (Or.inr rfl) m39
  have hS5 : TSd z5 w6 T n (nx T n s) := TSd.fr (e6.elim Or.inl fun ⟨v, s', q⟩ => Or.inr ⟨s', q.2.2.2.2⟩) (fun _ _ _ => SA.rf) (fun a j p => (sa_Ia rfl (by omega)).tr (g3 a j (by omega)))
  obtain ⟨z7, w7, i1, i2, i3, i4, i5, i6⟩ := p_end hT hS5
  have x7 : z7.1 17 5 = iI (t : Int) := by rw [(i3 17 5 (by unfold xT; omega)).1, (e4 17 5 (by unfold xT; omega)).1, (d4 17 5 (by unfold xT; omega)).1, (c3 17 5 (by unfold xT; omega)).1, (b3 17 5 (by unfold xT; omega) (by omega)).1, x1]
  obtain ⟨z8, j1, j2, j3, j4, j5, j6⟩ := x_addGuest (r1 := r1) (r2 := r2) (r3 := r3) x7 ht3
  have per3 : TFt z3 w3 → TFt z7 w7 := fun q => i6 (TFt.fr (e7 (TFt.fr (d7 (TFt.fr q (fun _ _ _ => SA.rf) (fun a j p => sa_Ia rfl (by omega)))) (fun _ _ _ => SA.rf) (fun a j p => sa_Ia rfl (by omega)))) (fun _ _ _ => SA.rf) (fun a j p => (sa_Ia rfl (by omega)).tr (g3 a j (by omega))))
  have per4 : TFt z4 w4 → TFt z7 w7 := fun q => i6 (TFt.fr (e7 (TFt.fr q (fun _ _ _ => SA.rf) (fun a j p => sa_Ia rfl (by omega)))) (fun _ _ _ => SA.rf) (fun a j p => (sa_Ia rfl (by omega)).tr (g3 a j (by omega))))
  have per5 : TFt z5 w5 → TFt z7 w7 := fun q => i6 (TFt.fr q (fun _ _ _ => SA.rf) (fun a j p => (sa_Ia rfl (by omega)).tr (g3 a j (by omega))))
  refine ⟨z8, w7, ?_, ?_, ?_⟩
  · have e99 : fn_X6_guestLine_99 r1 r2 r3 z5 = some z8 := by
      unfold fn_X6_guestLine_99
      rw [bv_o i1, bv_o j1]
    have e75 : fn_X6_guestLine_75 r1 r2 z4 = some z8 := by
      rw [← e99]
      exact e1
    unfold fn_X6_guestLine
    rw [x0, q_6, if_pos (ylt (by omega) (by omega) (by omega)), bv_o a1, x1, bv_o b1, bv_o (show fn_X6_expectKeyword 4 z2 = some z3' from c0), bd_o (show fn_X6_numberWithin 0 999 z3' = some (r1, z3) from c1), ← e75]
    exact d1
  · unfold fn_X12_readGuest fn_X12_newName
    rw [iI3] at b2
    rw [m0, bv_o a2, bv_o b2, nm_o, show w2.1 172 40 = iI (t : Int) from by rw [(b4 172 40 (by unfold mT; omega) (by omega)).1, (a6 172 40 (by unfold mT; omega)).1, m0], bd_o (show fn_X12_told 512735736947 0 999 w2 = some (r1', w3) from c2), gd_t (iI_ix (by omega)), nm_o, iI_clampN (by omega), bd_o (show fn_X12_option 495924372852 9 0 (sI w3 191 t r1') = some (r2', w4) from d3), gd_t (iI_ix (by omega)), nm_o, bd_o (show fn_X12_option 427071202675 100 100 (sI w4 192 t r2') = some (r3', w5) from e3), gd_t (iI_ix (by omega)), nm_o, bv_o g1]
    exact i2
  · rcases i5 with q | ⟨s', hs', q⟩
    · exact Or.inl (q.fr (fun a j p => j6 a j (by omega) (by omega)) (fun _ _ _ => SA.rf))
    · have nf := q.nf
      obtain ⟨v1, -, l1, l2, rfl, rfl, -⟩ := c5.resolve_left fun a => nf (per3 a)
      obtain ⟨v2, -, l3, l4, rfl, rfl, -⟩ := d6.resolve_left fun a => nf (per4 a)
      obtain ⟨v3, s5, l5, l6, rfl, rfl, -, q5⟩ := e6.resolve_left fun a => nf (per5 a)
      have nf2 : ¬ TFt z2 w2 := fun a => nf (per3 (c6 a))
      obtain ⟨hnew, -⟩ := b8.resolve_left nf2
      have w60 : (sI w5 193 t (iI v3)).1 172 2 = 0 := (sa_Ia (z := w5) (a := 172) (k := 2) rfl (by omega)).1.trans q5.2.2.2.2.2.1
      have fx : ∀ a j, xT a j → ¬ a = 22 → ¬ (a = 17 ∧ j = 5) → ¬ ((a = 23 ∨ a = 24 ∨ a = 25) ∧ j = t) → SA z z8 a j := fun a j p1 p2 p3 p4 => ((((((a5 a j p1).tr (b3 a j p1 p2)).tr (c3 a j p1)).tr (d4 a j p1)).tr (e4 a j p1)).tr (i3 a j p1)).tr (j6 a j p3 p4)
      have fm : ∀ a j, mT a j → ¬ a = 174 → ¬ (a = 172 ∧ j = 40) → ¬ ((a = 191 ∨ a = 192 ∨ a = 193) ∧ j = t) → SA w w7 a j := fun a j p1 p2 p3 p4 => ((((((((a6 a j p1).tr (b4 a j p1 p2)).tr (c4 a j p1)).tr (sa_I rfl (by omega))).tr (d5 a j p1)).tr (sa_I rfl (by omega))).tr (e5 a j p1)).tr (sa_I rfl (by omega))).tr ((g3 a j p3).tr (i4 a j p1))
      have w185 : w7.1 191 t = iI v1 := by rw [(i4 191 t (by unfold mT; omega)).1, (g3 191 t (by omega)).1, (sa_Ia (z := w5) (a := 191) (k := t) rfl (by omega)).1, (e5 191 t (by unfold mT; omega)).1, (sa_Ia (z := w4) (a := 191) (k := t) rfl (by omega)).1, (d5 191 t (by unfold mT; omega)).1, sI_at, if_pos rfl]
      have w186 : w7.1 192 t = iI v2 := by rw [(i4 192 t (by unfold mT; omega)).1, (g3 192 t (by omega)).1, (sa_Ia (z := w5) (a := 192) (k := t) rfl (by omega)).1, (e5 192 t (by unfold mT; omega)).1, sI_at, if_pos rfl]
      have w187 : w7.1 193 t = iI v3 := by rw [(i4 193 t (by unfold mT; omega)).1, (g3 193 t (by omega)).1, sI_at, if_pos rfl]
      have w39 : w7.1 172 40 = iI ((t + 1 : Nat) : Int) := by rw [(i4 172 40 (by unfold mT; omega)).1]; exact g2 w60
      have zn : ∀ i, z8.2 22 i = z2.2 22 i := fun i => by rw [(j6 22 i (by omega) (by omega)).2, (i3 22 i (by unfold xT; omega)).2, (e4 22 i (by unfold xT; omega)).2, (d4 22 i (by unfold xT; omega)).2, (c3 22 i (by unfold xT; omega)).2]
      have wn : ∀ i, w7.2 174 i = w2.2 174 i := fun i => by rw [(i4 174 i (by unfold mT; omega)).2, (g3 174 i (by omega)).2, (sa_Ia (z := w5) (a := 174) (k := i) rfl (by omega)).2, (e5 174 i (by unfold mT; omega)).2, (sa_Ia (z := w4) (a := 174) (k := i) rfl (by omega)).2, (d5 174 i (by unfold mT; omega)).2, (sa_Ia (z := w3) (a := 174) (k := i) rfl (by omega)).2, (c4 174 i (by unfold mT; omega)).2]
      obtain ⟨k61, k62, k63⟩ := aG_6 c t v1 v2 v3
      obtain ⟨k01, k02, k03⟩ := aG_t c t v1 v2 v3
      obtain ⟨y1, y2, y3, y4, y5, y6, y7, y8⟩ := hX
      obtain ⟨o1, o2, o3, o4, o5, o6, o7, o8⟩ := hM
      have nx5 : ∀ a j, 17 ≤ a ∧ a ≤ 30 → xT a j := fun a j p => by unfold xT; omega
      have DX8 : DXr z8 (addG c t v1 v2 v3) dr hp hd := by
        refine ⟨by rw [k61]; exact (fx 17 0 (nx5 _ _ (by omega)) (by omega) (by omega) (by omega)).1.trans y1, by rw [k62]; exact j2, by rw [k63]; exact (fx 17 12 (nx5 _ _ (by omega)) (by omega) (by omega) (by omega)).1.trans y3, (fx 17 13 (nx5 _ _ (by omega)) (by omega) (by omega) (by omega)).1.trans y4, (fx 17 14 (nx5 _ _ (by omega)) (by omega) (by omega) (by omega)).1.trans y5, (fx 17 15 (nx5 _ _ (by omega)) (by omega) (by omega) (by omega)).1.trans y6, fun g hg => ?_, fun i hi => ?_⟩
        · rw [k61] at hg
          rw [aG_o c v1 v2 v3 (by omega) (Or.inr (by omega)), aG_o c v1 v2 v3 (by omega) (Or.inr (by omega)), aG_o c v1 v2 v3 (by omega) (Or.inr (by omega)), (fx 19 g (nx5 _ _ (by omega)) (by omega) (by omega) (by omega)).1, (fx 20 g (nx5 _ _ (by omega)) (by omega) (by omega) (by omega)).1, (fx 21 g (nx5 _ _ (by omega)) (by omega) (by omega) (by omega)).1]
          exact y7 g hg
        · rw [k62] at hi
          by_cases e : i = t
          · rw [e, k01, k02, k03]; exact ⟨j3, j4, j5⟩
          · rw [aG_o c v1 v2 v3 (by omega) (Or.inl e), aG_o c v1 v2 v3 (by omega) (Or.inl e), aG_o c v1 v2 v3 (by omega) (Or.inl e), (fx 23 i (nx5 _ _ (by omega)) (by omega) (by omega) (by omega)).1, (fx 24 i (nx5 _ _ (by omega)) (by omega) (by omega) (by omega)).1, (fx 25 i (nx5 _ _ (by omega)) (by omega) (by omega) (by omega)).1]
            exact y8 i (by omega)
      have DM8 : DMr w7 (addG c t v1 v2 v3) dr hp hd := by
        refine ⟨by rw [k61]; exact (fm 172 39 (by unfold mT; omega) (by omega) (by omega) (by omega)).1.trans o1, by rw [k62]; exact w39, by rw [k63]; exact (fm 172 41 (by unfold mT; omega) (by omega) (by omega) (by omega)).1.trans o3, (fm 172 46 (by unfold mT; omega) (by omega) (by omega) (by omega)).1.trans o4, (fm 172 42 (by unfold mT; omega) (by omega) (by omega) (by omega)).1.trans o5, (fm 172 47 (by unfold mT; omega) (by omega) (by omega) (by omega)).1.trans o6, fun g hg => ?_, fun i hi => ?_⟩
        · rw [k61] at hg
          rw [aG_o c v1 v2 v3 (by omega) (Or.inr (by omega)), aG_o c v1 v2 v3 (by omega) (Or.inr (by omega)), aG_o c v1 v2 v3 (by omega) (Or.inr (by omega)), (fm 185 g (by unfold mT; omega) (by omega) (by omega) (by omega)).1, (fm 186 g (by unfold mT; omega) (by omega) (by omega) (by omega)).1, (fm 187 g (by unfold mT; omega) (by omega) (by omega) (by omega)).1]
          exact o7 g hg
        · rw [k62] at hi
          by_cases e : i = t
          · rw [e, k01, k02, k03]; exact ⟨w185, w186, w187⟩
          · rw [aG_o c v1 v2 v3 (by omega) (Or.inl e), aG_o c v1 v2 v3 (by omega) (Or.inl e), aG_o c v1 v2 v3 (by omega) (Or.inl e), (fm 191 i (by unfold mT; omega) (by omega) (by omega) (by omega)).1, (fm 192 i (by unfold mT; omega) (by omega) (by omega) (by omega)).1, (fm 193 i (by unfold mT; omega) (by omega) (by omega) (by omega)).1]
            exact o8 i (by omega)
      have DN8 : DNm z8 w7 (addG c t v1 v2 v3) := by
        refine ⟨fun g hg => ?_, fun i hi => ?_⟩
        · rw [k61] at hg
          have := hC.1
          rw [wn, b7 (0 + g) (by omega), (a6 174 _ (by unfold mT; omega)).2, (fx 18 g (nx5 _ _ (by omega)) (by omega) (by omega) (by omega)).2]
          exact hN.1 g hg
        · rw [k62] at hi
          rw [zn, wn]
          by_cases e : i = t
          · rw [e]; exact hnew
          · rw [b6 i e, b7 (3 + i) (by omega), (a5 22 i (by unfold xT; omega)).2, (a6 174 _ (by unfold mT; omega)).2]
            exact hN.2 i (by omega)
      exact Or.inr ⟨s', addG c t v1 v2 v3, dr, hp, hd, F0, F1, t0, t1, u0, u1, by omega, q.fr (fun a j p => j6 a j (by omega) (by omega)) (fun _ _ _ => SA.rf), DX8, DM8, DN8, hF0.fr fun a j p => fx a j (nx5 _ _ (by omega)) (by omega) (by omega) (by omega), hF1.fr fun a j p => fx a j (nx5 _ _ (by omega)) (by omega) (by omega) (by omega), hG0.fr hF0.2.2.2.2.1 fun a j p => fm a j (by unfold mT; omega) (by omega) (by omega) (by omega), hG1.fr hF1.2.2.2.2.1 fun a j p => fm a j (by unfold mT; omega) (by omega) (by omega) (by omega), (fm 172 22 (by unfold mT; omega) (by omega) (by omega) (by omega)).1.trans hU, hC.addG ht ht3 ⟨l1, l2⟩ ⟨l3, l4⟩ ⟨l5, l6⟩, hdr, hhp, hhd⟩
/-! pace, draw -/
theorem l_pace (hT : VT T n) (h : TRd z w T n s) (hP : PDr z w c dr hp hd F0 F1 t0 t1 u0 u1) (h0 : hp = 0) (hk : kw T n s = 9) : ∃ z' w', fn_X6_paceLine z = some z' ∧ nm (sI w 172 46 1) (fun z6 => bd (fn_X12_told 1885430629 0 60 z6) (fun r8 z9 => nm (sI z9 172 41 r8) (fun z10 => fn_X12_readLine_189 z10))) = some w' ∧ LRr z' w' T n s := by
  obtain ⟨hX, hM, hN, hF0, hF1, hG0, hG1, hU, hC, hdr, hhp, hhd⟩ := hP
  have hk1 := kw_1 (k := 9) hk
  have hw : TRd z (sI w 172 46 1) T n s := h.fr (fun _ _ _ => SA.rf) (fun a j p => sa_I rfl (by omega))
  obtain ⟨z1, w1, a1, a2, a3, a4, a5, a6⟩ := p_adv hT hw (Or.inl hk1)
  have hS1 : TSd (sI z1 17 13 1) w1 T n (nx T n s) := Or.inr ⟨_, Nat.le_refl _, a3.fr (fun a j p => sa_Ia rfl (by omega)) (fun _ _ _ => SA.rf)⟩
  obtain ⟨z2, w2, r, r', b1, b2, b3, b4, b5, b6⟩ := p_num hT hS1 (lo := 0) (hi := 60) (by omega)
  have hS2 : TSd (sI z2 17 12 r) (sI w2 172 41 r') T n (nx T n s) := TSd.fr (b5.elim Or.inl fun ⟨v, s', q⟩ => Or.inr ⟨s', q.2.2.2.2⟩) (fun a j p => sa_Ia rfl (by omega)) (fun a j p => sa_I rfl (by omega))
  obtain ⟨z3, w3, c1, c2, c3, c4, c5, c6⟩ := p_end hT hS2
  refine ⟨z3, w3, ?_, ?_, ?_⟩
  · unfold fn_X6_paceLine
    rw [hX.2.2.2.1, h0, if_pos (show iI 0 = 0 from q_0.symm), bv_o a1, nm_o, bd_o (show fn_X6_numberWithin 0 60 (sI z1 17 13 1) = some (r, z2) from b1), nm_o, bv_o c1]
  · unfold fn_X12_told fn_X12_want
    have e9 : fn_X12_isWord 1885430629 (sI w 172 46 1) = some (iI (tr (kw T n s = 9)), sI w 172 46 1) := m_isWd hT hw.2.2.2.1 9 (by omega)
    rw [nm_o, hw.2.2.2.2.2.1, if_pos (show (0 : Int32) ≤ 0 from by decide), bd_o e9, tr_1 hk, if_neg (show ¬ iI 1 = 0 from by decide), bv_o a2, bv_e, bd_o (show fn_X12_toldNumber 0 60 w1 = some (r', w2) from b2), bd_e, nm_o]
    exact c2
  · rcases c5 with q | ⟨s', hs', q⟩
    · exact Or.inl q
    · have nf := q.nf
      obtain ⟨v, s2, l1, l2, rfl, rfl, -, q2⟩ := b5.resolve_left fun a => nf (c6 (a.fr (fun a j p => sa_Ia rfl (by omega)) (fun a j p => sa_I rfl (by omega))))
      have fx : ∀ a j, xT a j → ¬ (a = 17 ∧ (j = 12 ∨ j = 13)) → SA z z3 a j := fun a j p1 p2 => ((((a5 a j p1).tr (sa_I rfl (by omega))).tr (b3 a j p1)).tr (sa_I rfl (by omega))).tr (c3 a j p1)
      have fm : ∀ a j, mT a j → ¬ (a = 172 ∧ (j = 41 ∨ j = 46)) → SA w w3 a j := fun a j p1 p2 => (((((sa_I rfl (by omega)).tr (a6 a j p1)).tr (b4 a j p1)).tr (sa_I rfl (by omega)))).tr (c4 a j p1)
      have x12 : z3.1 17 12 = iI v := by rw [(c3 17 12 (by unfold xT; omega)).1, sI_at, if_pos rfl]
      have x13 : z3.1 17 13 = iI 1 := by rw [(c3 17 13 (by unfold xT; omega)).1, sI_at, if_neg (by omega), (b3 17 13 (by unfold xT; omega)).1, sI_at, if_pos rfl, q_1]
      have m41 : w3.1 172 41 = iI v := by rw [(c4 172 41 (by unfold mT; omega)).1, sI_at, if_pos rfl]
      have m46 : w3.1 172 46 = iI 1 := by rw [(c4 172 46 (by unfold mT; omega)).1, sI_at, if_neg (by omega), (b4 172 46 (by unfold mT; omega)).1, (a6 172 46 (by unfold mT; omega)).1, sI_at, if_pos rfl, q_1]
      obtain ⟨y1, y2, y3, y4, y5, y6, y7, y8⟩ := hX
      obtain ⟨o1, o2, o3, o4, o5, o6, o7, o8⟩ := hM
      have nx5 : ∀ a j, 17 ≤ a ∧ a ≤ 30 → xT a j := fun a j p => by unfold xT; omega
      have hC' : VC (setP c v) := ⟨hC.1, hC.2.1, ⟨l1, l2⟩, hC.2.2.2.1, hC.2.2.2.2⟩
      have DX8 : DXr z3 (setP c v) dr 1 hd := ⟨(fx 17 0 (nx5 _ _ (by omega)) (by omega)).1.trans y1, (fx 17 5 (nx5 _ _ (by omega)) (by omega)).1.trans y2, x12, x13, (fx 17 14 (nx5 _ _ (by omega)) (by omega)).1.trans y5, (fx 17 15 (nx5 _ _ (by omega)) (by omega)).1.trans y6, fun i hi => ⟨(fx 19 i (nx5 _ _ (by omega)) (by omega)).1.trans (y7 i hi).1, (fx 20 i (nx5 _ _ (by omega)) (by omega)).1.trans (y7 i hi).2.1, (fx 21 i (nx5 _ _ (by omega)) (by omega)).1.trans (y7 i hi).2.2⟩, fun i hi => ⟨(fx 23 i (nx5 _ _ (by omega)) (by omega)).1.trans (y8 i hi).1, (fx 24 i (nx5 _ _ (by omega)) (by omega)).1.trans (y8 i hi).2.1, (fx 25 i (nx5 _ _ (by omega)) (by omega)).1.trans (y8 i hi).2.2⟩⟩
      have DM8 : DMr w3 (setP c v) dr 1 hd := ⟨(fm 172 39 (by unfold mT; omega) (by omega)).1.trans o1, (fm 172 40 (by unfold mT; omega) (by omega)).1.trans o2, m41, m46, (fm 172 42 (by unfold mT; omega) (by omega)).1.trans o5, (fm 172 47 (by unfold mT; omega) (by omega)).1.trans o6, fun i hi => ⟨(fm 185 i (by unfold mT; omega) (by omega)).1.trans (o7 i hi).1, (fm 186 i (by unfold mT; omega) (by omega)).1.trans (o7 i hi).2.1, (fm 187 i (by unfold mT; omega) (by omega)).1.trans (o7 i hi).2.2⟩, fun i hi => ⟨(fm 191 i (by unfold mT; omega) (by omega)).1.trans (o8 i hi).1, (fm 192 i (by unfold mT; omega) (by omega)).1.trans (o8 i hi).2.1, (fm 193 i (by unfold mT; omega) (by omega)).1.trans (o8 i hi).2.2⟩⟩
      have DN8 : DNm z3 w3 (setP c v) := DNm.fr (c := setP c v) hN (fun a j p => fx a j (nx5 _ _ (by omega)) (by omega)) (fun j => fm 174 j (by unfold mT; omega) (by omega))
      exact Or.inr ⟨s', setP c v, dr, 1, hd, F0, F1, t0, t1, u0, u1, by omega, q, DX8, DM8, DN8, hF0.fr fun a j p => fx a j (nx5 _ _ (by omega)) (by omega), hF1.fr fun a j p => fx a j (nx5 _ _ (by omega)) (by omega), hG0.fr hF0.2.2.2.2.1 fun a j p => fm a j (by unfold mT; omega) (by omega), hG1.fr hF1.2.2.2.2.1 fun a j p => fm a j (by unfold mT; omega) (by omega), (fm 172 22 (by unfold mT; omega) (by omega)).1.trans hU, hC', hdr, Or.inr rfl, hhd⟩
theorem l_draw (hT : VT T n) (h : TRd z w T n s) (hP : PDr z w c dr hp hd F0 F1 t0 t1 u0 u1) (h0 : hd = 0) (hk : kw T n s = 10) : ∃ z' w', fn_X6_drawLine z = some z' ∧ nm (sI w 172 47 1) (fun z6 => bd (fn_X12_told 1685217655 0 999 z6) (fun r8 z9 => nm (sI z9 172 42 r8) (fun z10 => fn_X12_readLine_189 z10))) = some w' ∧ LRr z' w' T n s := by
  obtain ⟨hX, hM, hN, hF0, hF1, hG0, hG1, hU, hC, hdr, hhp, hhd⟩ := hP
  have hk1 := kw_1 (k := 10) hk
  have hw : TRd z (sI w 172 47 1) T n s := h.fr (fun _ _ _ => SA.rf) (fun a j p => sa_I rfl (by omega))
  obtain ⟨z1, w1, a1, a2, a3, a4, a5, a6⟩ := p_adv hT hw (Or.inl hk1)
  have hS1 : TSd (sI z1 17 15 1) w1 T n (nx T n s) := Or.inr ⟨_, Nat.le_refl _, a3.fr (fun a j p => sa_Ia rfl (by omega)) (fun _ _ _ => SA.rf)⟩
  obtain ⟨z2, w2, r, r', b1, b2, b3, b4, b5, b6⟩ := p_num hT hS1 (lo := 0) (hi := 999) (by omega)
  have hS2 : TSd (sI z2 17 14 r) (sI w2 172 42 r') T n (nx T n s) := TSd.fr (b5.elim Or.inl fun ⟨v, s', q⟩ => Or.inr ⟨s', q.2.2.2.2⟩) (fun a j p => sa_Ia rfl (by omega)) (fun a j p => sa_I rfl (by omega))
  obtain ⟨z3, w3, c1, c2, c3, c4, c5, c6⟩ := p_end hT hS2
  refine ⟨z3, w3, ?_, ?_, ?_⟩
  · unfold fn_X6_drawLine
    rw [hX.2.2.2.2.2.1, h0, if_pos (show iI 0 = 0 from q_0.symm), bv_o a1, nm_o, bd_o (show fn_X6_numberWithin 0 999 (sI z1 17 15 1) = some (r, z2) from b1), nm_o, bv_o c1]
  · unfold fn_X12_told fn_X12_want
    have e9 : fn_X12_isWord 1685217655 (sI w 172 47 1) = some (iI (tr (kw T n s = 10)), sI w 172 47 1) := m_isWd hT hw.2.2.2.1 10 (by omega)
    rw [nm_o, hw.2.2.2.2.2.1, if_pos (show (0 : Int32) ≤ 0 from by decide), bd_o e9, tr_1 hk, if_neg (show ¬ iI 1 = 0 from by decide), bv_o a2, bv_e, bd_o (show fn_X12_toldNumber 0 999 w1 = some (r', w2) from b2), bd_e, nm_o]
    exact c2
  · rcases c5 with q | ⟨s', hs', q⟩
    · exact Or.inl q
    · have nf := q.nf
      obtain ⟨v, s2, l1, l2, rfl, rfl, -, q2⟩ := b5.resolve_left fun a => nf (c6 (a.fr (fun a j p => sa_Ia rfl (by omega)) (fun a j p => sa_I rfl (by omega))))
      have fx : ∀ a j, xT a j → ¬ (a = 17 ∧ (j = 14 ∨ j = 15)) → SA z z3 a j := fun a j p1 p2 => ((((a5 a j p1).tr (sa_I rfl (by omega))).tr (b3 a j p1)).tr (sa_I rfl (by omega))).tr (c3 a j p1)
      have fm : ∀ a j, mT a j → ¬ (a = 172 ∧ (j = 42 ∨ j = 47)) → SA w w3 a j := fun a j p1 p2 => (((((sa_I rfl (by omega)).tr (a6 a j p1)).tr (b4 a j p1)).tr (sa_I rfl (by omega)))).tr (c4 a j p1)
      have x12 : z3.1 17 14 = iI v := by rw [(c3 17 14 (by unfold xT; omega)).1, sI_at, if_pos rfl]
      have x13 : z3.1 17 15 = iI 1 := by rw [(c3 17 15 (by unfold xT; omega)).1, sI_at, if_neg (by omega), (b3 17 15 (by unfold xT; omega)).1, sI_at, if_pos rfl, q_1]
      have m41 : w3.1 172 42 = iI v := by rw [(c4 172 42 (by unfold mT; omega)).1, sI_at, if_pos rfl]
      have m46 : w3.1 172 47 = iI 1 := by rw [(c4 172 47 (by unfold mT; omega)).1, sI_at, if_neg (by omega), (b4 172 47 (by unfold mT; omega)).1, (a6 172 47 (by unfold mT; omega)).1, sI_at, if_pos rfl, q_1]
      obtain ⟨y1, y2, y3, y4, y5, y6, y7, y8⟩ := hX
      obtain ⟨o1, o2, o3, o4, o5, o6, o7, o8⟩ := hM
      have nx5 : ∀ a j, 17 ≤ a ∧ a ≤ 30 → xT a j := fun a j p => by unfold xT; omega
      have DX8 : DXr z3 c v hp 1 := ⟨(fx 17 0 (nx5 _ _ (by omega)) (by omega)).1.trans y1, (fx 17 5 (nx5 _ _ (by omega)) (by omega)).1.trans y2, (fx 17 12 (nx5 _ _ (by omega)) (by omega)).1.trans y3, (fx 17 13 (nx5 _ _ (by omega)) (by omega)).1.trans y4, x12, x13, fun i hi => ⟨(fx 19 i (nx5 _ _ (by omega)) (by omega)).1.trans (y7 i hi).1, (fx 20 i (nx5 _ _ (by omega)) (by omega)).1.trans (y7 i hi).2.1, (fx 21 i (nx5 _ _ (by omega)) (by omega)).1.trans (y7 i hi).2.2⟩, fun i hi => ⟨(fx 23 i (nx5 _ _ (by omega)) (by omega)).1.trans (y8 i hi).1, (fx 24 i (nx5 _ _ (by omega)) (by omega)).1.trans (y8 i hi).2.1, (fx 25 i (nx5 _ _ (by omega)) (by omega)).1.trans (y8 i hi).2.2⟩⟩
      have DM8 : DMr w3 c v hp 1 := ⟨(fm 172 39 (by unfold mT; omega) (by omega)).1.trans o1, (fm 172 40 (by unfold mT; omega) (by omega)).1.trans o2, (fm 172 41 (by unfold mT; omega) (by omega)).1.trans o3, (fm 172 46 (by unfold mT; omega) (by omega)).1.trans o4, m41, m46, fun i hi => ⟨(fm 185 i (by unfold mT; omega) (by omega)).1.trans (o7 i hi).1, (fm 186 i (by unfold mT; omega) (by omega)).1.trans (o7 i hi).2.1, (fm 187 i (by unfold mT; omega) (by omega)).1.trans (o7 i hi).2.2⟩, fun i hi => ⟨(fm 191 i (by unfold mT; omega) (by omega)).1.trans (o8 i hi).1, (fm 192 i (by unfold mT; omega) (by omega)).1.trans (o8 i hi).2.1, (fm 193 i (by unfold mT; omega) (by omega)).1.trans (o8 i hi).2.2⟩⟩
      have DN8 : DNm z3 w3 c := hN.fr (fun a j p => fx a j (nx5 _ _ (by omega)) (by omega)) (fun j => fm 174 j (by unfold mT; omega) (by omega))
      exact Or.inr ⟨s', c, v, hp, 1, F0, F1, t0, t1, u0, u1, by omega, q, DX8, DM8, DN8, hF0.fr fun a j p => fx a j (nx5 _ _ (by omega)) (by omega), hF1.fr fun a j p => fx a j (nx5 _ _ (by omega)) (by omega), hG0.fr hF0.2.2.2.2.1 fun a j p => fm a j (by unfold mT; omega) (by omega), hG1.fr hF1.2.2.2.2.1 fun a j p => fm a j (by unfold mT; omega) (by omega), (fm 172 22 (by unfold mT; omega) (by omega)).1.trans hU, hC, ⟨l1, l2⟩, hhp, Or.inr rfl⟩
end
