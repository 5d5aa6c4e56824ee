section
variable {z w : St} {T : Nat → Int} {n s : Nat} {c : RC} {dr hp hd : Int} {F0 F1 : FO} {t0 t1 u0 u1 q f v : Nat}
/-! a formula is told -/
theorem Vo_len {o : SL} {d : Nat} (h : Vo o d) (hd : 1 ≤ d) : o.length ≠ 0 := fun e => by
  have := h.1
  rw [e, dp] at this
  omega
theorem l_form (hT : VT T n) (h : TRd z w T n s) (hq : q = 26 ∨ q = 29) (hf : f < 2) (hv : v ≤ 30) (x4 : z.1 q 4 = 0) (x3 : z.1 q 3 = iI ((0 : Nat) : Int)) (mU : w.1 172 22 = iI (v : Int)) (hk : kx T n s = 1) : ∃ z' w', fn_X6_formulaLine q z = some z' ∧ bv (fn_X12_formula (iI (f : Int)) w) (fun z7 => fn_X12_readLine_189 z7) = some w' ∧ (∀ a j, xT a j → ¬ (a = q ∧ 2 ≤ j ∧ j ≤ 4) → ¬ a = q + 1 → SA z z' a j) ∧ (∀ a j, mT a j → ¬ a = 181 → ¬ (a = 172 ∧ 20 ≤ j ∧ j ≤ 25) → aFr f a j → ¬ (a = 183 ∧ j = f) → SA w w' a j) ∧ (TFt z' w' ∨ ∃ (s' : Nat) (o : SL) (u : Nat), s < s' ∧ TRd z' w' T n s' ∧ XOt q z' o ∧ z'.1 q 4 = iI ((1 : Nat) : Int) ∧ z'.1 q 3 = iI (u : Int) ∧ Vo o 1 ∧ u ≤ 30 ∧ o.length ≤ 272 ∧ MOt f w' o ∧ w'.1 183 f = iI ((1 : Nat) : Int) ∧ w'.1 172 22 = iI ((u + v : Nat) : Int)) := by
  have hn16 := hT.1
  obtain ⟨z1, w1, a1, a2, a3, a4, a5, a6⟩ := p_adv hT h (Or.inl hk)
  obtain ⟨h1, h2, h3, h4, h5, h6, h7⟩ := id a3
  -- x begins
  generalize hz2 : sI (sI z1 q 2 0) q 4 1 = z2
  have kz : ∀ a j, ¬ (a = q ∧ (j = 2 ∨ j = 4)) → SA z1 z2 a j := fun a j p => (sa_I rfl (by omega)).tr (sa_I hz2.symm (by omega))
  have X2 : XSt z2 T n (nx T n s) q [] 0 := by
    refine ⟨h1.fr fun a j p => kz a j (by omega), h3.fr fun j _ _ => kz 32 j (by omega), (kz 32 11 (by omega)).1.trans h5, ⟨?_, fun k hk => absurd hk (Nat.not_lt_zero k)⟩, ?_⟩
    · rw [← hz2, sI_at, if_neg (by omega), sI_at, if_pos rfl]; exact z0.symm
    · rw [(kz q 3 (by omega)).1, (a5 q 3 (by unfold xT; omega)).1]; exact x3
  have x24 : z2.1 q 4 = iI ((1 : Nat) : Int) := by rw [← hz2, sI_at, if_pos rfl]; exact q_1
  -- the reference begins
  have ef : (sI w1 172 20 (iI (f : Int))).1 172 20 = iI (f : Int) := by rw [sI_at, if_pos rfl]
  have ef2 : (sI (sI w1 172 20 (iI (f : Int))) 183 f 1).1 172 20 = iI (f : Int) := ef
  generalize hw2 : sI (sI (sI (sI (sI (sI w1 172 20 (iI (f : Int))) 183 f 1) 177 f 0) 172 21 0) 172 25 0) 172 24 0 = w2
  have km : ∀ a j, ¬ (a = 172 ∧ (j = 20 ∨ j = 21 ∨ j = 24 ∨ j = 25)) → ¬ (a = 183 ∧ j = f) → ¬ (a = 177 ∧ j = f) → SA w1 w2 a j := fun a j p1 p2 p3 => (((((sa_I rfl (by omega)).tr (sa_I rfl p2)).tr (sa_I rfl p3)).tr (sa_I rfl (by omega))).tr (sa_I rfl (by omega))).tr (sa_I hw2.symm (by omega))
  have m183 : w2.1 183 f = iI ((1 : Nat) : Int) := by rw [← hw2]; simp [sI]; exact q_1
  have M2 : MSt w2 T n (nx T n s) f [] [] 0 v := by
    refine ⟨h2.fr fun a j p => km a j (by omega) (by omega) (by omega), h4.fr fun j p => km 172 j (by omega) (by omega) (by omega), (km 172 2 (by omega) (by omega) (by omega)).1.trans h6, ?_, ⟨?_, fun k hk => absurd hk (Nat.not_lt_zero k)⟩, ?_, trivial, ?_, ?_, ?_⟩
    · rw [← hw2]; simp [sI]
    · rw [← hw2]; simp [sI]; exact q_0
    · rw [← hw2]; simp [sI]; exact q_0
    · rw [← hw2]; simp [sI]; exact q_0
    · rw [← hw2]; simp [sI]; exact q_0
    · rw [(km 172 22 (by omega) (by omega) (by omega)).1, (a6 172 22 (by unfold mT; omega)).1, mU, Nat.zero_add]
  have eform : fn_X12_formula (iI (f : Int)) w = mUf fu fu w2 := by
    unfold fn_X12_formula mUf fn_X12_unit
    rw [bv_o a2, nm_o, ef, gd_t (iI_ix (by omega)), nm_o, iI_clampN (by omega), ef2, gd_t (iI_ix (by omega)), nm_o, iI_clampN (by omega), nm_o, nm_o, nm_o, hw2]
  have hrec := (CL_rec (T := T) (n := n) (q := q) (f := f) (v := v) hT hq hf hv 12 0 (by omega) (by omega)).1
  obtain ⟨z3, b1, b2, b3⟩ := hrec z2 (nx T n s) [] [] 0 0 h7 X2 ⟨fun x hx => absurd hx (by simp), rfl, by omega, trivial, by show 0 + 1 ≤ _; omega, by show 0 + 0 ≤ _; omega, by omega⟩ (fun e => by omega) Vo_0 (by omega)
  rw [z0] at b1
  have hfu : n - nx T n s + 1 < fu := by unfold fu; omega
  have exq : fn_X6_formulaLine q z = bv (fn_X6_expectSign 59 z3) (fun z9 => some z9) := by
    unfold fn_X6_formulaLine fn_X2_begin
    rw [x4, if_pos rfl, bv_o a1, nm_o, nm_o, bv_e, hz2, bv_o b1]
  have fx3 : ∀ a j, xT a j → ¬ (a = q ∧ 2 ≤ j ∧ j ≤ 4) → ¬ a = q + 1 → SA z z3 a j := fun a j p1 p2 p3 => ((a5 a j p1).tr (kz a j (by omega))).tr (b2 a j (by unfold xT at p1; unfold xFr; omega))
  have fm2 : ∀ a j, mT a j → ¬ (a = 172 ∧ 20 ≤ j ∧ j ≤ 25) → aFr f a j → ¬ (a = 183 ∧ j = f) → SA w w2 a j := fun a j p1 p2 p3 p4 => (a6 a j p1).tr (km a j (by omega) p4 p3.2)
  rcases b3 with ⟨e, p, c1, c2⟩ | ⟨s', π, om, u', c1, c2, c3, c4, c5, c6, c7⟩
  · obtain ⟨w3, d1, d2, d3, d4⟩ := c2 w2 fu fu M2 hfu hfu
    have hTF : TFt z3 w3 := ⟨e, p, c1.1, c1.2.1, c1.2.2.1, c1.2.2.2.1, d2, d3⟩
    refine ⟨z3, w3, by rw [exq, bv_o (ef_exs c1.ne 59)], ?_, fx3, fun a j p1 p2 p3 p4 p5 => (fm2 a j p1 p3 p4 p5).tr (d4 a j (by unfold mT at p1; unfold mFr; omega)), Or.inl hTF⟩
    rw [eform, bv_o d1]
    unfold fn_X12_readLine_189 fn_X12_readLine_210
    rw [if_neg hTF.m.1, if_neg hTF.m.1]
  · obtain ⟨m', w3, d1, d2, d3, d4⟩ := c7 w2 fu fu M2 hfu hfu
    obtain ⟨p1, p2, p3, p4, p5⟩ := c6
    obtain ⟨m', rfl⟩ : ∃ m'', m' = m'' + 2 := ⟨m' - 2, by omega⟩
    have hall : ∀ x ∈ π ++ [], vsE x := fun x hx => by rw [List.append_nil] at hx; exact (p1 x hx).1
    have hnb : 20 ∉ π ++ [] := fun hx => by rw [List.append_nil] at hx; exact (p1 20 hx).2.1 rfl
    have hπl : π.length ≤ 13 := by unfold plL at p2; split at p2 <;> omega
    have hlen : (π ++ []).length ≤ 160 := by rw [List.append_nil]; omega
    have hbk0 : hbk (π ++ []) (π ++ []).length = false := hbk_n hnb _ (Nat.le_refl _)
    have hst : sg T n s' = 0 ∨ (tg (sg T n s') = 4 ∧ hrl (π ++ []) = true) := by
      rcases p5 with e | e | e
      · exact Or.inl e
      · have := tg_b (sg T n s'); omega
      · exact Or.inr e
    have hnp : np (π ++ []) = π.length := by rw [List.append_nil, np_l fun x hx => (p1 x hx).2.1]
    have hol : (om ++ fl π).length ≤ 272 := by rw [List.length_append, fl_len]; omega
    have e177 := m_stop hT hall hlen d3 hst (Or.inr hbk0) m'
    obtain ⟨g1, g2, g3, g4⟩ := id d3
    obtain ⟨w4, i1, i2, i3⟩ := m_close (l := 0) (σ := []) (π := π) hf (by omega) trivial (fun x hx => absurd hx (by simp)) g4 (fun x hx => ⟨(p1 x hx).1, (p1 x hx).2.1, by omega⟩) (by omega) hlen
    have ew4 : fn_X12_formula (iI (f : Int)) w = some w4 := by
      rw [eform, d1, e177]
      unfold fn_X12_formula_177 fn_X12_formula_196
      rw [g3, if_pos rfl, bd_o (m_hasBr g4 hall hlen), hbk0, tr_n (by decide), if_pos (show iI 0 = 0 from q_0.symm), g3, if_pos rfl, bv_o (show fn_X12_close 0 w3 = some w4 from by rw [← z0]; exact i1)]
    obtain ⟨x1, x2, x3', x4', x5⟩ := c3
    have hTR : TRd z3 w4 T n s' := ⟨x1, g1.fr fun a j p => i3 a j (by unfold cFr aFr; omega), x2, g2.fr fun j p => i3 172 j (by unfold cFr aFr; omega), x3', (i3 172 2 (by unfold cFr aFr; omega)).1.trans g3, c2⟩
    obtain ⟨z5, w5, j1, j2, j3, j4, j5, j6⟩ := p_end hT (s := s') (Or.inr ⟨s', Nat.le_refl _, hTR⟩)
    refine ⟨z5, w5, by rw [exq, bv_o j1], by rw [bv_o ew4]; exact j2, fun a j q1 q2 q3 => (fx3 a j q1 q2 q3).tr (j3 a j q1), fun a j q1 q2 q3 q4 q5 => (((fm2 a j q1 q3 q4 q5).tr (d4 a j (by unfold mT at q1; unfold mFr; omega))).tr (i3 a j (by unfold cFr; omega))).tr (j4 a j q1), ?_⟩
    rcases j5 with e | ⟨s5, hs5, e⟩
    · exact Or.inl e
    · refine Or.inr ⟨s5, om ++ fl π, u', by omega, e, x4'.fr fun a j p => j3 a j (by unfold xT; omega), ?_, (j3 q 3 (by unfold xT; omega)).1.trans x5, c4, p4, hol, i2.2.1.fr fun a j p => j4 a j (by unfold mT; omega), ?_, ?_⟩
      · rw [(j3 q 4 (by unfold xT; omega)).1, (b2 q 4 (by unfold xFr; omega)).1, x24]
      · rw [(j4 183 f (by unfold mT; omega)).1, (i3 183 f (by unfold cFr aFr; omega)).1, (d4 183 f (by unfold mFr aFr; omega)).1, m183]
      · rw [(j4 172 22 (by unfold mT; omega)).1]; exact i2.2.2.2.2.2.2
theorem FX_of {o : SL} {u : Nat} (hX : XOt q z o) (h4 : z.1 q 4 = iI ((1 : Nat) : Int)) (h3 : z.1 q 3 = iI (u : Int)) (hV : Vo o 1) (hu : u ≤ 30) (hl : o.length ≤ 272) : FXr q f z (o.length, fkO o, faO o) 1 u :=
  ⟨Or.inr ⟨Vo_len hV (by omega), hX⟩, h4, h3, hu, Or.inr ⟨hl, by rw [hV.1]; exact Nat.le_refl 1, hV.2⟩, Or.inr ⟨rfl, Vo_len hV (by omega)⟩⟩
theorem FM_of {o : SL} (hM : MOt f w o) (h : w.1 183 f = iI ((1 : Nat) : Int)) : FMr f w (o.length, fkO o, faO o) 1 := ⟨h, fun _ => hM⟩
theorem l_worth (hT : VT T n) (h : TRd z w T n s) (hP : PDr z w c dr hp hd F0 F1 t0 t1 u0 u1) (h0 : t0 = 0) (hk : kx T n s = 1) : ∃ z' w', fn_X6_formulaLine 26 z = some z' ∧ bv (fn_X12_formula 0 w) (fun z7 => fn_X12_readLine_189 z7) = some w' ∧ LRr z' w' T n s := by
  obtain ⟨hX, hM, hN, hF0, hF1, hG0, hG1, hU, hC, hdr, hhp, hhd⟩ := hP
  have hu0 : u0 = 0 := by have := hF0.2.2.2.2.2; omega
  obtain ⟨z', w', a1, a2, a3, a4, a5⟩ := l_form (q := 26) (f := 0) (v := u1) hT h (Or.inl rfl) (by omega) hF1.2.2.2.1 (by rw [hF0.2.1, h0]; exact z0) (by rw [hF0.2.2.1, hu0]) (by rw [hU, hu0, Nat.zero_add]) hk
  rw [z0] at a2
  refine ⟨z', w', a1, a2, ?_⟩
  rcases a5 with e | ⟨s', o, u, b1, b2, b3, b4, b5, b6, b7, b8, b9, b10, b11⟩
  · exact Or.inl e
  · have nx5 : ∀ a j, 17 ≤ a ∧ a ≤ 30 → xT a j := fun a j p => by unfold xT; omega
    exact Or.inr ⟨s', c, dr, hp, hd, (o.length, fkO o, faO o), F1, 1, t1, u, u1, b1, b2, hX.fr fun a j p => a3 a j (nx5 _ _ (by omega)) (by omega) (by omega), hM.fr fun a j p => a4 a j (by unfold mT; omega) (by omega) (by omega) (by unfold aFr; omega) (by omega), hN.fr (fun a j p => a3 a j (nx5 _ _ (by omega)) (by omega) (by omega)) (fun j => a4 174 j (by unfold mT; omega) (by omega) (by omega) (by unfold aFr; omega) (by omega)), FX_of b3 b4 b5 b6 b7 b8, hF1.fr fun a j p => a3 a j (nx5 _ _ (by omega)) (by omega) (by omega), FM_of b9 b10, hG1.fr hF1.2.2.2.2.1 fun a j p => a4 a j (by unfold mT; omega) (by omega) (by omega) (by unfold aFr; omega) (by omega), b11, hC, hdr, hhp, hhd⟩
theorem l_slip (hT : VT T n) (h : TRd z w T n s) (hP : PDr z w c dr hp hd F0 F1 t0 t1 u0 u1) (h0 : t1 = 0) (hk : kx T n s = 1) : ∃ z' w', fn_X6_formulaLine 29 z = some z' ∧ bv (fn_X12_formula 1 w) (fun z7 => fn_X12_readLine_189 z7) = some w' ∧ LRr z' w' T n s := by
  obtain ⟨hX, hM, hN, hF0, hF1, hG0, hG1, hU, hC, hdr, hhp, hhd⟩ := hP
  have hu0 : u1 = 0 := by have := hF1.2.2.2.2.2; omega
  obtain ⟨z', w', a1, a2, a3, a4, a5⟩ := l_form (q := 29) (f := 1) (v := u0) hT h (Or.inr rfl) (by omega) hF0.2.2.2.1 (by rw [hF1.2.1, h0]; exact z0) (by rw [hF1.2.2.1, hu0]) (by rw [hU, hu0, Nat.add_zero]) hk
  rw [show iI ((1 : Nat) : Int) = 1 from q_1.symm] at a2
  refine ⟨z', w', a1, a2, ?_⟩
  rcases a5 with e | ⟨s', o, u, b1, b2, b3, b4, b5, b6, b7, b8, b9, b10, b11⟩
  · exact Or.inl e
  · have nx5 : ∀ a j, 17 ≤ a ∧ a ≤ 30 → xT a j := fun a j p => by unfold xT; omega
    exact Or.inr ⟨s', c, dr, hp, hd, F0, (o.length, fkO o, faO o), t0, 1, u0, u, b1, b2, hX.fr fun a j p => a3 a j (nx5 _ _ (by omega)) (by omega) (by omega), hM.fr fun a j p => a4 a j (by unfold mT; omega) (by omega) (by omega) (by unfold aFr; omega) (by omega), hN.fr (fun a j p => a3 a j (nx5 _ _ (by omega)) (by omega) (by omega)) (fun j => a4 174 j (by unfold mT; omega) (by omega) (by omega) (by unfold aFr; omega) (by omega)), hF0.fr fun a j p => a3 a j (nx5 _ _ (by omega)) (by omega) (by omega), FX_of b3 b4 b5 b6 b7 b8, hG0.fr hF0.2.2.2.2.1 fun a j p => a4 a j (by unfold mT; omega) (by omega) (by omega) (by unfold aFr; omega) (by omega), FM_of b9 b10, by rw [b11]; congr 1; omega, hC, hdr, hhp, hhd⟩
/-! one line -/
theorem bv_id (x : Option St) : bv x (fun z => some z) = x := by cases x <;> rfl
theorem x_line (hK : XK z T n s) : fn_X6_line z = (if kw T n s = 0 then fn_X6_tierLine z else if kw T n s = 3 then fn_X6_guestLine z else if kw T n s = 7 then fn_X6_formulaLine 26 z else if kw T n s = 8 then fn_X6_formulaLine 29 z else if kw T n s = 9 then fn_X6_paceLine z else if kw T n s = 10 then fn_X6_drawLine z else fn_X6_refuse z) := by
  have hb := kw_b T n s
  have hk4 := kx_4 T n s
  have e16 : fn_X6_line z = fn_X6_line_16 (iI (kw T n s)) z := by
    unfold fn_X6_line
    rw [hK.2.1]
    by_cases e : kx T n s = 1
    · rw [if_pos (show iI (kx T n s : Int) = 1 from by rw [e]; exact q_1.symm), (hK.2.2.2.1 e).2]
      unfold kw
      rw [if_pos e]
    · rw [if_neg (show ¬ iI (kx T n s : Int) = 1 from by rw [q_1]; exact neq (by omega) (by omega) (by omega)), q_m1]
      unfold kw
      rw [if_neg e]
  rw [e16]
  unfold fn_X6_line_16
  simp only [bv_id]
  generalize kw T n s = v at hb
  have hc : v = -1 ∨ v = 0 ∨ v = 1 ∨ v = 2 ∨ v = 3 ∨ v = 4 ∨ v = 5 ∨ v = 6 ∨ v = 7 ∨ v = 8 ∨ v = 9 ∨ v = 10 ∨ v = 11 ∨ v = 12 ∨ v = 13 ∨ v = 14 ∨ v = 15 ∨ v = 16 ∨ v = 17 ∨ v = 18 := by omega
  rcases hc with rfl | rfl | rfl | rfl | rfl | rfl | rfl | rfl | rfl | rfl | rfl | rfl | rfl | rfl | rfl | rfl | rfl | rfl | rfl | rfl <;> rfl
theorem l_line (hT : VT T n) (h : TRd z w T n s) (hP : PDr z w c dr hp hd F0 F1 t0 t1 u0 u1) : ∃ z' w', fn_X6_line z = some z' ∧ fn_X12_readLine w = some w' ∧ LRr z' w' T n s := by
  obtain ⟨h1, h2, h3, h4, h5, h6, h7⟩ := id h
  obtain ⟨hX, hM, hN, hF0, hF1, hG0, hG1, hU, hC, hdr, hhp, hhd⟩ := id hP
  have hC0 := hC.1
  have hC1 := hC.2.1
  have ht0 : t0 = 0 ∨ t0 = 1 := by have := hF0.2.2.2.2.2; omega
  have ht1 : t1 = 0 ∨ t1 = 1 := by have := hF1.2.2.2.2.2; omega
  have i0 : fn_X12_isWord 1953064306 w = some (iI (tr (kw T n s = 0)), w) := m_isWd hT h4 0 (by omega)
  have i3 : fn_X12_isWord 444351214452 w = some (iI (tr (kw T n s = 3)), w) := m_isWd hT h4 3 (by omega)
  have i7 : fn_X12_isWord 512970880104 w = some (iI (tr (kw T n s = 7)), w) := m_isWd hT h4 7 (by omega)
  have i8 : fn_X12_isWord 1936484720 w = some (iI (tr (kw T n s = 8)), w) := m_isWd hT h4 8 (by omega)
  have i9 : fn_X12_isWord 1885430629 w = some (iI (tr (kw T n s = 9)), w) := m_isWd hT h4 9 (by omega)
  have i10 : fn_X12_isWord 1685217655 w = some (iI (tr (kw T n s = 10)), w) := m_isWd hT h4 10 (by omega)
  have n0 : (kw T n s ≠ 0 ∨ ¬ c 6 0 < 3) → fn_X12_readLine w = fn_X12_readLine_25 w := fun e => by
    unfold fn_X12_readLine
    rw [bd_o i0]
    by_cases k : kw T n s = 0
    · rw [tr_1 k, if_neg (show ¬ iI 1 = 0 from by decide), hM.1, if_pos (show (3 : Int32) ≤ iI (c 6 0) from by rw [q_3]; exact yle (by omega) (by omega) (by have := e.resolve_left (fun a => a k); omega))]
    · rw [tr_n k, if_pos (show iI 0 = 0 from q_0.symm)]
  have n25 : (kw T n s ≠ 3 ∨ ¬ c 6 1 < 6) → fn_X12_readLine_25 w = fn_X12_readLine_51 w := fun e => by
    unfold fn_X12_readLine_25
    rw [bd_o i3]
    by_cases k : kw T n s = 3
    · rw [tr_1 k, if_neg (show ¬ iI 1 = 0 from by decide), hM.2.1, if_pos (show (6 : Int32) ≤ iI (c 6 1) from by rw [q_6]; exact yle (by omega) (by omega) (by have := e.resolve_left (fun a => a k); omega))]
    · rw [tr_n k, if_pos (show iI 0 = 0 from q_0.symm)]
  have g0 : w.1 183 (Int32.toNatClampNeg 0) = iI (t0 : Int) := hG0.1
  have g1 : w.1 183 (Int32.toNatClampNeg 1) = iI (t1 : Int) := hG1.1
  have n51 : (kw T n s ≠ 7 ∨ t0 = 1) → fn_X12_readLine_51 w = fn_X12_readLine_78 w := fun e => by
    unfold fn_X12_readLine_51
    rw [bd_o i7]
    by_cases k : kw T n s = 7
    · rw [tr_1 k, if_neg (show ¬ iI 1 = 0 from by decide), g0, if_neg (show ¬ iI (t0 : Int) = 0 from by rw [e.resolve_left (fun a => a k)]; decide)]
    · rw [tr_n k, if_pos (show iI 0 = 0 from q_0.symm)]
  have n78 : (kw T n s ≠ 8 ∨ t1 = 1) → fn_X12_readLine_78 w = fn_X12_readLine_105 w := fun e => by
    unfold fn_X12_readLine_78
    rw [bd_o i8]
    by_cases k : kw T n s = 8
    · rw [tr_1 k, if_neg (show ¬ iI 1 = 0 from by decide), g1, if_neg (show ¬ iI (t1 : Int) = 0 from by rw [e.resolve_left (fun a => a k)]; decide)]
    · rw [tr_n k, if_pos (show iI 0 = 0 from q_0.symm)]
  have n105 : (kw T n s ≠ 9 ∨ hp = 1) → fn_X12_readLine_105 w = fn_X12_readLine_144 w := fun e => by
    unfold fn_X12_readLine_105
    rw [bd_o i9]
    by_cases k : kw T n s = 9
    · rw [tr_1 k, if_neg (show ¬ iI 1 = 0 from by decide), hM.2.2.2.1, if_neg (show ¬ iI hp = 0 from by rw [e.resolve_left (fun a => a k)]; decide)]
    · rw [tr_n k, if_pos (show iI 0 = 0 from q_0.symm)]
  have n144 : (kw T n s ≠ 10 ∨ hd = 1) → fn_X12_readLine_144 w = fn_X12_readLine_184 w := fun e => by
    unfold fn_X12_readLine_144
    rw [bd_o i10]
    by_cases k : kw T n s = 10
    · rw [tr_1 k, if_neg (show ¬ iI 1 = 0 from by decide), hM.2.2.2.2.2.1, if_neg (show ¬ iI hd = 0 from by rw [e.resolve_left (fun a => a k)]; decide)]
    · rw [tr_n k, if_pos (show iI 0 = 0 from q_0.symm)]
  have fail : ∃ z' w', fn_X6_refuse z = some z' ∧ fn_X12_readLine_184 w = some w' ∧ LRr z' w' T n s := by
    obtain ⟨z', w', a1, a2, a3, a4, a5⟩ := p_ref hT h
    refine ⟨z', w', a1, ?_, Or.inl a3⟩
    unfold fn_X12_readLine_184 fn_X12_readLine_189 fn_X12_readLine_210
    rw [bv_o a2, if_neg a3.m.1, if_neg a3.m.1]
  rw [x_line h3]
  by_cases k0 : kw T n s = 0
  · rw [if_pos k0]
    by_cases e : c 6 0 < 3
    · obtain ⟨z', w', a1, a2, a3⟩ := l_tier hT h hP e (kw_1 (k := 0) k0)
      refine ⟨z', w', a1, ?_, a3⟩
      unfold fn_X12_readLine
      rw [bd_o i0, tr_1 k0, if_neg (show ¬ iI 1 = 0 from by decide), hM.1, if_neg (show ¬ (3 : Int32) ≤ iI (c 6 0) from by rw [q_3]; exact nle (by omega) (by omega) (by omega))]
      exact a2
    · obtain ⟨z', w', a1, a2, a3⟩ := fail
      refine ⟨z', w', ?_, by rw [n0 (Or.inr e), n25 (by omega), n51 (by omega), n78 (by omega), n105 (by omega), n144 (by omega)]; exact a2, a3⟩
      unfold fn_X6_tierLine
      rw [hX.1, if_neg (show ¬ iI (c 6 0) < 3 from by rw [q_3]; exact nlt (by omega) (by omega) e), bv_o a1]
  rw [if_neg k0]
  by_cases k3 : kw T n s = 3
  · rw [if_pos k3]
    by_cases e : c 6 1 < 6
    · obtain ⟨z', w', a1, a2, a3⟩ := l_guest hT h hP e (kw_1 (k := 3) k3)
      refine ⟨z', w', a1, ?_, a3⟩
      rw [n0 (Or.inl k0)]
      unfold fn_X12_readLine_25
      rw [bd_o i3, tr_1 k3, if_neg (show ¬ iI 1 = 0 from by decide), hM.2.1, if_neg (show ¬ (6 : Int32) ≤ iI (c 6 1) from by rw [q_6]; exact nle (by omega) (by omega) (by omega))]
      exact a2
    · obtain ⟨z', w', a1, a2, a3⟩ := fail
      refine ⟨z', w', ?_, by rw [n0 (Or.inl k0), n25 (Or.inr e), n51 (by omega), n78 (by omega), n105 (by omega), n144 (by omega)]; exact a2, a3⟩
      unfold fn_X6_guestLine
      rw [hX.2.1, if_neg (show ¬ iI (c 6 1) < 6 from by rw [q_6]; exact nlt (by omega) (by omega) e), bv_o a1]
  rw [if_neg k3]
  by_cases k7 : kw T n s = 7
  · rw [if_pos k7]
    rcases ht0 with e | e
    · obtain ⟨z', w', a1, a2, a3⟩ := l_worth hT h hP e (kw_1 (k := 7) k7)
      refine ⟨z', w', a1, ?_, a3⟩
      rw [n0 (Or.inl k0), n25 (Or.inl k3)]
      unfold fn_X12_readLine_51
      rw [bd_o i7, tr_1 k7, if_neg (show ¬ iI 1 = 0 from by decide), g0, if_pos (show iI (t0 : Int) = 0 from by rw [e]; exact z0)]
      exact a2
    · obtain ⟨z', w', a1, a2, a3⟩ := fail
      refine ⟨z', w', ?_, by rw [n0 (Or.inl k0), n25 (Or.inl k3), n51 (Or.inr e), n78 (by omega), n105 (by omega), n144 (by omega)]; exact a2, a3⟩
      unfold fn_X6_formulaLine
      rw [hF0.2.1, if_neg (show ¬ iI (t0 : Int) = 0 from by rw [e]; decide), bv_o a1]
  rw [if_neg k7]
  by_cases k8 : kw T n s = 8
  · rw [if_pos k8]
    rcases ht1 with e | e
    · obtain ⟨z', w', a1, a2, a3⟩ := l_slip hT h hP e (kw_1 (k := 8) k8)
      refine ⟨z', w', a1, ?_, a3⟩
      rw [n0 (Or.inl k0), n25 (Or.inl k3), n51 (Or.inl k7)]
      unfold fn_X12_readLine_78
      rw [bd_o i8, tr_1 k8, if_neg (show ¬ iI 1 = 0 from by decide), g1, if_pos (show iI (t1 : Int) = 0 from by rw [e]; exact z0)]
      exact a2
    · obtain ⟨z', w', a1, a2, a3⟩ := fail
      refine ⟨z', w', ?_, by rw [n0 (Or.inl k0), n25 (Or.inl k3), n51 (Or.inl k7), n78 (Or.inr e), n105 (by omega), n144 (by omega)]; exact a2, a3⟩
      unfold fn_X6_formulaLine
      rw [hF1.2.1, if_neg (show ¬ iI (t1 : Int) = 0 from by rw [e]; decide), bv_o a1]
  rw [if_neg k8]
  by_cases k9 : kw T n s = 9
  · rw [if_pos k9]
    rcases hhp with e | e
    · obtain ⟨z', w', a1, a2, a3⟩ := l_pace hT h hP e k9
      refine ⟨z', w', a1, ?_, a3⟩
      rw [n0 (Or.inl k0), n25 (Or.inl k3), n51 (Or.inl k7), n78 (Or.inl k8)]
      unfold fn_X12_readLine_105
      rw [bd_o i9, tr_1 k9, if_neg (show ¬ iI 1 = 0 from by decide), hM.2.2.2.1, if_pos (show iI hp = 0 from by rw [e]; exact q_0.symm)]
      exact a2
    · obtain ⟨z', w', a1, a2, a3⟩ := fail
      refine ⟨z', w', ?_, by rw [n0 (Or.inl k0), n25 (Or.inl k3), n51 (Or.inl k7), n78 (Or.inl k8), n105 (Or.inr e), n144 (by omega)]; exact a2, a3⟩
      unfold fn_X6_paceLine
      rw [hX.2.2.2.1, if_neg (show ¬ iI hp = 0 from by rw [e]; decide), bv_o a1]
  rw [if_neg k9]
  by_cases k10 : kw T n s = 10
  · rw [if_pos k10]
    rcases hhd with e | e
    · obtain ⟨z', w', a1, a2, a3⟩ := l_draw hT h hP e k10
      refine ⟨z', w', a1, ?_, a3⟩
      rw [n0 (Or.inl k0), n25 (Or.inl k3), n51 (Or.inl k7), n78 (Or.inl k8), n105 (Or.inl k9)]
      unfold fn_X12_readLine_144
      rw [bd_o i10, tr_1 k10, if_neg (show ¬ iI 1 = 0 from by decide), hM.2.2.2.2.2.1, if_pos (show iI hd = 0 from by rw [e]; exact q_0.symm)]
      exact a2
    · obtain ⟨z', w', a1, a2, a3⟩ := fail
      refine ⟨z', w', ?_, by rw [n0 (Or.inl k0), n25 (Or.inl k3), n51 (Or.inl k7), n78 (Or.inl k8), n105 (Or.inl k9), n144 (Or.inr e)]; exact a2, a3⟩
      unfold fn_X6_drawLine
      rw [hX.2.2.2.2.2.1, if_neg (show ¬ iI hd = 0 from by rw [e]; decide), bv_o a1]
  rw [if_neg k10]
  obtain ⟨z', w', a1, a2, a3⟩ := fail
  exact ⟨z', w', a1, by rw [n0 (Or.inl k0), n25 (Or.inl k3), n51 (Or.inl k7), n78 (Or.inl k8), n105 (Or.inl k9), n144 (Or.inl k10)]; exact a2, a3⟩
/-! all lines -/
def ARr (z w : St) : Prop := ∃ (c : RC) (dr hp hd : Int) (F0 F1 : FO) (t0 t1 u0 u1 : Nat), PDr z w c dr hp hd F0 F1 t0 t1 u0 u1
theorem l_loop (hT : VT T n) : ∀ (N : Nat) (z w : St) (s i mx mm : Nat) (c : RC) (dr hp hd : Int) (F0 F1 : FO) (t0 t1 u0 u1 : Nat), n - s ≤ N → i ≤ s → n - s + 1 < mx → n - s + 1 < mm → TRd z w T n s → PDr z w c dr hp hd F0 F1 t0 t1 u0 u1 →
    ∃ z' w', (fn_X6_readAll_41 mx (iI (i : Int)) z = some (0, z') ∧ fn_X12_readAll_81 mm w = some w' ∧ TFt z' w') ∨ (fn_X6_readAll_41 mx (iI (i : Int)) z = some (1, z') ∧ fn_X12_readAll_81 mm w = some w' ∧ (∃ s', TRd z' w' T n s') ∧ ARr z' w') := by
  intro N
  induction N with
  | zero =>
    intro z w s i mx mm c dr hp hd F0 F1 t0 t1 u0 u1 hN hi hx hm h hP
    obtain ⟨mx, rfl⟩ : ∃ k, mx = k + 1 := ⟨mx - 1, by omega⟩
    obtain ⟨mm, rfl⟩ : ∃ k, mm = k + 1 := ⟨mm - 1, by omega⟩
    obtain ⟨h1, h2, h3, h4, h5, h6, h7⟩ := id h
    have hk0 : kx T n s = 0 := by unfold kx; rw [if_pos (by omega)]
    refine ⟨z, w, Or.inr ⟨?_, ?_, ⟨s, h⟩, ⟨c, dr, hp, hd, F0, F1, t0, t1, u0, u1, hP⟩⟩⟩
    · rw [fn_X6_readAll_41, h5, if_pos rfl, h3.2.1, hk0, if_pos (show iI ((0 : Nat) : Int) = 0 from z0)]
      unfold fn_X6_readAll_72
      rw [h5, if_pos rfl]
      split <;> rfl
    · rw [fn_X12_readAll_81, h6, if_pos rfl, h4.2.1, (ks_s hT (Or.inl rfl)).mpr (by omega), if_pos (show iI 0 = 0 from q_0.symm)]
  | succ N ih =>
    intro z w s i mx mm c dr hp hd F0 F1 t0 t1 u0 u1 hN hi hx hm h hP
    obtain ⟨mx, rfl⟩ : ∃ k, mx = k + 2 := ⟨mx - 2, by omega⟩
    obtain ⟨mm, rfl⟩ : ∃ k, mm = k + 2 := ⟨mm - 2, by omega⟩
    obtain ⟨h1, h2, h3, h4, h5, h6, h7⟩ := id h
    have hk4 := kx_4 T n s
    have hkb := ks_b (s := s) hT
    have hn16 := hT.1
    by_cases hk0 : kx T n s = 0
    · refine ⟨z, w, Or.inr ⟨?_, ?_, ⟨s, h⟩, ⟨c, dr, hp, hd, F0, F1, t0, t1, u0, u1, hP⟩⟩⟩
      · rw [fn_X6_readAll_41, h5, if_pos rfl, h3.2.1, hk0, if_pos (show iI ((0 : Nat) : Int) = 0 from z0)]
        unfold fn_X6_readAll_72
        rw [h5, if_pos rfl]
        split <;> rfl
      · rw [fn_X12_readAll_81, h6, if_pos rfl, h4.2.1, (ks_s hT (Or.inl rfl)).mpr (by omega), if_pos (show iI 0 = 0 from q_0.symm)]
    · have hsn : s < n := by
        rcases Nat.lt_or_ge s n with e | e
        · exact e
        · exact absurd (by unfold kx; rw [if_pos e]) hk0
      obtain ⟨z', w', a1, a2, a3⟩ := l_line hT h hP
      have ex : fn_X6_readAll_41 (mx + 2) (iI (i : Int)) z = fn_X6_readAll_41 (mx + 1) (iI ((i + 1 : Nat) : Int)) z' := by
        rw [fn_X6_readAll_41, if_neg (show ¬ (1600 : Int32) ≤ iI (i : Int) from by rw [q_1600]; exact nle (by omega) (by omega) (by omega)), h5, if_pos rfl, h3.2.1, if_neg (show ¬ iI (kx T n s : Int) = 0 from by rw [q_0]; exact neq (by omega) (by omega) (by omega)), bv_o a1, k1]
      have em : fn_X12_readAll_81 (mm + 2) w = fn_X12_readAll_81 (mm + 1) w' := by
        rw [fn_X12_readAll_81, h6, if_pos rfl, h4.2.1, if_neg (show ¬ iI (tKs T n s) = 0 from by rw [q_0]; exact neq (by omega) (by omega) (fun e => hk0 (by have := (ks_s hT (Or.inl rfl)).mp e; omega))), bv_o a2]
      rw [ex, em]
      rcases a3 with e | ⟨s', c', dr', hp', hd', F0', F1', t0', t1', u0', u1', b1, b2, b3⟩
      · refine ⟨z', w', Or.inl ⟨?_, ?_, e⟩⟩
        · rw [fn_X6_readAll_41, if_neg e.x]
          unfold fn_X6_readAll_72
          rw [if_neg e.x]
          split <;> rfl
        · rw [fn_X12_readAll_81, if_neg e.m.1]
      · exact ih z' w' s' (i + 1) (mx + 1) (mm + 1) c' dr' hp' hd' F0' F1' t0' t1' u0' u1' (by omega) (by omega) (by omega) (by omega) b2 b3
end
