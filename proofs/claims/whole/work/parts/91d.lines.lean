/-! lines: both sides step by step -/
def TRd (z w : St) (T : Nat → Int) (n s : Nat) : Prop := XTx z T n ∧ MTx w T n ∧ XK z T n s ∧ MK w T n s ∧ z.1 32 11 = 0 ∧ w.1 172 2 = 0 ∧ s ≤ n
def TFt (z w : St) : Prop := ∃ (e : Int) (p : Int32), 1 ≤ e ∧ e ≤ 4 ∧ z.1 32 11 = iI e ∧ z.1 32 12 = p ∧ w.1 172 2 = iI e ∧ w.1 172 3 = p
abbrev xT (a j : Nat) : Prop := ¬ (a = 32 ∧ 4 ≤ j ∧ j ≤ 12)
abbrev mT (a j : Nat) : Prop := ¬ (a = 172 ∧ (j = 2 ∨ j = 3 ∨ j = 4 ∨ j = 6 ∨ j = 7 ∨ j = 8 ∨ j = 9))
def TSd (z w : St) (T : Nat → Int) (n s : Nat) : Prop := TFt z w ∨ ∃ s', s ≤ s' ∧ TRd z w T n s'
section
variable {z w : St} {T : Nat → Int} {n s : Nat}
theorem TFt.x (h : TFt z w) : z.1 32 11 ≠ 0 := by
  obtain ⟨e, p, h1, h2, h3, -⟩ := h
  rw [h3, q_0]; exact neq (by omega) (by omega) (by omega)
theorem TFt.m (h : TFt z w) : w.1 172 2 ≠ 0 ∧ ¬ w.1 172 2 ≤ 0 := by
  obtain ⟨e, p, h1, h2, -, -, h3, -⟩ := h
  rw [h3, q_0]; exact ⟨neq (by omega) (by omega) (by omega), nle (by omega) (by omega) (by omega)⟩
theorem TRd.fr {z' w' : St} (h : TRd z w T n s) (hx : ∀ a j, (a = 32 ∧ j ≤ 12) ∨ a = 1 ∨ a = 33 → SA z z' a j) (hm : ∀ a j, (a = 172 ∧ j ≤ 9) ∨ a = 173 → SA w w' a j) : TRd z' w' T n s := by
  obtain ⟨h1, h2, h3, h4, h5, h6, h7⟩ := h
  exact ⟨h1.fr fun a j p => hx a j (by omega), h2.fr fun a j p => hm a j (by omega), h3.fr fun j p1 p2 => hx 32 j (by omega), h4.fr fun j p => hm 172 j (by omega), (hx 32 11 (by omega)).1.trans h5, (hm 172 2 (by omega)).1.trans h6, h7⟩
theorem TFt.fr {z' w' : St} (h : TFt z w) (hx : ∀ a j, (a = 32 ∧ j ≤ 12) ∨ a = 1 ∨ a = 33 → SA z z' a j) (hm : ∀ a j, (a = 172 ∧ j ≤ 9) ∨ a = 173 → SA w w' a j) : TFt z' w' := by
  obtain ⟨e, p, h1, h2, h3, h4, h5, h6⟩ := h
  exact ⟨e, p, h1, h2, (hx 32 11 (by omega)).1.trans h3, (hx 32 12 (by omega)).1.trans h4, (hm 172 2 (by omega)).1.trans h5, (hm 172 3 (by omega)).1.trans h6⟩
theorem TSd.fr {z' w' : St} (h : TSd z w T n s) (hx : ∀ a j, (a = 32 ∧ j ≤ 12) ∨ a = 1 ∨ a = 33 → SA z z' a j) (hm : ∀ a j, (a = 172 ∧ j ≤ 9) ∨ a = 173 → SA w w' a j) : TSd z' w' T n s := by
  rcases h with h | ⟨s', h1, h2⟩
  · exact Or.inl (h.fr hx hm)
  · exact Or.inr ⟨s', h1, h2.fr hx hm⟩
/-- both read on -/
theorem p_adv (hT : VT T n) (h : TRd z w T n s) (hk : kx T n s = 1 ∨ kx T n s = 2 ∨ kx T n s = 3) : ∃ z' w', fn_X6_advance z = some z' ∧ fn_X12_token w = some w' ∧ TRd z' w' T n (nx T n s) ∧ s < nx T n s ∧ (∀ a j, xT a j → SA z z' a j) ∧ ∀ a j, mT a j → SA w w' a j := by
  obtain ⟨h1, h2, h3, h4, h5, h6, h7⟩ := h
  obtain ⟨z', a1, a2⟩ := x_adv hT h1 h7 h3 (by omega)
  obtain ⟨w', b1, b2⟩ := m_tok hT h2 h7 h4 (by omega)
  have kx' : ∀ a j, ¬ (a = 32 ∧ j = 5) ∧ ¬ (a = 32 ∧ j = 4) ∧ ¬ (a = 32 ∧ j = 6) ∧ ¬ (a = 32 ∧ j = 10) ∧ ¬ (a = 32 ∧ j = 7) ∧ ¬ (a = 32 ∧ j = 9) ∧ ¬ (a = 32 ∧ j = 8) → SA z z' a j := fun a j q => ff_X6_advance q a1
  have km' : ∀ a j, ¬ (a = 172 ∧ j = 4) ∧ ¬ (a = 172 ∧ j = 6) ∧ ¬ (a = 172 ∧ j = 9) ∧ ¬ (a = 172 ∧ j = 8) ∧ ¬ (a = 172 ∧ j = 7) → SA w w' a j := fun a j q => ff_X12_token q b1
  obtain ⟨n1, n2⟩ := nx_b T (n := n) h7
  exact ⟨z', w', a1, b1, ⟨h1.fr fun a j p => kx' a j (by omega), h2.fr fun a j p => km' a j (by omega), a2, b2, (kx' 32 11 (by omega)).1.trans h5, (km' 172 2 (by omega)).1.trans h6, n1⟩, n2 (by omega), fun a j p => kx' a j (by unfold xT at p; omega), fun a j p => km' a j (by unfold mT at p; omega)⟩
/-- both refuse -/
theorem p_ref (hT : VT T n) (h : TRd z w T n s) : ∃ z' w', fn_X6_refuse z = some z' ∧ fn_X12_wrong 2 w = some w' ∧ TFt z' w' ∧ (∀ a j, xT a j → SA z z' a j) ∧ ∀ a j, mT a j → SA w w' a j := by
  obtain ⟨h1, h2, h3, h4, h5, h6, h7⟩ := h
  obtain ⟨z', a1, a2, a3, a4⟩ := x_ref h5 h3
  obtain ⟨w', b1, b2, b3, b4⟩ := m_wrong2 hT h6 h4
  have hf := ft_b T n s
  exact ⟨z', w', a1, b1, ⟨ft T n s, iI (s : Int), hf.1, by omega, a2, a3, b2, b3⟩, fun a j p => a4 a j (by unfold xT at p; omega), fun a j p => b4 a j (by unfold mT at p; omega)⟩
theorem p_keep (hT : VT T n) (h : TRd z w T n s) {c : Int} (hc : 1 ≤ c ∧ c ≤ 4) (hk : kx T n s ≠ 4) : ∃ z' w', fn_X6_keepFault (iI c) z = some z' ∧ fn_X12_wrong (iI c) w = some w' ∧ TFt z' w' ∧ (∀ a j, xT a j → SA z z' a j) ∧ ∀ a j, mT a j → SA w w' a j := by
  obtain ⟨h1, h2, h3, h4, h5, h6, h7⟩ := h
  obtain ⟨z', a1, a2, a3, a4⟩ := x_keep h5 h3 (iI c)
  obtain ⟨w', b1, b2, b3, b4⟩ := m_wrongC hT h6 h4 c
  rw [if_neg hk] at b2
  exact ⟨z', w', a1, b1, ⟨c, iI (s : Int), hc.1, hc.2, a2, a3, b2, b3⟩, fun a j p => a4 a j (by unfold xT at p; omega), fun a j p => b4 a j (by unfold mT at p; omega)⟩
theorem m_46 (h : w.1 172 2 ≠ 0) : ∃ r, fn_X12_toldNumber_46 w = some (r, w) := by
  unfold fn_X12_toldNumber_46
  rw [nm_o, if_neg h]
  exact ⟨_, rfl⟩
/-- a number is told -/
theorem p_num (hT : VT T n) (h : TSd z w T n s) {lo hi : Int} (hb : 0 ≤ lo ∧ lo ≤ hi ∧ hi ≤ 9999) : ∃ z' w' r r', fn_X6_numberWithin (iI lo) (iI hi) z = some (r, z') ∧ fn_X12_toldNumber (iI lo) (iI hi) w = some (r', w') ∧ (∀ a j, xT a j → SA z z' a j) ∧ (∀ a j, mT a j → SA w w' a j) ∧ (TFt z' w' ∨ ∃ (v : Int) (s' : Nat), lo ≤ v ∧ v ≤ hi ∧ r = iI v ∧ r' = iI v ∧ s ≤ s' ∧ TRd z' w' T n s') ∧ (TFt z w → TFt z' w') := by
  rcases h with h | ⟨s1, hs1, h⟩
  · refine ⟨z, w, iI lo, 0, ?_, ?_, fun _ _ _ => SA.rf, fun _ _ _ => SA.rf, Or.inl h, fun _ => h⟩
    · unfold fn_X6_numberWithin fn_X6_numberWithin_15
      rw [if_neg h.x, bv_o (ef_ref h.x)]
    · unfold fn_X12_toldNumber
      rw [if_neg h.m.2]
  · obtain ⟨h1, h2, h3, h4, h5, h6, h7⟩ := id h
    have hk4 := kx_4 T n s1
    have hkb := ks_b (s := s1) hT
    unfold fn_X6_numberWithin fn_X12_toldNumber
    rw [h5, if_pos rfl, h6, if_pos (show (0 : Int32) ≤ 0 from by decide), h3.2.1, h4.2.1]
    by_cases e2 : kx T n s1 = 2
    · obtain ⟨g1, -, g3, g4⟩ := kx_2 e2
      have hd := de_p T (n := n) (s := s1) h7
      have hnv := nv_b (T := T) (s := s1) (k := de T n s1 - s1) fun j hj => (pD_i (hd.2.2.2 (s1 + j) (by omega) (by omega))).2
      have p10 : 10 ^ (de T n s1 - s1) ≤ 10 ^ 4 := Nat.pow_le_pow_right (by omega) (by omega)
      have e10 : 10 ^ 4 = 10000 := by decide
      rw [if_pos (show iI (kx T n s1 : Int) = 2 from by rw [e2]; exact q_2.symm), if_pos (show iI (tKs T n s1) = 2 from by rw [(ks_s hT (Or.inr rfl)).mpr (by omega)]; exact q_2.symm), h3.2.2.2.2.1 e2, h4.2.2.2.2 e2]
      have h48 := h4.2.2.2.2 e2
      generalize nv T s1 (de T n s1 - s1) = N at *
      have bad : (N < lo ∨ hi < N) → ∃ z' w' r r', fn_X6_numberWithin_37 (iI lo) z = some (r, z') ∧ fn_X12_toldNumber_41 w = some (r', w') ∧ (∀ a j, xT a j → SA z z' a j) ∧ (∀ a j, mT a j → SA w w' a j) ∧ TFt z' w' := fun _ => by
        obtain ⟨z', w', a1, a2, a3, a4, a5⟩ := p_keep hT h (c := 4) (by omega) (by omega)
        rw [← q_4] at a1 a2
        obtain ⟨r, hr⟩ := m_46 (w := w') a3.m.1
        refine ⟨z', w', iI lo, r, ?_, ?_, a4, a5, a3⟩
        · unfold fn_X6_numberWithin_37; rw [bv_o a1]
        · unfold fn_X12_toldNumber_41; rw [bv_o a2, hr]
      by_cases elo : N < lo
      · obtain ⟨z', w', r, r', a1, a2, a3, a4, a5⟩ := bad (Or.inl elo)
        rw [if_pos (ylt (by omega) (by omega) elo), if_pos (ylt (by omega) (by omega) elo), a1, a2]
        exact ⟨z', w', r, r', rfl, rfl, a3, a4, Or.inl a5, fun a => absurd h5 a.x⟩
      · rw [if_neg (nlt (by omega) (by omega) elo), if_neg (nlt (by omega) (by omega) elo)]
        by_cases ehi : N ≤ hi
        · obtain ⟨z', w', a1, a2, a3, a4, a5, a6⟩ := p_adv hT h (by omega)
          rw [if_pos (yle (by omega) (by omega) ehi), if_pos (yle (by omega) (by omega) ehi), nm_o, bv_o a1]
          unfold fn_X12_toldNumber_46
          rw [nm_o, h6, if_pos rfl, bv_o a2, h48]
          refine ⟨z', w', iI N, _, rfl, rfl, a5, a6, Or.inr ⟨N, nx T n s1, by omega, ehi, rfl, ?_, by omega, a3⟩, fun a => absurd h5 a.x⟩
          rfl
        · obtain ⟨z', w', r, r', a1, a2, a3, a4, a5⟩ := bad (Or.inr (by omega))
          rw [if_neg (nle (by omega) (by omega) ehi), if_neg (nle (by omega) (by omega) ehi), a1, a2]
          exact ⟨z', w', r, r', rfl, rfl, a3, a4, Or.inl a5, fun a => absurd h5 a.x⟩
    · obtain ⟨z', w', a1, a2, a3, a4, a5⟩ := p_ref hT h
      obtain ⟨r, hr⟩ := m_46 (w := w') a3.m.1
      rw [if_neg (show ¬ iI (kx T n s1 : Int) = 2 from by rw [q_2]; exact neq (by omega) (by omega) (by omega)), if_neg (show ¬ iI (tKs T n s1) = 2 from by rw [q_2]; exact neq (by omega) (by omega) (fun e => e2 (by have := (ks_s hT (Or.inr rfl)).mp e; omega))), bv_o a2, hr]
      unfold fn_X6_numberWithin_15
      rw [bv_o a1]
      exact ⟨z', w', iI lo, r, rfl, rfl, a4, a5, Or.inl a3, fun a => absurd h5 a.x⟩
/-- a word is wanted -/
theorem p_kw (hT : VT T n) (h : TSd z w T n s) (k : Nat) (hk : k < 19) : ∃ z' w', fn_X6_expectKeyword (iI (k : Int)) z = some z' ∧ fn_X12_want (CO.getD k 0) w = some w' ∧ (∀ a j, xT a j → SA z z' a j) ∧ (∀ a j, mT a j → SA w w' a j) ∧ TSd z' w' T n s ∧ (TFt z w → TFt z' w') := by
  rcases h with h | ⟨s1, hs1, h⟩
  · refine ⟨z, w, ef_exk h.x _, ?_, fun _ _ _ => SA.rf, fun _ _ _ => SA.rf, Or.inl h, fun _ => h⟩
    unfold fn_X12_want
    rw [if_neg h.m.2]
  · obtain ⟨h1, h2, h3, h4, h5, h6, h7⟩ := id h
    unfold fn_X6_expectKeyword fn_X12_want
    rw [bd_o (x_isKw h3 h5 k hk), h6, if_pos (show (0 : Int32) ≤ 0 from by decide), bd_o (m_isWd hT h4 k hk)]
    by_cases e : kw T n s1 = (k : Int)
    · obtain ⟨z', w', a1, a2, a3, a4, a5, a6⟩ := p_adv hT h (Or.inl (kw_1 e))
      rw [tr_1 e, if_neg (show ¬ iI 1 = 0 from by decide), if_neg (show ¬ iI 1 = 0 from by decide), bv_o a1, bv_o a2]
      exact ⟨z', w', rfl, rfl, a5, a6, Or.inr ⟨_, by omega, a3⟩, fun a => absurd h5 a.x⟩
    · obtain ⟨z', w', a1, a2, a3, a4, a5⟩ := p_ref hT h
      rw [tr_n e, if_pos (show iI 0 = 0 from q_0.symm), if_pos (show iI 0 = 0 from q_0.symm), bv_o a1, bv_o a2]
      exact ⟨z', w', rfl, rfl, a4, a5, Or.inl a3, fun a => absurd h5 a.x⟩
/-- a word, then a number -/
theorem p_told (hT : VT T n) (h : TSd z w T n s) (k : Nat) (hk : k < 19) {lo hi : Int} (hb : 0 ≤ lo ∧ lo ≤ hi ∧ hi ≤ 9999) : ∃ z1 z' w' r r', fn_X6_expectKeyword (iI (k : Int)) z = some z1 ∧ fn_X6_numberWithin (iI lo) (iI hi) z1 = some (r, z') ∧ fn_X12_told (CO.getD k 0) (iI lo) (iI hi) w = some (r', w') ∧ (∀ a j, xT a j → SA z z' a j) ∧ (∀ a j, mT a j → SA w w' a j) ∧ (TFt z' w' ∨ ∃ (v : Int) (s' : Nat), lo ≤ v ∧ v ≤ hi ∧ r = iI v ∧ r' = iI v ∧ s ≤ s' ∧ TRd z' w' T n s') ∧ (TFt z w → TFt z' w') := by
  obtain ⟨z1, w1, a1, a2, a3, a4, a5, a6⟩ := p_kw hT h k hk
  obtain ⟨z2, w2, r, r', b1, b2, b3, b4, b5, b6⟩ := p_num hT a5 hb
  refine ⟨z1, z2, w2, r, r', a1, b1, ?_, fun a j p => (a3 a j p).tr (b3 a j p), fun a j p => (a4 a j p).tr (b4 a j p), b5, fun a => b6 (a6 a)⟩
  unfold fn_X12_told
  rw [bv_o a2, bd_o b2]
/-- a word and a number, if they are there -/
theorem p_opt (hT : VT T n) (h : TSd z w T n s) (k : Nat) (hk : k < 19) {hi d : Int} (hb : 0 ≤ hi ∧ hi ≤ 9999) (hd : 0 ≤ d ∧ d ≤ hi) (K : Int32 → St → Option St) : ∃ z' w' r r', bd (fn_X6_isKeyword (iI (k : Int)) z) (fun r12 z13 => (if r12 = 0 then K (iI d) z13 else bv (fn_X6_advance z13) (fun z16 => bd (fn_X6_numberWithin (iI 0) (iI hi) z16) (fun r18 z19 => K r18 z19)))) = K r z' ∧ fn_X12_option (CO.getD k 0) (iI hi) (iI d) w = some (r', w') ∧ (∀ a j, xT a j → SA z z' a j) ∧ (∀ a j, mT a j → SA w w' a j) ∧ (TFt z' w' ∨ ∃ (v : Int) (s' : Nat), 0 ≤ v ∧ v ≤ hi ∧ r = iI v ∧ r' = iI v ∧ s ≤ s' ∧ TRd z' w' T n s') ∧ (TFt z w → TFt z' w') := by
  rcases h with h | ⟨s1, hs1, h⟩
  · refine ⟨z, w, iI d, iI d, ?_, ?_, fun _ _ _ => SA.rf, fun _ _ _ => SA.rf, Or.inl h, fun _ => h⟩
    · rw [bd_o (ef_kw h.x _), if_pos rfl]
    · unfold fn_X12_option
      rw [if_neg h.m.1]
  · obtain ⟨h1, h2, h3, h4, h5, h6, h7⟩ := id h
    unfold fn_X12_option
    rw [bd_o (x_isKw h3 h5 k hk), h6, if_pos rfl, bd_o (m_isWd hT h4 k hk)]
    by_cases e : kw T n s1 = (k : Int)
    · obtain ⟨z1, w1, a1, a2, a3, a4, a5, a6⟩ := p_adv hT h (Or.inl (kw_1 e))
      obtain ⟨z2, w2, r, r', b1, b2, b3, b4, b5, -⟩ := p_num (lo := 0) (hi := hi) hT (s := s) (Or.inr ⟨_, by omega, a3⟩) (by omega)
      rw [tr_1 e, if_neg (show ¬ iI 1 = 0 from by decide), if_neg (show ¬ iI 1 = 0 from by decide), bv_o a1, bd_o b1]
      refine ⟨z2, w2, r, r', rfl, ?_, fun a j p => (a5 a j p).tr (b3 a j p), fun a j p => (a6 a j p).tr (b4 a j p), b5, fun a => absurd h5 a.x⟩
      unfold fn_X12_told fn_X12_want
      rw [h6, if_pos (show (0 : Int32) ≤ 0 from by decide), bd_o (m_isWd hT h4 k hk), tr_1 e, if_neg (show ¬ iI 1 = 0 from by decide), bv_o a2, bv_e, q_0, bd_o b2, bd_e]
    · rw [tr_n e, if_pos (show iI 0 = 0 from q_0.symm), if_pos (show iI 0 = 0 from q_0.symm)]
      exact ⟨z, w, iI d, iI d, rfl, rfl, fun _ _ _ => SA.rf, fun _ _ _ => SA.rf, Or.inr ⟨d, s1, hd.1, hd.2, rfl, rfl, hs1, h⟩, fun a => absurd h5 a.x⟩
/-- the line's end -/
theorem p_end (hT : VT T n) (h : TSd z w T n s) : ∃ z' w', fn_X6_expectSign 59 z = some z' ∧ fn_X12_readLine_189 w = some w' ∧ (∀ a j, xT a j → SA z z' a j) ∧ (∀ a j, mT a j → SA w w' a j) ∧ (TFt z' w' ∨ ∃ s', s < s' ∧ TRd z' w' T n s') ∧ (TFt z w → TFt z' w') := by
  rcases h with h | ⟨s1, hs1, h⟩
  · refine ⟨z, w, ef_exs h.x _, ?_, fun _ _ _ => SA.rf, fun _ _ _ => SA.rf, Or.inl h, fun _ => h⟩
    unfold fn_X12_readLine_189 fn_X12_readLine_210
    rw [if_neg h.m.1, if_neg h.m.1]
  · obtain ⟨h1, h2, h3, h4, h5, h6, h7⟩ := id h
    have hkb := ks_b (s := s1) hT
    have e59 : fn_X6_isSign 59 z = some (iI (tr (kx T n s1 = 3 ∧ T s1 = 59)), z) := by rw [q_59]; exact x_isSg hT h3 h5 (by omega)
    unfold fn_X6_expectSign fn_X12_readLine_189
    rw [bd_o e59, h6, if_pos rfl, h4.2.1]
    by_cases e : kx T n s1 = 3 ∧ T s1 = 59
    · obtain ⟨z', w', a1, a2, a3, a4, a5, a6⟩ := p_adv hT h (by omega)
      rw [tr_1 e, if_neg (show ¬ iI 1 = 0 from by decide), bv_o a1, if_pos (show iI (tKs T n s1) = 59 from by rw [(ks_c hT (by omega)).mpr e]; exact q_59.symm)]
      unfold fn_X12_readLine_210
      rw [h6, if_pos rfl, bv_o a2]
      exact ⟨z', w', rfl, rfl, a5, a6, Or.inr ⟨_, by omega, a3⟩, fun a => absurd h5 a.x⟩
    · obtain ⟨z', w', a1, a2, a3, a4, a5⟩ := p_ref hT h
      rw [tr_n e, if_pos (show iI 0 = 0 from q_0.symm), bv_o a1, if_neg (show ¬ iI (tKs T n s1) = 59 from by rw [q_59]; exact neq (by omega) (by omega) (fun a => e ((ks_c hT (by omega)).mp a))), bv_o a2]
      unfold fn_X12_readLine_210
      rw [if_neg a3.m.1]
      exact ⟨z', w', rfl, rfl, a4, a5, Or.inl a3, fun a => absurd h5 a.x⟩
/-! a new name -/
theorem loopK2 {β : Type} (F : Nat → Nat → Option β) (n : Nat) (hn : n < 900000) (h : ∀ k m, k < n → F (m + 1) k = F m (k + 1)) : ∃ m, F fu 0 = F (m + 2) n := by
  refine ⟨999998 - n, ?_⟩
  have := loopA F n h (999998 - n + 2)
  rw [show 999998 - n + 2 + n = fu from by unfold fu; omega] at this
  exact this
theorem fstEq (P : Nat → Prop) : ∀ k : Nat, ∃ j, j ≤ k ∧ (∀ i, i < j → ¬ P i) ∧ (j = k ∨ P j) := by
  intro k
  induction k with
  | zero => exact ⟨0, Nat.le_refl 0, fun i hi => absurd hi (Nat.not_lt_zero i), Or.inl rfl⟩
  | succ k ih =>
    obtain ⟨j, h1, h2, h3⟩ := ih
    rcases h3 with h3 | h3
    · subst h3
      by_cases hp : P j
      · exact ⟨j, by omega, h2, Or.inr hp⟩
      · exact ⟨j + 1, Nat.le_refl _, fun i hi => by
          by_cases e : i = j
          · rw [e]; exact hp
          · exact h2 i (by omega), Or.inl rfl⟩
    · exact ⟨j, by omega, h2, Or.inr h3⟩
theorem p_name (hT : VT T n) (h : TRd z w T n s) {p1 fr k : Nat} (hp : (p1 = 18 ∧ fr = 0 ∧ k < 3) ∨ (p1 = 22 ∧ fr = 3 ∧ k < 6)) (hN : ∀ i, i < k → NM (z.2 p1 i) (w.2 174 (fr + i))) : ∃ z' w', fn_X6_newName p1 (iI (k : Int)) z = some z' ∧ (bd (fn_X12_isName w) (fun r4 z5 => (if r4 = 0 then bv (fn_X12_wrong 2 z5) (fun z8 => fn_X12_newName_16 (iI (fr : Int)) (iI (k : Int)) z8) else fn_X12_newName_16 (iI (fr : Int)) (iI (k : Int)) z5))) = some w' ∧ (∀ a j, xT a j → ¬ a = p1 → SA z z' a j) ∧ (∀ a j, mT a j → ¬ a = 174 → SA w w' a j) ∧ (∀ a j, a = p1 ∨ a = 174 → z'.1 a j = z.1 a j ∧ w'.1 a j = w.1 a j) ∧ (∀ j, ¬ j = k → z'.2 p1 j = z.2 p1 j) ∧ (∀ j, ¬ j = fr + k → w'.2 174 j = w.2 174 j) ∧ (TFt z' w' ∨ (NM (z'.2 p1 k) (w'.2 174 (fr + k)) ∧ TSd z' w' T n s)) := by
  obtain ⟨h1, h2, h3, h4, h5, h6, h7⟩ := id h
  have hk4 := kx_4 T n s
  have hkb := ks_b (s := s) hT
  have hln : ln p1 = if p1 = 18 then 3 else 6 := by
    rcases hp with ⟨rfl, -, -⟩ | ⟨rfl, -, -⟩ <;> decide
  have hkl : k < ln p1 := by rw [hln]; rcases hp with ⟨rfl, -, hk⟩ | ⟨rfl, -, hk⟩ <;> simp <;> omega
  have hl6 : ln p1 ≤ 6 := by rw [hln]; split <;> omega
  have eln : Int32.ofNat (ln p1) = iI ((ln p1 : Nat) : Int) := by rw [hln]; split <;> decide
  have hfr : fr + k < 9 ∧ fr ≤ 3 := by omega
  have f57 : ∀ w : St, w.1 172 2 ≠ 0 ∧ ¬ w.1 172 2 ≤ 0 → fn_X12_newName_57 (iI (fr : Int)) (iI (k : Int)) w = some w := fun w hw => by unfold fn_X12_newName_57; rw [if_neg hw.2]
  have f18 : ∀ (w : St) (m i : Nat), w.1 172 2 ≠ 0 ∧ ¬ w.1 172 2 ≤ 0 → fn_X12_newName_18 (m + 1) (iI (fr : Int)) (iI (k : Int)) (iI (i : Int)) w = some w := fun w m i hw => by
    rw [fn_X12_newName_18, f57 w hw, if_neg hw.1]
    split <;> rfl
  unfold fn_X6_newName fn_X12_isName
  rw [h5, if_pos rfl, h3.2.1, h4.2.1]
  by_cases hnm : kx T n s = 1 ∧ kw T n s = -1
  · -- a name
    obtain ⟨hk1, hkw⟩ := hnm
    have hkw' : z.1 32 9 = -1 := by rw [(h3.2.2.2.1 hk1).2, show kwF (jI (wvX T s (we T n s - s) : Nat)) 19 = -1 from by unfold kw at hkw; rw [if_pos hk1] at hkw; exact hkw]; exact q_m1.symm
    rw [if_pos (show iI (kx T n s : Int) = 1 from by rw [hk1]; exact q_1.symm), hkw', if_pos rfl, eln, if_pos (ylt (by omega) (by omega) (by omega)), if_pos (show iI (tKs T n s) = 1 from by rw [(ks_1 hT).mpr hk1]; exact q_1.symm), bd_o (m_isOw h4 hk1), tr_n (fun a => a hkw), if_pos (show iI 0 = 0 from q_0.symm), bd_e, if_neg (show ¬ (1 : Int32) = 0 from by decide)]
    unfold fn_X12_newName_16
    have hW := word_nm h3 h4 hk1
    obtain ⟨j, hj, hlt, hend⟩ := fstEq (fun i => z.2 p1 i = z.2 32 8) k
    have hlt' : ∀ i, i < j → ¬ w.2 174 (fr + i) = w.2 172 9 := fun i hi e => hlt i hi (((hN i (by omega)).iff hW).mpr e)
    obtain ⟨m1, hm1⟩ := loopK (fun m i => fn_X6_newName_36 m p1 (iI (k : Int)) (iI (i : Int)) z) j (by omega) (fun i m hi => by
      show fn_X6_newName_36 (m + 1) _ _ _ _ = fn_X6_newName_36 m _ _ _ _
      rw [fn_X6_newName_36, if_neg (nle (by omega) (by omega) (by omega)), gd_t (iI_ix (by omega)), iI_clampN (by omega), if_neg (show ¬ lg_cmp (z.2 p1 i) (z.2 32 8) = 0 from by rw [lgc]; exact hlt i hi), k1])
    obtain ⟨m2, hm2⟩ := loopK2 (fun m i => fn_X12_newName_18 m (iI (fr : Int)) (iI (k : Int)) (iI (i : Int)) w) j (by omega) (fun i m hi => by
      show fn_X12_newName_18 (m + 1) _ _ _ _ = fn_X12_newName_18 m _ _ _ _
      rw [fn_X12_newName_18, if_neg (nle (by omega) (by omega) (by omega)), h6, if_pos rfl, iI_add, show (fr : Int) + (i : Int) = ((fr + i : Nat) : Int) from rfl, gd_t (iI_ix (by omega)), iI_clampN (by omega), if_neg (show ¬ lg_cmp (w.2 174 (fr + i)) (w.2 172 9) = 0 from by rw [lgc]; exact hlt' i hi)]
      unfold fn_X12_newName_51
      rw [k1])
    have e1 : fn_X6_newName_36 fu p1 (iI (k : Int)) 0 z = fn_X6_newName_36 (m1 + 1) p1 (iI (k : Int)) (iI (j : Int)) z := by rw [← z0]; exact hm1
    have e2 : fn_X12_newName_18 fu (iI (fr : Int)) (iI (k : Int)) 0 w = fn_X12_newName_18 (m2 + 2) (iI (fr : Int)) (iI (k : Int)) (iI (j : Int)) w := by rw [← z0]; exact hm2
    rw [e1, e2]
    by_cases hjk : j = k
    · -- new
      have ei : iI (fr : Int) + iI (k : Int) = iI ((fr + k : Nat) : Int) := by rw [iI_add]; rfl
      rw [fn_X6_newName_36, hjk, if_pos (i_refl _), gd_t (iI_ix (by omega)), nm_o, iI_clampN (by omega), fn_X12_newName_18, if_pos (i_refl _)]
      unfold fn_X12_newName_57
      rw [h6, if_pos (show (0 : Int32) ≤ 0 from by decide), ei, gd_t (iI_ix (by omega)), nm_o, iI_clampN (by omega)]
      have hT2 : TRd (sJ z p1 k (z.2 32 8)) (sJ w 174 (fr + k) (w.2 172 9)) T n s := h.fr (fun a j p => sa_Ja rfl (by omega)) (fun a j p => sa_Ja rfl (by omega))
      obtain ⟨z', w', a1, a2, a3, a4, a5, a6⟩ := p_adv hT hT2 (Or.inl hk1)
      rw [bv_o a1, bv_o a2]
      have hz2 : ∀ j, z'.2 p1 j = if j = k then z.2 32 8 else z.2 p1 j := fun j => by rw [(a5 p1 j (by unfold xT; omega)).2, sJ_at]
      have hw2 : ∀ j, w'.2 174 j = if j = fr + k then w.2 172 9 else w.2 174 j := fun j => by rw [(a6 174 j (by unfold mT; omega)).2, sJ_at]
      refine ⟨z', w', rfl, rfl, fun a j p q => (sa_Ja rfl q).tr (a5 a j p), fun a j p q => (sa_Ja rfl q).tr (a6 a j p), fun a j p => ⟨(a5 a j (by unfold xT; omega)).1, (a6 a j (by unfold mT; omega)).1⟩, fun j q => by rw [hz2, if_neg q], fun j q => by rw [hw2, if_neg q], Or.inr ⟨?_, Or.inr ⟨_, by omega, a3⟩⟩⟩
      rw [hz2, hw2, if_pos rfl, if_pos rfl]
      exact hW
    · -- told already
      have hPj := hend.resolve_left hjk
      have hPj' : w.2 174 (fr + j) = w.2 172 9 := ((hN j (by omega)).iff hW).mp hPj
      obtain ⟨z', w', a1, a2, a3, a4, a5⟩ := p_keep hT h (c := 3) (by omega) (by omega)
      rw [← q_3] at a1 a2
      rw [fn_X6_newName_36, if_neg (nle (by omega) (by omega) (by omega)), gd_t (iI_ix (by omega)), iI_clampN (by omega), if_pos (show lg_cmp (z.2 p1 j) (z.2 32 8) = 0 from by rw [lgc]; exact hPj), bv_o a1, fn_X12_newName_18, if_neg (nle (by omega) (by omega) (by omega)), h6, if_pos rfl, iI_add, show (fr : Int) + (j : Int) = ((fr + j : Nat) : Int) from rfl, gd_t (iI_ix (by omega)), iI_clampN (by omega), if_pos (show lg_cmp (w.2 174 (fr + j)) (w.2 172 9) = 0 from by rw [lgc]; exact hPj'), bv_o a2]
      unfold fn_X12_newName_51
      rw [k1, f18 w' m2 (j + 1) a3.m]
      exact ⟨z', w', rfl, rfl, fun a j p _ => a4 a j p, fun a j p _ => a5 a j p, fun a j p => ⟨(a4 a j (by unfold xT; omega)).1, (a5 a j (by unfold mT; omega)).1⟩, fun j _ => (a4 p1 j (by unfold xT; omega)).2, fun j _ => (a5 174 j (by unfold mT; omega)).2, Or.inl a3⟩
  · -- no name
    obtain ⟨z', w', a1, a2, a3, a4, a5⟩ := p_ref hT h
    have ex : (if iI (kx T n s : Int) = 1 then (if z.1 32 9 = -1 then (if iI (k : Int) < Int32.ofNat (ln p1) then fn_X6_newName_36 fu p1 (iI (k : Int)) 0 z else fn_X6_newName_29 z) else fn_X6_newName_29 z) else fn_X6_newName_29 z) = some z' := by
      have e29 : fn_X6_newName_29 z = some z' := by unfold fn_X6_newName_29; rw [bv_o a1]
      rw [e29]
      by_cases hk1 : kx T n s = 1
      · have hkb' := kwF_b (jI (wvX T s (we T n s - s) : Nat)) 19
        rw [if_pos (show iI (kx T n s : Int) = 1 from by rw [hk1]; exact q_1.symm), (h3.2.2.2.1 hk1).2, if_neg (show ¬ iI (kwF (jI (wvX T s (we T n s - s) : Nat)) 19) = -1 from by rw [q_m1]; exact neq (by omega) (by omega) (fun e => hnm ⟨hk1, by unfold kw; rw [if_pos hk1]; exact e⟩))]
      · rw [if_neg (show ¬ iI (kx T n s : Int) = 1 from by rw [q_1]; exact neq (by omega) (by omega) (by omega))]
    have em : (if iI (tKs T n s) = 1 then bd (fn_X12_isOwn w) (fun r3 z4 => (if r3 = 0 then some ((1 : Int32), z4) else some (0, z4))) else some (0, w)) = some (0, w) := by
      by_cases hk1 : kx T n s = 1
      · rw [if_pos (show iI (tKs T n s) = 1 from by rw [(ks_1 hT).mpr hk1]; exact q_1.symm), bd_o (m_isOw h4 hk1), tr_1 (show kw T n s ≠ -1 from fun e => hnm ⟨hk1, e⟩), if_neg (show ¬ iI 1 = 0 from by decide)]
      · rw [if_neg (show ¬ iI (tKs T n s) = 1 from by rw [q_1]; exact neq (by omega) (by omega) (fun e => hk1 ((ks_1 hT).mp e)))]
    rw [ex, em, bd_e, if_pos rfl, bv_o a2]
    unfold fn_X12_newName_16
    have e18 : fn_X12_newName_18 fu (iI (fr : Int)) (iI (k : Int)) 0 w' = some w' := by rw [← z0]; exact f18 w' 999999 0 a3.m
    rw [e18]
    exact ⟨z', w', rfl, rfl, fun a j p _ => a4 a j p, fun a j p _ => a5 a j p, fun a j p => ⟨(a4 a j (by unfold xT; omega)).1, (a5 a j (by unfold mT; omega)).1⟩, fun j _ => (a4 p1 j (by unfold xT; omega)).2, fun j _ => (a5 174 j (by unfold mT; omega)).2, Or.inl a3⟩
end
