section
variable {z w : St} {c : RC} {F0 F1 : FO} {b : BD}
/-! all but what lies there -/
def RDy (z : St) (c : RC) (F0 F1 : FO) (b : BD) : Prop := RT z ∧ RFt z ∧ RK z ∧ RG z c F0 F1 ∧ RB z c b ∧ RX z c ∧ RLo z ∧ RA z c F1 b
theorem RD.y (h : RD z c F0 F1 b) : RDy z c F0 F1 b := ⟨h.1, h.2.1, h.2.2.1, h.2.2.2.2.1, h.2.2.2.2.2.1, h.2.2.2.2.2.2.1, h.2.2.2.2.2.2.2.1, h.2.2.2.2.2.2.2.2⟩
theorem RDy.d (h : RDy z c F0 F1 b) (hy : RY z) : RD z c F0 F1 b := ⟨h.1, h.2.1, h.2.2.1, hy, h.2.2.2.1, h.2.2.2.2.1, h.2.2.2.2.2.1, h.2.2.2.2.2.2.1, h.2.2.2.2.2.2.2⟩
theorem RDy.fr (h : RDy z c F0 F1 b) (hs : ∀ a k, PS a k → ¬ PY a k → SA z w a k) : RDy w c F0 F1 b :=
  ⟨h.1.fr fun a k g => hs a k (by unfold PT at g; unfold PS; omega) (by unfold PT at g; unfold PY; omega), h.2.1.fr fun a k g => hs a k (by unfold PFt at g; unfold PS; omega) (by unfold PFt at g; unfold PY; omega), h.2.2.1.fr fun a k g => hs a k (by unfold PK at g; unfold PS; omega) (by unfold PK at g; unfold PY; omega), h.2.2.2.1.fr fun a k g => hs a k (by unfold PG QX QR at g; unfold PS; omega) (by unfold PG QX QR at g; unfold PY; omega), h.2.2.2.2.1.fr fun a k g => hs a k (by unfold PB at g; unfold PS; omega) (by unfold PB at g; unfold PY; omega), h.2.2.2.2.2.1.fr fun a k g => hs a k (by unfold PX at g; unfold PS; omega) (by unfold PX at g; unfold PY; omega), h.2.2.2.2.2.2.1.fr fun a k g => hs a k (by unfold PL at g; unfold PS; omega) (by unfold PL at g; unfold PY; omega), h.2.2.2.2.2.2.2.fr fun a k g => hs a k (by unfold PA at g; unfold PS; omega) (by unfold PA at g; unfold PY; omega)⟩
theorem RDy.xs (h : RDy z c F0 F1 b) : RXs z c F0 F1 b := by
  obtain ⟨-, -, -, ⟨g0, g1, g2, g3, g4, g5, g6, g7, g8, -⟩, ⟨b0, b1, b2⟩, -⟩ := h
  exact ⟨g0, b0, g7, g8, g1, b1, g3, g4⟩
theorem RDy.ld (h : RDy z c F0 F1 b) : RM (ldz z) c F0 F1 b := by
  obtain ⟨-, -, -, ⟨g0, g1, g2, g3, g4, g5, g6, g7, g8, -⟩, ⟨b0, b1, b2⟩, -⟩ := h
  exact ⟨g0, b0, g7, g8, g2.fr fun a k h => ldz_S (by unfold QR at h; omega), ldz_B b2 b0.1.2, g5.fr fun a k h => ldz_S (by omega), g6.fr fun a k h => ldz_S (by omega)⟩
/-! x's tables -/
def XP (u : St) (c : RC) (F : FO) (b : BD) : Prop := u.1 156 7 = orf (Hu b) (c 6 1).toNat ∧ u.1 156 8 = iI (cB6 (Hu b) (c 6 1).toNat) ∧ u.1 156 9 = orf (Fr b) (b 168).toNat ∧ ∀ g : Nat, (g : Int) < c 6 1 → Hu b g = true → XW u c F b g
abbrev pFr (a _j : Nat) : Prop := ¬ a = 144 ∧ ¬ a = 13 ∧ ¬ a = 159 ∧ ¬ a = 156
theorem RXs.pfr (h : RXs z c F0 F1 b) (hs : ∀ a j, pFr a j → SA z w a j) : RXs w c F0 F1 b := h.fr fun a j q => hs a j (by unfold QXs QX at q; unfold pFr; omega)
theorem x_prepP (h : RXs z c F0 F1 b) : ∃ w, fn_X5_prepare z = some w ∧ XP w c F0 b := by
  have hC := h.1
  have hV := h.2.1
  have hn := hV.1
  have hG := hC.2.1
  obtain ⟨m, s, ⟨i1, i2, i3, i4⟩, hm⟩ := loopE (fun m g s => fn_X5_prepare_12 m (iI (g : Int)) s) (fun g s => s.1 156 7 = orf (Hu b) g ∧ s.1 156 8 = iI (cB6 (Hu b) g) ∧ (∀ o : Nat, o < g → Hu b o = true → XW s c F0 b o) ∧ ∀ a j, pFr a j → SA z s a j) (c 6 1).toNat (by omega) (sI (sI z 156 7 0) 156 8 0) ⟨by rw [sI_at, if_neg (by omega), sI_at, if_pos rfl, orf], by rw [sI_at, if_pos rfl, cB6, q_0], fun o ho => by omega, fun a j q => (sa_Ia rfl q.2.2.2).tr (sa_Ia rfl q.2.2.2)⟩ (fun g m s hg ⟨i1, i2, i3, i4⟩ => by
    have hs := h.pfr i4
    have hbg := hp_b hV (g : Int)
    show ∃ s', _ ∧ fn_X5_prepare_12 (m + 1) _ _ = fn_X5_prepare_12 m _ _
    rw [fn_X5_prepare_12, hs.2.2.2.2.1.2.1, if_neg (nle (by omega) (by omega) (by omega)), gd_t (iI_ix (by omega)), iI_clampN (by omega), show s.1 60 g = iI (hp b (g : Int)) from hs.2.2.2.2.2.1.2.2.2.2 g (by omega)]
    by_cases hu : hp b (g : Int) = -1
    · have eu : Hu b g = true := decide_eq_true hu
      rw [if_pos (show iI (hp b (g : Int)) = -1 from by rw [hu]; exact q_m1.symm), nm_o, nm_o]
      generalize ht : sI (sI s 156 7 (s.1 156 7 ||| 1 <<< (iI (g : Int) &&& 31))) 156 8 ((sI s 156 7 (s.1 156 7 ||| 1 <<< (iI (g : Int) &&& 31))).1 156 8 + 1) = t0
      have a7 : t0.1 156 7 = orf (Hu b) (g + 1) := by rw [← ht, sI_at, if_neg (by omega), sI_at, if_pos rfl, orf, if_pos eu, i1]
      have a8 : t0.1 156 8 = iI (cB6 (Hu b) (g + 1)) := by rw [← ht, sI_at, if_pos rfl, sI_at, if_neg (by omega), cB6, if_pos eu, i2, q_1, iI_add]
      have a0 : ∀ a j, ¬ a = 156 → SA s t0 a j := fun a j q => (sa_Ia rfl q).tr (sa_Ia ht.symm q)
      obtain ⟨m2, t, ⟨j1, j2, j3, j4, j5⟩, hm2⟩ := loopE (fun m2 p t => fn_X5_prepare_60 (fn_X5_prepare_12 m) m2 (iI (g : Int)) (iI (p : Int)) t) (fun p t => t.1 156 7 = orf (Hu b) (g + 1) ∧ t.1 156 8 = iI (cB6 (Hu b) (g + 1)) ∧ (∀ o : Nat, o < g → Hu b o = true → XW t c F0 b o) ∧ (∀ q : Nat, q < p → t.1 159 (24 * g + q) = wt c F0 b g q) ∧ ∀ a j, pFr a j → SA z t a j) (b 168).toNat (by omega) t0 ⟨a7, a8, fun o ho hq q hq2 => (a0 159 _ (by omega)).1.trans (i3 o ho hq q hq2), fun q hq => by omega, fun a j q => (i4 a j q).tr (a0 a j q.2.2.2)⟩ (fun p m2 t hp ⟨j1, j2, j3, j4, j5⟩ => by
        have hst := h.pfr j5
        obtain ⟨u, e⟩ := x_ofPiece (g := g) (p := p) hst.2.2.2.2.1 hC hst.2.2.2.2.2.1 hV hst.2.2.2.2.2.2.1 hst.2.2.1 (by omega) (by omega) 0
        have fu' : ∀ a j, ¬ a = 144 → ¬ a = 13 → SA t u a j := fun a j q1 q2 => ff_X10_ofPiece (show ¬ a = 144 ∧ ¬ a = 13 from ⟨q1, q2⟩) e
        have ek : iI (g : Int) * 24 + iI (p : Int) = iI ((24 * g + p : Nat) : Int) := by rw [q_24, iI_mul, iI_add]; congr 1; omega
        show ∃ s', _ ∧ fn_X5_prepare_60 _ (m2 + 1) _ _ _ = fn_X5_prepare_60 _ m2 _ _ _
        rw [fn_X5_prepare_60, hst.2.2.2.2.2.1.1, if_neg (nle (by omega) (by omega) (by omega)), bd_o e, ek, gd_t (iI_ix (by omega)), iI_clampN (by omega), nm_o, k1]
        refine ⟨sI u 159 (24 * g + p) (wt c F0 b g p), ⟨?_, ?_, fun o ho hq q hq2 => ?_, fun q hq => ?_, fun a j q => ((j5 a j q).tr (fu' a j q.1 q.2.1)).tr (sa_Ia rfl q.2.2.1)⟩, rfl⟩
        · rw [(sa_Ia (z := u) (a := 156) (k := 7) rfl (by omega)).1, (fu' 156 7 (by omega) (by omega)).1]; exact j1
        · rw [(sa_Ia (z := u) (a := 156) (k := 8) rfl (by omega)).1, (fu' 156 8 (by omega) (by omega)).1]; exact j2
        · rw [sI_at, if_neg (by omega), (fu' 159 _ (by omega) (by omega)).1]
          exact j3 o ho hq q hq2
        · rw [sI_at]
          by_cases e : q = p
          · rw [if_pos (by omega), e]
          · rw [if_neg (by omega), (fu' 159 _ (by omega) (by omega)).1]
            exact j4 q (by omega))
      have hst := h.pfr j5
      refine ⟨t, ⟨j1, j2, fun o ho hq => ?_, j5⟩, ?_⟩
      · by_cases e : o = g
        · rw [e]; exact fun q hq => j4 q (by omega)
        · exact j3 o (by omega) hq
      · refine (show _ = fn_X5_prepare_60 (fn_X5_prepare_12 m) fu (iI (g : Int)) (iI ((0 : Nat) : Int)) t0 from by rw [z0]).trans (hm2.trans ?_)
        show fn_X5_prepare_60 _ (m2 + 1) _ _ _ = _
        rw [fn_X5_prepare_60, hst.2.2.2.2.2.1.1, if_pos (yle (by omega) (by omega) (by omega))]
        unfold fn_X5_prepare_98
        rw [k1]
    · have eu : ¬ Hu b g = true := by unfold Hu; rw [decide_eq_true_iff]; exact hu
      rw [if_neg (show ¬ iI (hp b (g : Int)) = -1 from by rw [q_m1]; exact neq (by omega) (by omega) hu)]
      refine ⟨s, ⟨by rw [orf, if_neg eu]; exact i1, by rw [cB6, if_neg eu, Int.add_zero]; exact i2, fun o ho hq => ?_, i4⟩, ?_⟩
      · by_cases e : o = g
        · exact absurd (e ▸ hq) eu
        · exact i3 o (by omega) hq
      · unfold fn_X5_prepare_98; rw [k1])
  have hs := h.pfr i4
  obtain ⟨m3, t, ⟨j1, j2⟩, hm3⟩ := loopE (fun m p t => fn_X5_prepare_111 m (iI (p : Int)) t) (fun p t => t.1 156 9 = orf (Fr b) p ∧ ∀ a j, ¬ (a = 156 ∧ j = 9) → SA s t a j) (b 168).toNat (by omega) (sI s 156 9 0) ⟨by rw [sI_at, if_pos rfl, orf], fun a j q => sa_I rfl q⟩ (fun p m t hp ⟨j1, j2⟩ => by
    have hst : RXs t c F0 F1 b := hs.fr fun a j q => j2 a j (by unfold QXs QX at q; omega)
    show ∃ s', _ ∧ fn_X5_prepare_111 (m + 1) _ _ = fn_X5_prepare_111 m _ _
    rw [fn_X5_prepare_111, hst.2.2.2.2.2.1.1, if_neg (nle (by omega) (by omega) (by omega)), bd_o (x_isFreeP hC hst.2.2.2.2.2.1 hV (by omega))]
    unfold fn_X5_prepare_145
    rw [k1]
    by_cases hf : pc b p 6 = -1
    · have ef : Fr b p = true := decide_eq_true hf
      rw [tr_1 hf, if_neg (show ¬ iI 1 = 0 from by decide), nm_o]
      exact ⟨_, ⟨by rw [sI_at, if_pos rfl, orf, if_pos ef, j1], fun a j q => (j2 a j q).tr (sa_I rfl q)⟩, rfl⟩
    · have ef : ¬ Fr b p = true := by unfold Fr; rw [decide_eq_true_iff]; exact hf
      rw [tr_n hf, if_pos (show iI 0 = 0 from q_0.symm)]
      exact ⟨t, ⟨by rw [orf, if_neg ef]; exact j1, j2⟩, rfl⟩)
  have hst : RXs t c F0 F1 b := hs.fr fun a j q => j2 a j (by unfold QXs QX at q; omega)
  refine ⟨t, ?_, (j2 156 7 (by omega)).1.trans i1, (j2 156 8 (by omega)).1.trans i2, j1, fun g hg hq p hp => (j2 159 _ (by omega)).1.trans (i3 g (by omega) hq p hp)⟩
  unfold fn_X5_prepare
  rw [nm_o, nm_o]
  refine (show _ = fn_X5_prepare_12 fu (iI ((0 : Nat) : Int)) (sI (sI z 156 7 0) 156 8 0) from by rw [z0]).trans (hm.trans ?_)
  show fn_X5_prepare_12 (m + 1) _ _ = _
  rw [fn_X5_prepare_12, hs.2.2.2.2.1.2.1, if_pos (yle (by omega) (by omega) (by omega)), nm_o]
  refine (show _ = fn_X5_prepare_111 fu (iI ((0 : Nat) : Int)) (sI s 156 9 0) from by rw [z0]).trans (hm3.trans ?_)
  show fn_X5_prepare_111 (m3 + 1) _ _ = _
  rw [fn_X5_prepare_111, hst.2.2.2.2.2.1.1, if_pos (yle (by omega) (by omega) (by omega))]
/-! picks in order of numbers -/
def tkn (c : RC) (F : FO) (b : BD) : Nat → Nat → Bool
  | 0 => fun _ => false
  | g + 1 => fun j => tkn c F b g j || decide (((j : Nat) : Int) = if Hu b g then PKk c F b g (tkn c F b g) else -1)
def pkN (c : RC) (F : FO) (b : BD) (g : Nat) : Int := if Hu b g then PKk c F b g (tkn c F b g) else -1
theorem tkn_s (g j : Nat) : tkn c F0 b (g + 1) j = (tkn c F0 b g j || decide ((j : Int) = pkN c F0 b g)) := rfl
theorem PKk_b (hn : 0 ≤ b 168 ∧ b 168 ≤ 24) (g : Nat) (T : Nat → Bool) : -1 ≤ PKk c F0 b g T ∧ PKk c F0 b g T < b 168 ∧ (0 ≤ PKk c F0 b g T → Fr b (PKk c F0 b g T).toNat = true ∧ T (PKk c F0 b g T).toNat = false) := by
  have := pk_b (c := c) (F0 := F0) (b := b) (g := g) (T := T) (b 168).toNat
  unfold PKk
  exact ⟨this.1, by omega, this.2.2⟩
theorem pkN_b (hn : 0 ≤ b 168 ∧ b 168 ≤ 24) (g : Nat) : -1 ≤ pkN c F0 b g ∧ pkN c F0 b g < b 168 ∧ (0 ≤ pkN c F0 b g → Fr b (pkN c F0 b g).toNat = true ∧ tkn c F0 b g (pkN c F0 b g).toNat = false) := by
  unfold pkN
  split
  · exact PKk_b hn g _
  · exact ⟨by omega, by omega, fun q => absurd q (by omega)⟩
theorem tkn_f (hn : 0 ≤ b 168 ∧ b 168 ≤ 24) : ∀ g j : Nat, tkn c F0 b g j = true → Fr b j = true ∧ (j : Int) < b 168 := by
  intro g
  induction g with
  | zero => intro j h; exact absurd h (by show ¬ false = true; decide)
  | succ g ih =>
    intro j h
    rw [tkn_s, Bool.or_eq_true] at h
    rcases h with h | h
    · exact ih j h
    · have e := of_decide_eq_true h
      have hb := pkN_b (c := c) (F0 := F0) (b := b) hn g
      have := (hb.2.2 (by omega)).1
      rw [← e, Int.toNat_natCast] at this
      exact ⟨this, by omega⟩
def cntP (c : RC) (F : FO) (b : BD) : Nat → Int
  | 0 => 0
  | g + 1 => cntP c F b g + (if 0 ≤ pkN c F b g then 1 else 0)
theorem cB6_ins {T : Nat → Bool} {j0 : Nat} (h0 : T j0 = false) : ∀ k, cB6 (fun j => T j || decide (j = j0)) k = cB6 T k + (if j0 < k then 1 else 0) := by
  intro k
  induction k with
  | zero => rw [if_neg (by omega)]; rfl
  | succ k ih =>
    rw [cB6, cB6, ih]
    by_cases e : k = j0
    · rw [e, h0, if_neg (show ¬ j0 < j0 from by omega), if_pos (show (false || decide (j0 = j0)) = true from by simp), if_neg (show ¬ false = true from by decide), if_pos (show j0 < j0 + 1 from by omega)]
    · rw [decide_eq_false e, Bool.or_false]
      by_cases q : j0 < k
      · rw [if_pos q, if_pos (show j0 < k + 1 from by omega)]; omega
      · rw [if_neg q, if_neg (show ¬ j0 < k + 1 from by omega)]; omega
theorem tkn_c (hn : 0 ≤ b 168 ∧ b 168 ≤ 24) : ∀ g, cB6 (tkn c F0 b g) 24 = cntP c F0 b g := by
  intro g
  induction g with
  | zero => rfl
  | succ g ih =>
    have hb := pkN_b (c := c) (F0 := F0) (b := b) hn g
    rw [cntP, ← ih]
    by_cases h : 0 ≤ pkN c F0 b g
    · rw [if_pos h, cB6_ext 24 (Q := fun j => tkn c F0 b g j || decide (j = (pkN c F0 b g).toNat)) (fun i hi => by rw [tkn_s, show decide ((i : Int) = pkN c F0 b g) = decide (i = (pkN c F0 b g).toNat) from decide_eq_decide.mpr (by omega)]), cB6_ins (hb.2.2 h).2, if_pos (by omega)]
    · rw [if_neg h, cB6_ext 24 (Q := tkn c F0 b g) (fun i hi => by rw [tkn_s, decide_eq_false (by omega), Bool.or_false]), Int.add_zero]
def frA (c : RC) (F : FO) (b : BD) : Nat → Int32
  | 0 => orf (Fr b) (b 168).toNat
  | g + 1 => if pkN c F b g = -1 then frA c F b g else frA c F b g &&& ((1 <<< (iI (pkN c F b g) &&& 31)) ^^^ (-1))
theorem frA_tb (hn : 0 ≤ b 168 ∧ b 168 ≤ 24) {j : Nat} (hj : j < 32) : ∀ g, tb (frA c F0 b g) j = ((Fr b j && decide (j < (b 168).toNat)) && !tkn c F0 b g j) := by
  intro g
  induction g with
  | zero => rw [frA, tb_orf hj _ (by omega)]; show _ = (_ && !false); rw [Bool.not_false, Bool.and_true]
  | succ g ih =>
    have hb := pkN_b (c := c) (F0 := F0) (b := b) hn g
    rw [frA, tkn_s]
    by_cases h : pkN c F0 b g = -1
    · rw [if_pos h, ih, decide_eq_false (show ¬ (j : Int) = pkN c F0 b g from by omega), Bool.or_false]
    · rw [if_neg h, nn (show 0 ≤ pkN c F0 b g from by omega), tb_rm hj (by omega), ih, show decide ((j : Int) = pkN c F0 b g) = decide (j = (pkN c F0 b g).toNat) from decide_eq_decide.mpr (by omega), Bool.not_or, Bool.and_assoc]
def tkA (c : RC) (F : FO) (b : BD) : Nat → Int32
  | 0 => 0
  | g + 1 => if 0 ≤ pkN c F b g then tkA c F b g ||| (1 <<< (iI (pkN c F b g) &&& 31)) else tkA c F b g
theorem tkA_tb (hn : 0 ≤ b 168 ∧ b 168 ≤ 24) {j : Nat} (hj : j < 32) : ∀ g, tb (tkA c F0 b g) j = tkn c F0 b g j := by
  intro g
  induction g with
  | zero => exact tb_0 j
  | succ g ih =>
    have hb := pkN_b (c := c) (F0 := F0) (b := b) hn g
    rw [tkA, tkn_s]
    by_cases h : 0 ≤ pkN c F0 b g
    · rw [if_pos h, nn h, tb_in hj (by omega), ih, show decide ((j : Int) = pkN c F0 b g) = decide (j = (pkN c F0 b g).toNat) from decide_eq_decide.mpr (by omega)]
    · rw [if_neg h, ih, decide_eq_false (by omega), Bool.or_false]
theorem x_without {A : Int32} {P : Int} (hP : -1 ≤ P ∧ P < 24) : fn_X5_without A (iI P) z = some (if P = -1 then A else A &&& ((1 <<< (iI P &&& 31)) ^^^ (-1)), z) := by
  unfold fn_X5_without
  by_cases h : P = -1
  · rw [if_pos (show iI P = -1 from by rw [h]; exact q_m1.symm), if_pos h]
  · rw [if_neg (show ¬ iI P = -1 from by rw [q_m1]; exact neq (by omega) (by omega) h), if_neg h]
theorem tb_not (x : Int32) {j : Nat} (hj : j < 32) : tb (x ^^^ (-1)) j = !tb x j := by
  rw [tb_xor, tb_m1 hj]
  cases tb x j <;> rfl
theorem ln_171 : ln 171 = 6 := by decide
theorem x_picks (h : RXs z c F0 F1 b) : ∃ w, fn_X5_pickByNumber 171 z = some (iI (cntP c F0 b (c 6 1).toNat), w) ∧ ∀ g : Nat, (g : Int) < c 6 1 → w.1 171 g = iI (pkN c F0 b g) := by
  have hC := h.1
  have hV := h.2.1
  have hn := hV.1
  have hG := hC.2.1
  obtain ⟨w, hw, hP⟩ := x_prepP h
  have kw : ∀ a j, pFr a j → SA z w a j := fun a j q => ff_X5_prepare (by show ¬ a = 144 ∧ ¬ a = 13 ∧ ¬ a = 159 ∧ ¬ (a = 156 ∧ j = 9) ∧ ¬ (a = 156 ∧ j = 7) ∧ ¬ (a = 156 ∧ j = 8); unfold pFr at q; omega) hw
  have hwX := h.pfr kw
  have L : ∀ s : St, (∀ a j, ¬ a = 171 → SA w s a j) → RXs s c F0 F1 b := fun s hs => hwX.fr fun a j q => hs a j (by unfold QXs QX at q; omega)
  obtain ⟨m, s, ⟨i1, i2⟩, hm⟩ := loopE (fun m g s => fn_X5_pickByNumber_11 m 171 (frA c F0 b g) (iI (g : Int)) s) (fun g s => (∀ o : Nat, o < g → s.1 171 o = iI (pkN c F0 b o)) ∧ ∀ a j, ¬ a = 171 → SA w s a j) (c 6 1).toNat (by omega) w ⟨fun o ho => by omega, fun a j _ => SA.rf⟩ (fun g m s hg ⟨i1, i2⟩ => by
    have hs := L s i2
    have hb := pkN_b (c := c) (F0 := F0) (b := b) hn g
    have key : ∀ s', (∀ a j, SA s s' a j) → ∃ s2, ((∀ o : Nat, o < g + 1 → s2.1 171 o = iI (pkN c F0 b o)) ∧ ∀ a j, ¬ a = 171 → SA w s2 a j) ∧ fn_X5_pickByNumber_64 (fn_X5_pickByNumber_11 m) 171 (frA c F0 b g) (iI (g : Int)) (iI (g : Int)) (iI (pkN c F0 b g)) s' = fn_X5_pickByNumber_11 m 171 (frA c F0 b (g + 1)) (iI ((g + 1 : Nat) : Int)) s2 := by
      intro s' hs'
      refine ⟨sI s' 171 g (iI (pkN c F0 b g)), ⟨fun o ho => ?_, fun a j q => ((i2 a j q).tr (hs' a j)).tr (sa_Ia rfl q)⟩, ?_⟩
      · rw [sI_at]
        by_cases e : o = g
        · rw [if_pos e, e]
        · rw [if_neg e, (hs' 171 o).1]; exact i1 o (by omega)
      · unfold fn_X5_pickByNumber_64
        rw [ln_171, gd_t (iI_ix (by omega)), nm_o, gd_t (iI_ix (by omega)), iI_clampN (by omega), sI_at, if_pos rfl, bd_o (x_without (by omega)), k1, frA]
    show ∃ s', _ ∧ fn_X5_pickByNumber_11 (m + 1) _ _ _ _ = fn_X5_pickByNumber_11 m _ _ _ _
    rw [fn_X5_pickByNumber_11, hs.2.2.2.2.1.2.1, if_neg (nle (by omega) (by omega) (by omega)), ln_171, show Int32.ofNat 6 = iI 6 from by decide, if_neg (nle (by omega) (by omega) (by omega)), (i2 156 7 (by omega)).1, hP.1, tb_sh (by omega), tb_orf (by omega) _ (by omega), decide_eq_true (show g < (c 6 1).toNat from hg), Bool.and_true]
    unfold fn_X5_pickByNumber_45
    by_cases hu : Hu b g = true
    · rw [if_pos hu, if_pos rfl, if_neg (show ¬ (1 : Int32) = 0 from by decide), bd_o (x_pickOf (T := tkn c F0 b g) (by omega) hs.2.2.2.2.2.1.1 hn (fun p hp => (i2 159 _ (by omega)).1.trans (hP.2.2.2 g (by omega) hu p hp)) (fun j hj => by rw [frA_tb hn (by omega), decide_eq_true (by omega), Bool.and_true])), show PKk c F0 b g (tkn c F0 b g) = pkN c F0 b g from by unfold pkN; rw [if_pos hu]]
      exact key s fun a j => SA.rf
    · rw [if_neg hu, if_neg (show ¬ (0 : Int32) = 1 from by decide), if_pos rfl, show (-1 : Int32) = iI (pkN c F0 b g) from by unfold pkN; rw [if_neg hu]; exact q_m1]
      exact key s fun a j => SA.rf)
  have hs := L s i2
  refine ⟨s, ?_, fun g hg => i1 g (by omega)⟩
  unfold fn_X5_pickByNumber
  rw [bv_o hw, nm_o, hP.2.2.1]
  refine (show _ = fn_X5_pickByNumber_11 fu 171 (frA c F0 b 0) (iI ((0 : Nat) : Int)) w from by rw [z0, frA]).trans (hm.trans ?_)
  show fn_X5_pickByNumber_11 (m + 1) _ _ _ _ = _
  rw [fn_X5_pickByNumber_11, hs.2.2.2.2.1.2.1, if_pos (yle (by omega) (by omega) (by omega))]
  unfold fn_X5_pickByNumber_79
  rw [(i2 156 9 (by omega)).1, hP.2.2.1, bd_o (bitc24 (T := tkn c F0 b (c 6 1).toNat) (fun j hj => by
    rw [tb_and, tb_not _ hj, frA_tb hn hj, tb_orf hj _ (by omega)]
    have hf := tkn_f (c := c) (F0 := F0) (b := b) hn (c 6 1).toNat j
    cases ht : tkn c F0 b (c 6 1).toNat j
    · cases (Fr b j && decide (j < (b 168).toNat)) <;> rfl
    · obtain ⟨f1, f2⟩ := hf ht
      rw [f1, decide_eq_true (show j < (b 168).toNat from by omega), decide_eq_true (show j < 24 from by omega)]; rfl)), tkn_c hn]
theorem m_picks (hl : RM (ldz z) c F0 F1 b) : ∃ w, fn_X12_picks z = some (iI (cntP c F0 b (c 6 1).toNat), w) ∧ w.1 172 65 = iI (c 6 1) ∧ ∀ g : Nat, (g : Int) < c 6 1 → w.1 205 g = iI (pkN c F0 b g) := by
  have hC := hl.1
  have hV := hl.2.1
  have hn := hV.1
  have hG := hC.2.1
  obtain ⟨w, hw, hM, hT, -⟩ := m_layWorths hl
  have L : ∀ s : St, (∀ a j, ¬ a = 205 → SA w s a j) → RM s c F0 F1 b := fun s hs => hM.fr fun a j q => hs a j (by unfold QM QR at q; omega)
  obtain ⟨m, s, ⟨i1, i2⟩, hm⟩ := loopE (fun m g s => fn_X12_picks_10 m (tkA c F0 b g) (iI (cntP c F0 b g)) (iI (g : Int)) s) (fun g s => (∀ o : Nat, o < g → s.1 205 o = iI (pkN c F0 b o)) ∧ ∀ a j, ¬ a = 205 → SA w s a j) (c 6 1).toNat (by omega) w ⟨fun o ho => by omega, fun a j _ => SA.rf⟩ (fun g m s hg ⟨i1, i2⟩ => by
    have hs := L s i2
    have hb := pkN_b (c := c) (F0 := F0) (b := b) hn g
    have hbg := hp_b hV (g : Int)
    have key : ∃ s2, ((∀ o : Nat, o < g + 1 → s2.1 205 o = iI (pkN c F0 b o)) ∧ ∀ a j, ¬ a = 205 → SA w s2 a j) ∧ fn_X12_picks_36 (fn_X12_picks_10 m) (tkA c F0 b g) (iI (cntP c F0 b g)) (iI (g : Int)) (iI (pkN c F0 b g)) s = fn_X12_picks_10 m (tkA c F0 b (g + 1)) (iI (cntP c F0 b (g + 1))) (iI ((g + 1 : Nat) : Int)) s2 := by
      refine ⟨sI s 205 g (iI (pkN c F0 b g)), ⟨fun o ho => ?_, fun a j q => (i2 a j q).tr (sa_Ia rfl q)⟩, ?_⟩
      · rw [sI_at]
        by_cases e : o = g
        · rw [if_pos e, e]
        · rw [if_neg e]; exact i1 o (by omega)
      · unfold fn_X12_picks_36 fn_X12_picks_64
        rw [gd_t (iI_ix (by omega)), nm_o, iI_clampN (by omega), k1, tkA, cntP]
        by_cases h0 : 0 ≤ pkN c F0 b g
        · rw [if_pos (show 0 ≤ iI (pkN c F0 b g) from by rw [q_0]; exact yle (by omega) (by omega) h0), if_pos h0, if_pos h0, nm_o, q_1, iI_add]
        · rw [if_neg (show ¬ 0 ≤ iI (pkN c F0 b g) from by rw [q_0]; exact nle (by omega) (by omega) h0), if_neg h0, if_neg h0, Int.add_zero]
    show ∃ s', _ ∧ fn_X12_picks_10 (m + 1) _ _ _ _ = fn_X12_picks_10 m _ _ _ _
    rw [fn_X12_picks_10, hs.2.2.2.2.1.2.1, if_neg (nle (by omega) (by omega) (by omega)), bd_o (m_pieceOf hC hs.2.2.2.2.2.1 hV (by omega))]
    by_cases hu : hp b (g : Int) = -1
    · have eu : Hu b g = true := decide_eq_true hu
      rw [if_pos (show iI (hp b (g : Int)) < 0 from by rw [q_0]; exact ylt (by omega) (by omega) (by omega)), bd_o (m_bestFor (T := tkn c F0 b g) (by omega) hC hs.2.2.2.2.2.1 hV (fun p hp => (i2 202 _ (by omega)).1.trans (hT g (by omega) p hp)) (fun j hj => tkA_tb hn (by omega) g)), show PKk c F0 b g (tkn c F0 b g) = pkN c F0 b g from by unfold pkN; rw [if_pos eu]]
      exact key
    · have eu : ¬ Hu b g = true := by unfold Hu; rw [decide_eq_true_iff]; exact hu
      rw [if_neg (show ¬ iI (hp b (g : Int)) < 0 from by rw [q_0]; exact nlt (by omega) (by omega) (by omega)), show (-1 : Int32) = iI (pkN c F0 b g) from by unfold pkN; rw [if_neg eu]; exact q_m1]
      exact key)
  have hs := L s i2
  refine ⟨sI s 172 65 (iI (c 6 1)), ?_, by rw [sI_at, if_pos rfl], fun g hg => (sa_Ia rfl (by omega)).1.trans (i1 g (by omega))⟩
  unfold fn_X12_picks
  rw [bv_o hw]
  refine (show _ = fn_X12_picks_10 fu (tkA c F0 b 0) (iI (cntP c F0 b 0)) (iI ((0 : Nat) : Int)) w from by rw [z0, tkA, cntP, ← q_0]).trans (hm.trans ?_)
  show fn_X12_picks_10 (m + 1) _ _ _ _ = _
  rw [fn_X12_picks_10, hs.2.2.2.2.1.2.1, if_pos (yle (by omega) (by omega) (by omega)), nm_o]
theorem s_picks (h : RD z c F0 F1 b) : Same fn_X11_picks fn_X12_picks z := by
  have hG := h.vc.2.1
  have hX : RXs (sI z 0 14 (iI (c 6 1))) c F0 F1 b := h.xs.fr fun a j q => sa_I rfl (by unfold QXs QX at q; omega)
  obtain ⟨w, e, e2⟩ := x_picks hX
  have kw : ∀ a j, ¬ a = 171 ∧ ¬ a = 144 ∧ ¬ a = 13 ∧ ¬ a = 159 ∧ ¬ a = 156 → SA (sI z 0 14 (iI (c 6 1))) w a j := fun a j q => ff_X5_pickByNumber (p1 := 171) (by decide) (by show ¬ a = 171 ∧ ¬ a = 144 ∧ ¬ a = 13 ∧ ¬ a = 159 ∧ ¬ (a = 156 ∧ j = 9) ∧ ¬ (a = 156 ∧ j = 7) ∧ ¬ (a = 156 ∧ j = 8); omega) e
  have hx : fn_X11_picks z = some (iI (cntP c F0 b (c 6 1).toNat), w) := by
    unfold fn_X11_picks
    rw [h.xr.2.1, nm_o, bd_o e]
  have hy : RDy w c F0 F1 b := h.y.fr fun a k q1 q2 => ((sa_I rfl (by unfold PY at q2; omega)).tr (kw a k (by unfold PS at q1; unfold PY at q2; omega)))
  obtain ⟨v, g1, g2, g3⟩ := m_picks hy.ld
  have kv : ∀ a j, ¬ a = 205 ∧ ¬ (a = 172 ∧ j = 65) ∧ ¬ a = 184 ∧ ¬ a = 182 ∧ ¬ a = 202 ∧ ¬ a = 198 → SA w v a j := fun a j q => ff_X12_picks q g1
  refine ⟨_, w, v, hx, g1, c, F0, F1, b, (hy.fr fun a k q1 q2 => kv a k (by unfold PS at q1; unfold PY at q2; omega)).d ⟨(c 6 1).toNat, by omega, ?_, ?_, fun i hi => ?_⟩⟩
  · rw [(kv 0 14 (by omega)).1, (kw 0 14 (by omega)).1, sI_at, if_pos rfl]; exact nn hG.1
  · rw [g2]; exact nn hG.1
  · rw [(kv 171 i (by omega)).1, e2 i (by omega), g3 i (by omega)]
end
