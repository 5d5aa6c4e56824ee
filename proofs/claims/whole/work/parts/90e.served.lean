section
variable {z w : St} {c : RC} {F0 F1 : FO} {b : BD}
/-- what serving may change on x's side -/
def sFr (a j : Nat) : Prop := ¬ (a = 153 ∧ 4 ≤ j) ∧ a ≠ 154 ∧ a ≠ 155
theorem RXs.sfr (h : RXs z c F0 F1 b) (hs : ∀ a j, sFr a j → SA z w a j) : RXs w c F0 F1 b := h.fr fun a j q => hs a j (by unfold QXs QX at q; unfold sFr; omega)
theorem x_prepare {g0 mo : Int} (h : RXs z c F0 F1 b) (hm : -99 ≤ mo ∧ mo ≤ 99) (hg0 : -2147483648 ≤ g0 ∧ g0 < 2147483648) : ∃ w, fn_X8_prepare (iI mo) (iI g0) z = some w ∧ SX w (WL (Cg b g0) (Vg c mo) (c 6 1).toNat) (fun x => (cA (Cp b (-1)) (Vp c b) x (b 168).toNat : Int)) ∧ ∀ a j, sFr a j ∨ (a = 153 ∧ j ≠ 4) → SA z w a j := by
  have hC := h.1
  have hV := h.2.1
  have hn := hV.1
  have hG := hC.2.1
  -- wants
  obtain ⟨m, s, ⟨i1, i2, i4⟩, hm1⟩ := loopE (fun m g s => fn_X8_prepare_7 m (iI mo) (iI g0) (iI (g : Int)) s) (fun g s => AR 154 s (WL (Cg b g0) (Vg c mo) g) ∧ s.1 153 4 = iI ((WL (Cg b g0) (Vg c mo) g).length : Int) ∧ ∀ a j, a ≠ 154 → ¬ (a = 153 ∧ j = 4) → SA z s a j) (c 6 1).toNat (by omega) (sI z 153 4 0) ⟨trivial, by rw [sI_at, if_pos rfl]; exact q_0, fun a j h1 h2 => sa_I rfl h2⟩ (fun g m s hg ⟨i1, i2, i4⟩ => by
    have hgc : (g : Int) < c 6 1 := by omega
    have Ms : RXs s c F0 F1 b := h.fr fun a j q => i4 a j (by unfold QXs QX at q; omega) (by unfold QXs QX at q; omega)
    have hb := hp_b hV g
    have hl := WL_len (C := Cg b g0) (V := Vg c mo) g
    have hw := hC.2.2.2.2 g hgc
    show ∃ s', _ ∧ fn_X8_prepare_7 (m + 1) _ _ _ _ = fn_X8_prepare_7 m _ _ _ _
    rw [fn_X8_prepare_7, Ms.2.2.2.2.1.2.1, if_neg (nle (by omega) (by omega) (by omega))]
    unfold fn_X8_prepare_55
    rw [k1, WL]
    by_cases e0 : (g : Int) = g0
    · rw [if_pos (show iI (g : Int) = iI g0 from by rw [e0]), if_neg (show ¬ Cg b g0 g = true from by unfold Cg; simp [e0])]
      exact ⟨s, ⟨i1, i2, i4⟩, rfl⟩
    · rw [if_neg (neq (by omega) hg0 e0), gd_t (iI_ix (by omega)), iI_clampN (by omega), show s.1 60 g = iI (hp b g) from Ms.2.2.2.2.2.1.2.2.2.2 g (by omega)]
      by_cases hh : hp b g = -1
      · have ec : Cg b g0 g = true := decide_eq_true ⟨e0, hh⟩
        rw [hh, if_pos (show iI (-1) = -1 from q_m1.symm), gd_t (iI_ix (by omega)), (Ms.2.2.2.2.1.2.2.2.2 g hgc).1, iI_add, if_pos ec]
        have hv : (if 0 < iI (c 3 g + mo) then iI (c 3 g + mo) else 0) = iI ((Vg c mo g : Nat) : Int) := by
          unfold Vg
          by_cases h0 : 0 < c 3 g + mo
          · rw [if_pos (by rw [q_0]; exact ylt (by omega) (by omega) h0)]; congr 1; omega
          · rw [if_neg (by rw [q_0]; exact nlt (by omega) (by omega) h0), q_0]; congr 1; omega
        obtain ⟨w, e, g1, g2⟩ := x_add15 (Vg_b hC hm hgc) (WL (Cg b g0) (Vg c mo) g) fu s i1 (by omega) (by unfold fu; omega) (WL_bound _ fun i hi _ => Vg_b hC hm (by omega))
        have ea : fn_X8_addWanted (iI ((Vg c mo g : Nat) : Int)) s = some (sI w 153 4 (iI ((insA (Vg c mo g) (WL (Cg b g0) (Vg c mo) g)).length : Int))) := by
          unfold fn_X8_addWanted
          rw [i2, if_pos (by rw [q_6]; exact ylt (by omega) (by omega) (by omega)), nm_o, e, (g2 153 4 (Or.inl (by omega))).1, i2, k1, insA_len]
        rw [hv, bv_o ea]
        exact ⟨_, ⟨g1.fr fun j _ => (sa_Ia rfl (by omega)).1, by rw [sI_at, if_pos rfl], fun a j h1 h2 => ((i4 a j h1 h2).tr (g2 a j (Or.inl h1))).tr (sa_I rfl h2)⟩, rfl⟩
      · rw [if_neg (show ¬ iI (hp b g) = -1 from by rw [q_m1]; exact neq (by omega) (by omega) hh), if_neg (show ¬ Cg b g0 g = true from by unfold Cg; simp [hh])]
        exact ⟨s, ⟨i1, i2, i4⟩, rfl⟩)
  generalize hL : WL (Cg b g0) (Vg c mo) (c 6 1).toNat = l at *
  have hl6 : l.length ≤ 6 := by
    have := WL_len (C := Cg b g0) (V := Vg c mo) (c 6 1).toNat
    rw [hL] at this; omega
  have hlb : ∀ x ∈ l, x ≤ 2000 := by rw [← hL]; exact WL_bound _ fun i hi _ => Vg_b hC hm (by omega)
  -- zeros
  obtain ⟨m2, t, ⟨j1, j2⟩, hm2⟩ := loopE (fun m k t => fn_X8_prepare_63 m (iI (k : Int)) t) (fun k t => (∀ i, i < k → t.1 155 i = 0) ∧ ∀ a j, a ≠ 155 → SA s t a j) l.length (by omega) s ⟨fun i hi => absurd hi (Nat.not_lt_zero i), fun a j _ => SA.rf⟩ (fun k m t hk ⟨j1, j2⟩ => by
    show ∃ s', _ ∧ fn_X8_prepare_63 (m + 1) _ _ = fn_X8_prepare_63 m _ _
    rw [fn_X8_prepare_63, (j2 153 4 (by omega)).1, i2, if_neg (nle (by omega) (by omega) (by omega)), gd_t (iI_ix (by omega)), nm_o, iI_clampN (by omega), k1]
    refine ⟨_, ⟨fun i hi => ?_, fun a j ha => (j2 a j ha).tr (sa_Ia rfl ha)⟩, rfl⟩
    rw [sI_at]
    by_cases hik : i = k
    · rw [if_pos hik]
    · rw [if_neg hik]; exact j1 i (by omega))
  have S0 : SX t l (fun _ => 0) := by
    refine ⟨(j2 153 4 (by omega)).1.trans i2, i1.fr fun j _ => (j2 154 j (by omega)).1, ?_, hl6, hlb⟩
    have : ∀ u : List Nat, u.length ≤ l.length → AE (fun _ => 0) t u := by
      intro u
      induction u with
      | nil => intro _; exact trivial
      | cons a u ih => intro hu; rw [List.length_cons] at hu; exact ⟨by rw [j1 u.length (by omega)]; exact q_0, ih (by omega)⟩
    exact this l (Nat.le_refl _)
  have fr2 : ∀ a j, a ≠ 154 → a ≠ 155 → ¬ (a = 153 ∧ j = 4) → SA z t a j := fun a j h1 h2 h3 => (i4 a j h1 h3).tr (j2 a j h2)
  -- pieces
  obtain ⟨m3, u, ⟨k1', k2⟩, hm3⟩ := loopE (fun m p u => fn_X8_prepare_86 m (iI (p : Int)) u) (fun p u => SX u l (fun x => (cA (Cp b (-1)) (Vp c b) x p : Int)) ∧ ∀ a j, a ≠ 155 → SA t u a j) (b 168).toNat (by omega) t ⟨S0.ex fun x _ => rfl, fun a j _ => SA.rf⟩ (fun p m u hp ⟨s1, s2⟩ => by
    have hpb : (p : Int) < b 168 := by omega
    have h24 := hV.n hpb
    have Mu : RXs u c F0 F1 b := h.fr fun a j q => (fr2 a j (by unfold QXs QX at q; omega) (by unfold QXs QX at q; omega) (by unfold QXs QX at q; omega)).tr (s2 a j (by unfold QXs QX at q; omega))
    have hv := Vp_b hC hV hpb
    show ∃ s', _ ∧ fn_X8_prepare_86 (m + 1) _ _ = fn_X8_prepare_86 m _ _
    rw [fn_X8_prepare_86, Mu.2.2.2.2.2.1.1, if_neg (nle (by omega) (by omega) (by omega)), bd_o (x_isFreeP hC Mu.2.2.2.2.2.1 hV hpb)]
    unfold fn_X8_prepare_129
    rw [k1]
    by_cases hf : pc b p 6 = -1
    · have ec : Cp b (-1) p = true := decide_eq_true ⟨by omega, hf⟩
      obtain ⟨w, e, g1, g2⟩ := x_count (A := Vp c b p) (by' := 1) s1 hv.2
      rw [tr_1 hf, if_neg (show ¬ iI 1 = 0 from by decide), gd_t (iI_ix (by omega)), iI_clampN (by omega), bd_o (x_area Mu.2.2.2.2.1 hC (Mu.2.2.2.2.2.1.2.2.2.1 p hpb) (hV.2.2.1 p hpb)), ← hv.1, q_1, bv_o e]
      refine ⟨w, ⟨g1.ex fun x _ => ?_, fun a j ha => (s2 a j ha).tr (g2 a j ha)⟩, rfl⟩
      rw [cA]
      by_cases hx : x ≤ Vp c b p
      · rw [if_pos hx, if_pos ⟨ec, hx⟩]; rfl
      · rw [if_neg hx, if_neg fun q => hx q.2]; rfl
    · rw [tr_n hf, if_pos (show iI 0 = 0 from q_0.symm)]
      refine ⟨u, ⟨s1.ex fun x _ => ?_, s2⟩, rfl⟩
      rw [cA, if_neg (show ¬ (Cp b (-1) p = true ∧ x ≤ Vp c b p) from fun q => by have := of_decide_eq_true q.1; exact hf this.2)]
      rfl)
  refine ⟨u, ?_, k1', fun a j hj => (fr2 a j (by unfold sFr at hj; omega) (by unfold sFr at hj; omega) (by unfold sFr at hj; omega)).tr (k2 a j (by unfold sFr at hj; omega))⟩
  have Ms : RXs s c F0 F1 b := h.fr fun a j q => i4 a j (by unfold QXs QX at q; omega) (by unfold QXs QX at q; omega)
  have Mu : RXs u c F0 F1 b := h.fr fun a j q => (fr2 a j (by unfold QXs QX at q; omega) (by unfold QXs QX at q; omega) (by unfold QXs QX at q; omega)).tr (k2 a j (by unfold QXs QX at q; omega))
  unfold fn_X8_prepare
  rw [nm_o]
  refine (show _ = fn_X8_prepare_7 fu (iI mo) (iI g0) (iI ((0 : Nat) : Int)) (sI z 153 4 0) from by rw [z0]).trans (hm1.trans ?_)
  show fn_X8_prepare_7 (m + 1) _ _ _ _ = _
  rw [fn_X8_prepare_7, Ms.2.2.2.2.1.2.1, if_pos (yle (by omega) (by omega) (by omega))]
  refine (show _ = fn_X8_prepare_63 fu (iI ((0 : Nat) : Int)) s from by rw [z0]).trans (hm2.trans ?_)
  show fn_X8_prepare_63 (m2 + 1) _ _ = _
  rw [fn_X8_prepare_63, (j2 153 4 (by omega)).1, i2, if_pos (yle (by omega) (by omega) (by omega))]
  refine (show _ = fn_X8_prepare_86 fu (iI ((0 : Nat) : Int)) t from by rw [z0]).trans (hm3.trans ?_)
  show fn_X8_prepare_86 (m3 + 1) _ _ = _
  rw [fn_X8_prepare_86, Mu.2.2.2.2.2.1.1, if_pos (yle (by omega) (by omega) (by omega))]
theorem cA_b {C : Nat → Bool} {V : Nat → Nat} {w : Nat} : ∀ k, cA C V w k ≤ k := by
  intro k
  induction k with
  | zero => exact Nat.le_refl 0
  | succ k ih => rw [cA]; split <;> omega
theorem x_served {mo : Int} (h : RXs z c F0 F1 b) (hm : -99 ≤ mo ∧ mo ≤ 99) : ∃ w, fn_X8_servedIf (iI mo) z = some (iI (sv c b (-1) (-1) mo), w) := by
  have hn := h.2.1.1
  obtain ⟨w, e, g1, g2⟩ := x_prepare (g0 := -1) h hm (by omega)
  unfold fn_X8_servedIf
  rw [show (-1 : Int32) = iI (-1) from q_m1, bv_o e, bd_o (x_matched g1 fun x _ => by have := cA_b (C := Cp b (-1)) (V := Vp c b) (w := x) (b 168).toNat; omega)]
  exact ⟨w, rfl⟩
theorem s_served (h : RD z c F0 F1 b) : Same fn_X11_served fn_X12_served z := by
  refine qry (iI (sv c b (-1) (-1) 0)) h (fun z h => ?_) (fun z w e a k h => ff_X11_served (by unfold PS at h; show ¬ a = 155 ∧ ¬ a = 154 ∧ ¬ (a = 153 ∧ k = 4); omega) e) (fun z h => ?_) (fun z w e a k h => ff_X12_served (by unfold PS at h; show ¬ a = 198 ∧ ¬ a = 200 ∧ ¬ (a = 172 ∧ k = 55) ∧ ¬ a = 201 ∧ ¬ (a = 172 ∧ k = 56); omega) e)
  · obtain ⟨w, e⟩ := x_served (mo := 0) h.xs (by omega)
    unfold fn_X11_served
    rw [show (0 : Int32) = iI 0 from q_0, bd_o e]
    exact ⟨w, rfl⟩
  · obtain ⟨w, e⟩ := m_servedBut (g0 := -1) (p0 := -1) (mo := 0) h.ld (by rw [(ldz_S (by omega)).1, h.mo]; exact q_0) (by omega) (by omega) (by omega)
    unfold fn_X12_served
    rw [bv_o (m_load z), show (-1 : Int32) = iI (-1) from q_m1, bd_o e]
    exact ⟨w, rfl⟩
theorem s_law (v : Int32) (h : RD z c F0 F1 b) : Same (fn_X11_law v) (fn_X12_law v) z := by
  obtain ⟨n, rfl, hn⟩ := ii v
  by_cases h1 : -99 ≤ n ∧ n ≤ 99
  · obtain ⟨x, e⟩ := x_served (mo := n) h.xs h1
    have ex : fn_X11_law (iI n) z = some (iI (sv c b (-1) (-1) n), x) := by
      unfold fn_X11_law
      rw [if_neg (show ¬ iI n < -99 from by rw [show (-99 : Int32) = iI (-99) from by decide]; exact nlt hn (by omega) (by omega)), if_pos (by rw [q_99]; exact yle (by omega) (by omega) (by omega)), bd_o e]
    have h' := h.fr (w := x) fun a k g => ff_X11_law (by unfold PS at g; show ¬ a = 155 ∧ ¬ a = 154 ∧ ¬ (a = 153 ∧ k = 4); omega) ex
    have hM : RM (sI (ldz x) 172 57 (iI n)) c F0 F1 b := h'.ld.fr fun a k q => sa_I rfl (by unfold QM QR at q; omega)
    obtain ⟨w, e2⟩ := m_servedBut (g0 := -1) (p0 := -1) (mo := n) hM (by rw [sI_at, if_pos rfl]) h1 (by omega) (by omega)
    have fw : ∀ a k, ¬ (a = 200 ∨ a = 201 ∨ (a = 172 ∧ (k = 55 ∨ k = 56))) → SA (sI (ldz x) 172 57 (iI n)) w a k := fun a k g => ff_X12_servedBut (by show ¬ a = 200 ∧ ¬ (a = 172 ∧ k = 55) ∧ ¬ a = 201 ∧ ¬ (a = 172 ∧ k = 56); omega) e2
    refine ⟨_, x, sI w 172 57 0, ex, ?_, c, F0, F1, b, h'.fr fun a k g => ?_⟩
    · unfold fn_X12_law
      rw [bd_o (show fn_X12_isIn (iI n) (-99) 99 x = some (iI (tr (-99 ≤ n ∧ n ≤ 99)), x) from by rw [show (-99 : Int32) = iI (-99) from by decide, q_99]; exact m_isIn hn (by omega) (by omega)), tr_1 h1, if_neg (by decide), bv_o (m_load x), nm_o, show (-1 : Int32) = iI (-1) from q_m1, bd_o e2, nm_o]
    · by_cases g57 : a = 172 ∧ k = 57
      · obtain ⟨rfl, rfl⟩ := g57
        refine ⟨by rw [sI_at, if_pos rfl, h'.mo], ?_⟩
        exact (fw 172 57 (by omega)).2
      · unfold PS at g
        exact (((ldz_S (by omega)).tr (sa_I rfl g57)).tr (fw a k (by omega))).tr (sa_I rfl g57)
  · refine ⟨-1, z, z, ?_, ?_, c, F0, F1, b, h⟩
    · unfold fn_X11_law
      by_cases g : n < -99
      · rw [if_pos (by rw [show (-99 : Int32) = iI (-99) from by decide]; exact ylt hn (by omega) g)]
      · rw [if_neg (by rw [show (-99 : Int32) = iI (-99) from by decide]; exact nlt hn (by omega) g), if_neg (by rw [q_99]; exact nle (by omega) (by omega) (by omega))]
    · unfold fn_X12_law
      rw [bd_o (show fn_X12_isIn (iI n) (-99) 99 z = some (iI (tr (-99 ≤ n ∧ n ≤ 99)), z) from by rw [show (-99 : Int32) = iI (-99) from by decide, q_99]; exact m_isIn hn (by omega) (by omega)), tr_n h1, if_pos (show iI 0 = 0 from q_0.symm)]
end
