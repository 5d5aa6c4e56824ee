section
variable {z w : St} {c : RC} {dr hpp hdd : Int} {F0 F1 F : FO} {t0 t1 u0 u1 : Nat}
/-! x's cake, once read -/
theorem x_ftake {p0 p1 N : Nat} {fk : Nat → Nat} {fa : Nat → Int} {t : Nat} (hp : p0 + 1 < p1) (h : XF p1 z N fk fa) (hN : N ≤ 272) (ht : t ≤ 1) (h4 : z.1 p1 4 = iI (t : Int)) : ∃ w, fn_X2_takeFrom p0 p1 z = some w ∧ XF p0 w N fk fa ∧ w.1 p0 3 = z.1 p1 3 ∧ ∀ a j, ¬ (a = p0 ∧ 2 ≤ j ∧ j ≤ 4) → ¬ a = p0 + 1 → SA z w a j := by
  obtain ⟨m, s, ⟨i1, i2⟩, hm⟩ := loopE (fun m i s => fn_X2_takeFrom_2 m p0 p1 (iI (i : Int)) s) (fun i s => (∀ k, k < i → s.1 (p0 + 1) k = z.1 (p1 + 1) k) ∧ ∀ a j, ¬ a = p0 + 1 → SA z s a j) N (by omega) z ⟨fun k hk => by omega, fun _ _ _ => SA.rf⟩ (fun i m s hi ⟨i1, i2⟩ => by
    show ∃ s', _ ∧ fn_X2_takeFrom_2 (m + 1) _ _ _ _ = fn_X2_takeFrom_2 m _ _ _ _
    rw [fn_X2_takeFrom_2, (i2 p1 2 (by omega)).1, h.1, if_neg (nle (by omega) (by omega) (by omega)), gd_t (iI_ix (by omega)), gd_t (iI_ix (by omega)), nm_o, iI_clampN (by omega), k1]
    refine ⟨_, ⟨fun k hk => ?_, fun a j p => (i2 a j p).tr (sa_Ia rfl p)⟩, rfl⟩
    rw [sI_at]
    by_cases e : k = i
    · rw [if_pos e, (i2 (p1 + 1) i (by omega)).1, e]
    · rw [if_neg e]; exact i1 k (by omega))
  have e4 : s.1 p1 4 = iI (t : Int) := (i2 p1 4 (by omega)).1.trans h4
  have hzok : zok (iI (t : Int)) = true := by
    have : t = 0 ∨ t = 1 := by omega
    rcases this with rfl | rfl <;> decide
  refine ⟨sI (sI (sI s p0 2 (iI (N : Int))) p0 3 (s.1 p1 3)) p0 4 (iI (t : Int)), ?_, ⟨?_, fun k hk => ?_⟩, ?_, fun a j p1' p2 => (((i2 a j p2).tr (sa_I rfl (by omega))).tr (sa_I rfl (by omega))).tr (sa_I rfl (by omega))⟩
  · unfold fn_X2_takeFrom
    refine (show _ = fn_X2_takeFrom_2 fu p0 p1 (iI ((0 : Nat) : Int)) z from by rw [z0]).trans (hm.trans ?_)
    show fn_X2_takeFrom_2 (m + 1) _ _ _ _ = _
    have g1 : (sI s p0 2 (iI (N : Int))).1 p1 3 = s.1 p1 3 := (sa_Ia rfl (by omega)).1
    have g2 : (sI (sI s p0 2 (iI (N : Int))) p0 3 (s.1 p1 3)).1 p1 4 = iI (t : Int) := by rw [(sa_Ia (z := sI s p0 2 (iI (N : Int))) (a := p1) (k := 4) rfl (by omega)).1, (sa_Ia (z := s) (a := p1) (k := 4) rfl (by omega)).1, e4]
    rw [fn_X2_takeFrom_2, (i2 p1 2 (by omega)).1, h.1, if_pos (i_refl _), nm_o, g1, nm_o, g2, gd_t hzok, nm_o]
  · rw [sI_at, if_neg (by omega), sI_at, if_neg (by omega), sI_at, if_pos rfl]
  · rw [(sa_Ia (z := sI (sI s p0 2 (iI (N : Int))) p0 3 (s.1 p1 3)) (a := p0 + 1) (k := k) rfl (by omega)).1, (sa_Ia (z := sI s p0 2 (iI (N : Int))) (a := p0 + 1) (k := k) rfl (by omega)).1, (sa_Ia (z := s) (a := p0 + 1) (k := k) rfl (by omega)).1, i1 k hk]
    exact h.2 k hk
  · rw [sI_at, if_neg (by omega), sI_at, if_pos rfl, (i2 p1 3 (by omega)).1]
theorem x_fto {p0 p1 f t u : Nat} (hp : p0 + 1 < p1) (h : FXr p1 f z F t u) : ∃ w, fn_X2_takeFrom p0 p1 z = some w ∧ XFo p0 f w F ∧ w.1 p0 3 = iI (u : Int) ∧ ∀ a j, ¬ (a = p0 ∧ 2 ≤ j ∧ j ≤ 4) → ¬ a = p0 + 1 → SA z w a j := by
  obtain ⟨h1, h2, h3, h4, h5, h6⟩ := h
  have ht : t ≤ 1 := by omega
  have hl := h5.len
  rcases h1 with ⟨e, hx⟩ | ⟨e, hx⟩
  · obtain ⟨w, a1, a2, a3, a4⟩ := x_ftake hp hx (by omega) ht h2
    exact ⟨w, a1, Or.inl ⟨e, a2⟩, a3.trans h3, a4⟩
  · obtain ⟨w, a1, a2, a3, a4⟩ := x_ftake hp hx hl ht h2
    exact ⟨w, a1, Or.inr ⟨e, a2⟩, a3.trans h3, a4⟩
theorem x_rtake (hX : DXr z c dr hpp hdd) (hC : VC c) (h0 : FXr 26 0 z F0 t0 u0) (h1 : FXr 29 1 z F1 t1 u1) : ∃ w, fn_X7_takeFrom 2 17 z = some w ∧ XR w c ∧ XFo 11 0 w F0 ∧ XFo 14 1 w F1 ∧ w.1 11 3 = iI (u0 : Int) ∧ w.1 14 3 = iI (u1 : Int) ∧ w.1 2 14 = iI dr ∧ ∀ a j, ¬ (2 ≤ a ∧ a ≤ 15) → SA z w a j := by
  obtain ⟨y1, y2, y3, y4, y5, y6, y7, y8⟩ := hX
  have hC0 := hC.1
  have hC1 := hC.2.1
  -- the tiers
  obtain ⟨m, s, ⟨i1, i2⟩, hm⟩ := loopE (fun m i s => fn_X7_takeFrom_10 m 2 17 (iI (i : Int)) s) (fun i s => (∀ k, k < i → s.1 4 k = z.1 19 k ∧ s.1 5 k = z.1 20 k ∧ s.1 6 k = z.1 21 k) ∧ ∀ a j, ¬ (4 ≤ a ∧ a ≤ 6) → SA (sI z 2 0 (iI (c 6 0))) s a j) 3 (by omega) (sI z 2 0 (iI (c 6 0))) ⟨fun k hk => by omega, fun _ _ _ => SA.rf⟩ (fun i m s hi ⟨i1, i2⟩ => by
    show ∃ s', _ ∧ fn_X7_takeFrom_10 (m + 1) _ _ _ _ = fn_X7_takeFrom_10 m _ _ _ _
    rw [fn_X7_takeFrom_10, q_3, if_neg (nle (by omega) (by omega) (by omega)), gd_t (iI_ix (by omega)), gd_t (iI_ix (by omega)), nm_o, iI_clampN (by omega), gd_t (iI_ix (by omega)), gd_t (iI_ix (by omega)), nm_o, gd_t (iI_ix (by omega)), gd_t (iI_ix (by omega)), nm_o, k1]
    refine ⟨_, ⟨fun k hk => ?_, fun a j p => (((i2 a j p).tr (sa_Ia rfl (by omega))).tr (sa_Ia rfl (by omega))).tr (sa_Ia rfl (by omega))⟩, rfl⟩
    have e19 : s.1 19 i = z.1 19 i := (i2 19 i (by omega)).1.trans (sa_Ia rfl (by omega)).1
    have e20 : s.1 20 i = z.1 20 i := (i2 20 i (by omega)).1.trans (sa_Ia rfl (by omega)).1
    have e21 : s.1 21 i = z.1 21 i := (i2 21 i (by omega)).1.trans (sa_Ia rfl (by omega)).1
    by_cases e : k = i
    · rw [e]; simp [sI]; exact ⟨e19, e20, e21⟩
    · simp [sI, e]; exact i1 k (by omega))
  -- the guests
  have hs5 : s.1 17 5 = iI (c 6 1) := (i2 17 5 (by omega)).1.trans ((sa_Ia rfl (by omega)).1.trans y2)
  obtain ⟨m2, t, ⟨j1, j2⟩, hm2⟩ := loopE (fun m i s => fn_X7_takeFrom_67 m 2 17 (iI (i : Int)) s) (fun i t => (∀ k, k < i → t.1 8 k = z.1 23 k ∧ t.1 9 k = z.1 24 k ∧ t.1 10 k = z.1 25 k) ∧ ∀ a j, ¬ (8 ≤ a ∧ a ≤ 10) → SA (sI s 2 5 (iI (c 6 1))) t a j) 6 (by omega) (sI s 2 5 (iI (c 6 1))) ⟨fun k hk => by omega, fun _ _ _ => SA.rf⟩ (fun i m t hi ⟨j1, j2⟩ => by
    show ∃ s', _ ∧ fn_X7_takeFrom_67 (m + 1) _ _ _ _ = fn_X7_takeFrom_67 m _ _ _ _
    rw [fn_X7_takeFrom_67, q_6, if_neg (nle (by omega) (by omega) (by omega)), gd_t (iI_ix (by omega)), gd_t (iI_ix (by omega)), nm_o, iI_clampN (by omega), gd_t (iI_ix (by omega)), gd_t (iI_ix (by omega)), nm_o, gd_t (iI_ix (by omega)), gd_t (iI_ix (by omega)), nm_o, k1]
    refine ⟨_, ⟨fun k hk => ?_, fun a j p => (((j2 a j p).tr (sa_Ia rfl (by omega))).tr (sa_Ia rfl (by omega))).tr (sa_Ia rfl (by omega))⟩, rfl⟩
    have e19 : t.1 23 i = z.1 23 i := (j2 23 i (by omega)).1.trans ((sa_Ia rfl (by omega)).1.trans ((i2 23 i (by omega)).1.trans (sa_Ia rfl (by omega)).1))
    have e20 : t.1 24 i = z.1 24 i := (j2 24 i (by omega)).1.trans ((sa_Ia rfl (by omega)).1.trans ((i2 24 i (by omega)).1.trans (sa_Ia rfl (by omega)).1))
    have e21 : t.1 25 i = z.1 25 i := (j2 25 i (by omega)).1.trans ((sa_Ia rfl (by omega)).1.trans ((i2 25 i (by omega)).1.trans (sa_Ia rfl (by omega)).1))
    by_cases e : k = i
    · rw [e]; simp [sI]; exact ⟨e19, e20, e21⟩
    · simp [sI, e]; exact j1 k (by omega))
  have kt : ∀ a j, ¬ (2 ≤ a ∧ a ≤ 15) → SA z t a j := fun a j p => (((sa_Ia rfl (by omega)).tr (i2 a j (by omega))).tr (sa_Ia rfl (by omega))).tr (j2 a j (by omega))
  obtain ⟨x1, a1, a2, a3, a4⟩ := x_fto (p0 := 11) (p1 := 26) (by omega) (h0.fr fun a j p => kt a j (by omega))
  obtain ⟨x2, b1, b2, b3, b4⟩ := x_fto (p0 := 14) (p1 := 29) (by omega) ((h1.fr fun a j p => kt a j (by omega)).fr fun a j p => a4 a j (by omega) (by omega))
  have e12 : x2.1 17 12 = iI (c 6 2) := by rw [(b4 17 12 (by omega) (by omega)).1, (a4 17 12 (by omega) (by omega)).1, (kt 17 12 (by omega)).1, y3]
  have e14 : x2.1 17 14 = iI dr := by rw [(b4 17 14 (by omega) (by omega)).1, (a4 17 14 (by omega) (by omega)).1, (kt 17 14 (by omega)).1, y5]
  refine ⟨sI (sI x2 2 12 (iI (c 6 2))) 2 14 (iI dr), ?_, ⟨?_, ?_, ?_, fun k hk => ?_, fun k hk => ?_⟩, ?_, ?_, ?_, ?_, by rw [sI_at, if_pos rfl], fun a j p => (((kt a j p).tr (a4 a j (by omega) (by omega))).tr (b4 a j (by omega) (by omega))).tr ((sa_Ia rfl (by omega)).tr (sa_Ia rfl (by omega)))⟩
  · unfold fn_X7_takeFrom
    rw [y1, nm_o]
    refine (show _ = fn_X7_takeFrom_10 fu 2 17 (iI ((0 : Nat) : Int)) (sI z 2 0 (iI (c 6 0))) from by rw [z0]).trans (hm.trans ?_)
    show fn_X7_takeFrom_10 (m + 1) _ _ _ _ = _
    rw [fn_X7_takeFrom_10, q_3, if_pos (show iI 3 ≤ iI ((3 : Nat) : Int) from by decide), hs5, nm_o]
    refine (show _ = fn_X7_takeFrom_67 fu 2 17 (iI ((0 : Nat) : Int)) (sI s 2 5 (iI (c 6 1))) from by rw [z0]).trans (hm2.trans ?_)
    show fn_X7_takeFrom_67 (m2 + 1) _ _ _ _ = _
    rw [fn_X7_takeFrom_67, q_6, if_pos (show iI 6 ≤ iI ((6 : Nat) : Int) from by decide), bv_o (show fn_X2_takeFrom (2 + 9) (17 + 9) t = some x1 from a1), bv_o (show fn_X2_takeFrom (2 + 12) (17 + 12) x1 = some x2 from b1), e12, nm_o, (sa_Ia (z := x2) (a := 17) (k := 14) rfl (by omega)).1, e14, nm_o]
  · rw [sI_at, if_neg (by omega), sI_at, if_neg (by omega), (b4 2 0 (by omega) (by omega)).1, (a4 2 0 (by omega) (by omega)).1, (j2 2 0 (by omega)).1, sI_at, if_neg (by omega), (i2 2 0 (by omega)).1, sI_at, if_pos rfl]
  · rw [sI_at, if_neg (by omega), sI_at, if_neg (by omega), (b4 2 5 (by omega) (by omega)).1, (a4 2 5 (by omega) (by omega)).1, (j2 2 5 (by omega)).1, sI_at, if_pos rfl]
  · rw [sI_at, if_neg (by omega), sI_at, if_pos rfl]
  · have r : ∀ a, 4 ≤ a ∧ a ≤ 6 → (sI (sI x2 2 12 (iI (c 6 2))) 2 14 (iI dr)).1 a k = s.1 a k := fun a ha => by rw [(sa_Ia (z := sI x2 2 12 (iI (c 6 2))) (a := a) (k := k) rfl (by omega)).1, (sa_Ia (z := x2) (a := a) (k := k) rfl (by omega)).1, (b4 a k (by omega) (by omega)).1, (a4 a k (by omega) (by omega)).1, (j2 a k (by omega)).1, (sa_Ia (z := s) (a := a) (k := k) rfl (by omega)).1]
    rw [r 4 (by omega), r 5 (by omega), r 6 (by omega), (i1 k (by omega)).1, (i1 k (by omega)).2.1, (i1 k (by omega)).2.2]
    exact y7 k hk
  · have r : ∀ a, 8 ≤ a ∧ a ≤ 10 → (sI (sI x2 2 12 (iI (c 6 2))) 2 14 (iI dr)).1 a k = t.1 a k := fun a ha => by rw [(sa_Ia (z := sI x2 2 12 (iI (c 6 2))) (a := a) (k := k) rfl (by omega)).1, (sa_Ia (z := x2) (a := a) (k := k) rfl (by omega)).1, (b4 a k (by omega) (by omega)).1, (a4 a k (by omega) (by omega)).1]
    rw [r 8 (by omega), r 9 (by omega), r 10 (by omega), (j1 k (by omega)).1, (j1 k (by omega)).2.1, (j1 k (by omega)).2.2]
    exact y8 k hk
  · exact (a2.fr fun a j p => b4 a j (by omega) (by omega)).fr fun a j p => (sa_Ia rfl (by omega)).tr (sa_Ia rfl (by omega))
  · exact b2.fr fun a j p => (sa_Ia rfl (by omega)).tr (sa_Ia rfl (by omega))
  · rw [(sa_Ia (z := sI x2 2 12 (iI (c 6 2))) (a := 11) (k := 3) rfl (by omega)).1, (sa_Ia (z := x2) (a := 11) (k := 3) rfl (by omega)).1, (b4 11 3 (by omega) (by omega)).1, a3]
  · rw [(sa_Ia (z := sI x2 2 12 (iI (c 6 2))) (a := 14) (k := 3) rfl (by omega)).1, (sa_Ia (z := x2) (a := 14) (k := 3) rfl (by omega)).1, b3]
/-! the first board -/
def b0r (c : RC) (dr : Int) : BD := fun j => if j = 168 then c 6 0 else if j = 169 then 0 else if j = 170 then dr else if j % 7 = 0 then ((j / 7 : Nat) : Int) else if j % 7 = 3 then c 0 (j / 7) else if j % 7 = 4 then c 1 (j / 7) else if j % 7 = 6 then -1 else 0
theorem b0_s : b0r c dr 168 = c 6 0 ∧ b0r c dr 169 = 0 ∧ b0r c dr 170 = dr := ⟨rfl, rfl, rfl⟩
theorem b0_p {t : Nat} (ht : t < 24) : pc (b0r c dr) t 0 = (t : Int) ∧ pc (b0r c dr) t 1 = 0 ∧ pc (b0r c dr) t 2 = 0 ∧ pc (b0r c dr) t 3 = c 0 t ∧ pc (b0r c dr) t 4 = c 1 t ∧ pc (b0r c dr) t 5 = 0 ∧ pc (b0r c dr) t 6 = -1 := by
  have key : ∀ f, f < 7 → pc (b0r c dr) t f = if f = 0 then (t : Int) else if f = 3 then c 0 t else if f = 4 then c 1 t else if f = 6 then -1 else 0 := fun f hf => by
    unfold pc b0r
    rw [if_neg (by omega), if_neg (by omega), if_neg (by omega), show (7 * t + f) % 7 = f from by omega, show (7 * t + f) / 7 = t from by omega]
  refine ⟨?_, ?_, ?_, ?_, ?_, ?_, ?_⟩ <;> rw [key _ (by omega)] <;> rfl
theorem b0_hp (hC : VC c) (g : Nat) : hp (b0r c dr) (g : Int) = -1 := by
  have h0 := hC.1
  have key : ∀ k : Nat, k ≤ 3 → pof (b0r c dr) (g : Int) k = -1 := by
    intro k
    induction k with
    | zero => intro _; rfl
    | succ k ih =>
      intro hk
      rw [pof, (b0_p (c := c) (dr := dr) (t := k) (by omega)).2.2.2.2.2.2, if_neg (by omega)]
      exact ih (by omega)
  unfold hp
  rw [b0_s.1]
  exact key _ (by omega)
theorem VB_0 (hC : VC c) (hd : 0 ≤ dr ∧ dr ≤ 999) : VB c (b0r c dr) := by
  have h0 := hC.1
  have h1 := hC.2.1
  refine ⟨by rw [b0_s.1]; omega, by rw [b0_s.2.2]; omega, fun p hp => ?_, fun p q hp hq hne e => ?_, fun p q hp hq hne e => ?_⟩
  · rw [b0_s.1] at hp
    obtain ⟨e0, e1, e2, e3, e4, e5, e6⟩ := b0_p (c := c) (dr := dr) (t := p) (by omega)
    have hcp := hC.2.2.2.1 p hp
    unfold VP
    rw [e0, e1, e2, e3, e4, e5, e6, Int.toNat_natCast]
    omega
  · rw [b0_s.1] at hp
    exact (b0_p (c := c) (dr := dr) (t := p) (by omega)).2.2.2.2.2.2
  · rw [b0_s.1] at hp hq
    rw [(b0_p (c := c) (dr := dr) (t := p) (by omega)).1, (b0_p (c := c) (dr := dr) (t := q) (by omega)).1] at e
    omega
theorem x_layW {p0 : Nat} {v1 v2 v3 : Int32} : ∃ w, fn_X9_layWhole p0 v1 v2 v3 z = some w ∧ w.1 p0 0 = v1 ∧ w.1 p0 1 = 0 ∧ w.1 p0 2 = 0 ∧ w.1 p0 3 = v2 ∧ w.1 p0 4 = v3 ∧ w.1 p0 5 = 0 ∧ w.1 p0 6 = -1 ∧ ∀ a j, ¬ a = p0 → SA z w a j := by
  unfold fn_X9_layWhole
  rw [nm_o, nm_o, nm_o, nm_o, nm_o, nm_o, nm_o]
  refine ⟨_, rfl, ?_, ?_, ?_, ?_, ?_, ?_, ?_, fun a j p => ((((((sa_Ia rfl p).tr (sa_Ia rfl p)).tr (sa_Ia rfl p)).tr (sa_Ia rfl p)).tr (sa_Ia rfl p)).tr (sa_Ia rfl p)).tr (sa_Ia rfl p)⟩ <;> simp [sI]
theorem x_lay (hR : XR z c) (hC : VC c) (h14 : z.1 2 14 = iI dr) : ∃ w, fn_X1_lay 34 2 z = some w ∧ XB 34 w (b0r c dr) ∧ ∀ a j, ¬ (34 ≤ a ∧ a ≤ 60) → SA z w a j := by
  have h0 := hC.1
  obtain ⟨m, s, ⟨i1, i2⟩, hm⟩ := loopE (fun m i s => fn_X1_lay_2 m 34 2 (iI (i : Int)) s) (fun i s => (∀ t, t < i → XS (36 + t) s (pc (b0r c dr) t)) ∧ ∀ a j, ¬ (36 ≤ a ∧ a < 60) → SA z s a j) (c 6 0).toNat (by omega) z ⟨fun t ht => by omega, fun _ _ _ => SA.rf⟩ (fun i m s hi ⟨i1, i2⟩ => by
    have hr := hR.2.2.2.1 i (by omega)
    obtain ⟨w, a1, b0, b1, b2, b3, b4, b5, b6, a2⟩ := x_layW (z := s) (p0 := 36 + i) (v1 := iI (i : Int)) (v2 := iI (c 0 i)) (v3 := iI (c 1 i))
    obtain ⟨e0, e1, e2, e3, e4, e5, e6⟩ := b0_p (c := c) (dr := dr) (t := i) (by omega)
    show ∃ s', _ ∧ fn_X1_lay_2 (m + 1) _ _ _ _ = fn_X1_lay_2 m _ _ _ _
    rw [fn_X1_lay_2, (i2 2 0 (by omega)).1, hR.1, if_neg (nle (by omega) (by omega) (by omega)), gd_t (iI_ix (by omega)), gd_t (iI_ix (by omega)), gd_t (iI_ix (by omega)), iI_clampN (by omega), (i2 (2 + 2) i (by omega)).1, (i2 (2 + 3) i (by omega)).1, show z.1 (2 + 2) i = iI (c 0 i) from hr.1, show z.1 (2 + 3) i = iI (c 1 i) from hr.2.1, show 34 + 1 + 1 + i = 36 + i from by omega, bv_o a1, k1]
    refine ⟨w, ⟨fun t ht => ?_, fun a j p => (i2 a j p).tr (a2 a j (by omega))⟩, rfl⟩
    by_cases e : t = i
    · rw [e]
      intro f hf
      have hf' : f = 0 ∨ f = 1 ∨ f = 2 ∨ f = 3 ∨ f = 4 ∨ f = 5 ∨ f = 6 := by omega
      rcases hf' with rfl | rfl | rfl | rfl | rfl | rfl | rfl
      · rw [b0, e0]
      · rw [b1, e1, q_0]
      · rw [b2, e2, q_0]
      · rw [b3, e3]
      · rw [b4, e4]
      · rw [b5, e5, q_0]
      · rw [b6, e6, q_m1]
    · exact (i1 t (by omega)).fr fun k => a2 _ k (by omega))
  obtain ⟨m2, t, ⟨j1, j2⟩, hm2⟩ := loopE (fun m i t => fn_X1_lay_48 m 34 2 (iI (i : Int)) t) (fun i t => (∀ k, k < i → t.1 60 k = -1) ∧ ∀ a j, ¬ a = 60 → SA (sI s 34 2 (iI (c 6 0))) t a j) 6 (by omega) (sI s 34 2 (iI (c 6 0))) ⟨fun k hk => by omega, fun _ _ _ => SA.rf⟩ (fun i m t hi ⟨j1, j2⟩ => by
    show ∃ s', _ ∧ fn_X1_lay_48 (m + 1) _ _ _ _ = fn_X1_lay_48 m _ _ _ _
    rw [fn_X1_lay_48, q_6, if_neg (nle (by omega) (by omega) (by omega)), gd_t (iI_ix (by omega)), nm_o, iI_clampN (by omega), k1]
    refine ⟨_, ⟨fun k hk => ?_, fun a j p => (j2 a j p).tr (sa_Ia rfl (by omega))⟩, rfl⟩
    rw [sI_at]
    by_cases e : k = i
    · rw [if_pos e]
    · rw [if_neg e]; exact j1 k (by omega))
  have t14 : t.1 2 14 = iI dr := by rw [(j2 2 14 (by omega)).1, (sa_Ia (z := s) (a := 2) (k := 14) rfl (by omega)).1, (i2 2 14 (by omega)).1, h14]
  refine ⟨sI (sI t 34 3 0) 34 4 (iI dr), ?_, ⟨?_, ?_, ?_, fun p hp => ?_, fun g hg => ?_⟩, fun a j p => ((((i2 a j (by omega)).tr (sa_Ia rfl (by omega))).tr (j2 a j (by omega))).tr (sa_Ia rfl (by omega))).tr (sa_Ia rfl (by omega))⟩
  · unfold fn_X1_lay
    refine (show _ = fn_X1_lay_2 fu 34 2 (iI ((0 : Nat) : Int)) z from by rw [z0]).trans (hm.trans ?_)
    show fn_X1_lay_2 (m + 1) _ _ _ _ = _
    rw [fn_X1_lay_2, (i2 2 0 (by omega)).1, hR.1, if_pos (yle (by omega) (by omega) (by omega)), nm_o]
    refine (show _ = fn_X1_lay_48 fu 34 2 (iI ((0 : Nat) : Int)) (sI s 34 2 (iI (c 6 0))) from by rw [z0]).trans (hm2.trans ?_)
    show fn_X1_lay_48 (m2 + 1) _ _ _ _ = _
    rw [fn_X1_lay_48, q_6, if_pos (show iI 6 ≤ iI ((6 : Nat) : Int) from by decide), nm_o, (sa_Ia (z := t) (a := 2) (k := 14) rfl (by omega)).1, t14, nm_o]
  · rw [sI_at, if_neg (by omega), sI_at, if_neg (by omega), (j2 34 2 (by omega)).1, sI_at, if_pos rfl, b0_s.1]
  · rw [sI_at, if_neg (by omega), sI_at, if_pos rfl, b0_s.2.1, q_0]
  · rw [sI_at, if_pos rfl, b0_s.2.2]
  · rw [b0_s.1] at hp
    exact (i1 p (by omega)).fr fun k => (((sa_Ia rfl (by omega)).tr (j2 _ k (by omega))).tr (sa_Ia rfl (by omega))).tr (sa_Ia rfl (by omega))
  · rw [(sa_Ia (z := sI t 34 3 0) (a := 60) (k := g) rfl (by omega)).1, (sa_Ia (z := t) (a := 60) (k := g) rfl (by omega)).1, j1 g hg, b0_hp hC g, q_m1]
/-- the rest of x's cake -/
theorem x_cake47 {v : Int32} (hv : z.1 2 0 = v) : ∃ w, fn_X11_cake_47 fu 0 z = some (v, w) ∧ (∀ i, i < 3 → w.1 (62 + 27 * i) 5 = 0) ∧ w.1 146 9 = 0 ∧ w.1 146 10 = 0 ∧ w.1 162 11 = 0 ∧ w.1 0 14 = 0 ∧ ∀ a j, ¬ ((a = 62 ∨ a = 89 ∨ a = 116) ∧ j = 5) → ¬ (a = 146 ∧ (j = 9 ∨ j = 10)) → ¬ (a = 162 ∧ j = 11) → ¬ (a = 0 ∧ j = 14) → SA z w a j := by
  obtain ⟨m, s, ⟨i1, i2⟩, hm⟩ := loopE (fun m i s => fn_X11_cake_47 m (iI (i : Int)) s) (fun i s => (∀ k, k < i → s.1 (62 + 27 * k) 5 = 0) ∧ ∀ a j, ¬ ((a = 62 ∨ a = 89 ∨ a = 116) ∧ j = 5) → SA z s a j) 3 (by omega) z ⟨fun k hk => by omega, fun _ _ _ => SA.rf⟩ (fun i m s hi ⟨i1, i2⟩ => by
    show ∃ s', _ ∧ fn_X11_cake_47 (m + 1) _ _ = fn_X11_cake_47 m _ _
    rw [fn_X11_cake_47, q_3, if_neg (nle (by omega) (by omega) (by omega)), gd_t (iI_ix (by omega)), nm_o, iI_clampN (by omega), k1]
    refine ⟨_, ⟨fun k hk => ?_, fun a j p => (i2 a j p).tr (sa_I rfl (by omega))⟩, rfl⟩
    by_cases e : k = i
    · rw [e, show 62 + 27 * i = 61 + 1 + 27 * i from by omega, sI_at, if_pos rfl]
    · rw [(sa_I (z := s) (a := 62 + 27 * k) (k := 5) rfl (by omega)).1]; exact i1 k (by omega))
  refine ⟨sI (sI (sI (sI s 146 9 0) 146 10 0) 162 11 0) 0 14 0, ?_, fun i hi => ?_, ?_, ?_, ?_, ?_, fun a j p1 p2 p3 p4 => ((((i2 a j p1).tr (sa_I rfl (by omega))).tr (sa_I rfl (by omega))).tr (sa_I rfl p3)).tr (sa_I rfl p4)⟩
  · refine (show _ = fn_X11_cake_47 fu (iI ((0 : Nat) : Int)) z from by rw [z0]).trans (hm.trans ?_)
    show fn_X11_cake_47 (m + 1) _ _ = _
    rw [fn_X11_cake_47, q_3, if_pos (show iI 3 ≤ iI ((3 : Nat) : Int) from by decide)]
    unfold fn_X0_forget fn_X4_forget
    rw [nm_o, nm_o, bv_e, nm_o, bv_e, nm_o]
    have e : (sI (sI (sI (sI s 146 9 0) 146 10 0) 162 11 0) 0 14 0).1 2 0 = v := by
      rw [← hv, ← (i2 2 0 (by omega)).1]
      simp [sI]
    rw [e]
  · rw [(sa_Ia (z := sI (sI (sI s 146 9 0) 146 10 0) 162 11 0) (a := 62 + 27 * i) (k := 5) rfl (by omega)).1, (sa_Ia (z := sI (sI s 146 9 0) 146 10 0) (a := 62 + 27 * i) (k := 5) rfl (by omega)).1, (sa_Ia (z := sI s 146 9 0) (a := 62 + 27 * i) (k := 5) rfl (by omega)).1, (sa_Ia (z := s) (a := 62 + 27 * i) (k := 5) rfl (by omega)).1]
    exact i1 i hi
  all_goals simp [sI]
end
