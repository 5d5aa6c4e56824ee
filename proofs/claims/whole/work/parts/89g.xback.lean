section
variable {z : St} {c : RC} {F0 F1 : FO} {b : BD} {v : Nat → Int}
theorem bPut_self (b : BD) (p : Nat) (g : Int) (h : pc b p 6 = g) : bPut b p g = b := by
  funext j
  unfold bPut up
  by_cases hj : j = 7 * p + 6
  · rw [if_pos hj, hj]; exact h.symm
  · rw [if_neg hj]
theorem bPut_put (b : BD) (p : Nat) (x y : Int) : bPut (bPut b p x) p y = bPut b p y := by
  funext j
  unfold bPut up
  by_cases hj : j = 7 * p + 6
  · rw [if_pos hj, if_pos hj]
  · rw [if_neg hj, if_neg hj, if_neg hj]
theorem bPut_com (b : BD) {p q : Nat} (h : p ≠ q) (x y : Int) : bPut (bPut b p x) q y = bPut (bPut b q y) p x := by
  funext j
  unfold bPut up
  by_cases h1 : j = 7 * p + 6
  · rw [if_neg (by omega), if_pos h1, if_pos h1]
  · by_cases h2 : j = 7 * q + 6
    · simp only [if_neg h1, if_pos h2]
    · simp only [if_neg h1, if_neg h2]
theorem x_rejoin {p w : Nat} {k : Int} (hV : VB c b) (hC : VC c) (h : canS b p w k) (hB : XB 34 z (bCut c F1 b p w k)) : ∃ u, fn_X1_rejoin 34 (iI p) (iI w) z = some u ∧ u.1 34 2 = iI (b 168) ∧ (∀ q : Nat, (q : Int) < b 168 → XS (36 + q) u (pc b q)) ∧ (∀ a j, ¬ (a = 34 ∧ j = 2) → ¬ (36 ≤ a ∧ a ≤ 59) → SA z u a j) := by
  have hn := hV.1
  have hk := h
  obtain ⟨h1, h2, h3, h4, h5, h6⟩ := hk
  have hp24 := hV.n h1
  have hs := (hV.2.2.1 p h1).s hC
  obtain ⟨e1, e2, e3⟩ := bCut_168 (c := c) (F1 := F1) h hn.1
  generalize hN : (b 168).toNat = N
  have hNb : (N : Int) = b 168 := by omega
  have f2 : z.1 34 2 = iI (b 168 + 1) := by rw [hB.1, e1]
  have hSn := hB.2.2.2.1 N (by rw [e1]; omega)
  have hSp := hB.2.2.2.1 p (by rw [e1]; omega)
  unfold fn_X1_rejoin
  rw [bd_o (x_isPc f2 (by omega) (by omega)), tr_1 (by omega), if_neg (by decide), f2, q_1, iI_sub, if_neg (nle (by omega) (by omega) (by omega)), nm_o, gd_t (iI_ix (by omega)), sI_at, if_pos rfl, show b 168 + 1 - 1 = b 168 from by omega, gd_t (iI_ix (by omega)), iI_clamp (by omega), hN, iI_clampN (by omega)]
  generalize ez : sI z 34 2 (iI (b 168)) = z1
  have k1' : ∀ a j, a ≠ 34 → SA z z1 a j := fun a j ha => sa_Ia ez.symm ha
  have vn : ∀ f, f < 5 → z1.1 (36 + N) f = iI (kb (pc b p) w k f) := fun f hf => by
    rw [(k1' _ f (by omega)).1, show 36 + N = 34 + 2 + N from by omega, hSn f (by omega), bCut_pc h hn.1 (by omega) (by omega), if_neg (by omega), goC_kb h hn.1 hNb (by omega)]
  have vp : ∀ f, f < 7 → z1.1 (36 + p) f = iI (ka (pc b p) w k f) := fun f hf => by
    rw [(k1' _ f (by omega)).1, show 36 + p = 34 + 2 + p from by omega, hSp f (by omega), bCut_pc h hn.1 (by omega) (by omega), if_neg (by omega), goC_ka h hn.1 (by omega)]
  have oth : ∀ u : St, (∀ a j, a ≠ 36 + p → SA z1 u a j) → (∀ f, f < 7 → u.1 (36 + p) f = iI (pc b p f)) → u.1 34 2 = iI (b 168) ∧ (∀ q : Nat, (q : Int) < b 168 → XS (36 + q) u (pc b q)) ∧ (∀ a j, ¬ (a = 34 ∧ j = 2) → ¬ (36 ≤ a ∧ a ≤ 59) → SA z u a j) := by
    intro u hu hup
    refine ⟨?_, fun q hq f hf => ?_, fun a j ha hb => ?_⟩
    · rw [(hu 34 2 (by omega)).1, ← ez, sI_at, if_pos rfl]
    · by_cases hqp : q = p
      · rw [hqp]; exact hup f hf
      · have := hV.n hq
        rw [(hu (36 + q) f (by omega)).1, (k1' _ f (by omega)).1, show 36 + q = 34 + 2 + q from by omega, hB.2.2.2.1 q (by rw [e1]; omega) f hf, bCut_pc h hn.1 (by omega) hf, if_neg (by omega), goC_oth h hn.1 hq hqp hf]
    · exact (sa_I ez.symm (by omega)).tr (hu a j (by omega))
  have hw : w = 0 ∨ w = 1 := by omega
  rcases hw with rfl | rfl
  · have ex : fn_X9_extent (34 + 1 + 1 + N) (iI ((0 : Nat) : Int)) z1 = some (iI (pc b p 3 - k), z1) := by
      unfold fn_X9_extent
      rw [if_pos z0, show 34 + 1 + 1 + N = 36 + N from by omega, vn 3 (by omega)]
      rfl
    rw [bd_o ex]
    unfold fn_X9_growBy
    rw [if_pos z0, nm_o, bv_e, show 34 + 1 + 1 + p = 36 + p from by omega, vp 3 (by omega), show ka (pc b p) 0 k 3 = k from rfl, iI_add, show k + (pc b p 3 - k) = pc b p 3 from by omega]
    refine ⟨_, rfl, oth _ (fun a j ha => sa_Ia rfl ha) (fun f hf => ?_)⟩
    rw [sI_at]
    by_cases hf3 : f = 3
    · rw [if_pos hf3, hf3]
    · rw [if_neg hf3, vp f hf, ka, if_neg (by omega)]
  · have ex : fn_X9_extent (34 + 1 + 1 + N) (iI ((1 : Nat) : Int)) z1 = some (iI (pc b p 4 - k), z1) := by
      unfold fn_X9_extent
      rw [if_neg (by decide), show 34 + 1 + 1 + N = 36 + N from by omega, vn 4 (by omega)]
      rfl
    rw [bd_o ex]
    unfold fn_X9_growBy
    rw [if_neg (by decide), nm_o, bv_e, show 34 + 1 + 1 + p = 36 + p from by omega, vp 4 (by omega), show ka (pc b p) 1 k 4 = k from rfl, iI_add, show k + (pc b p 4 - k) = pc b p 4 from by omega]
    refine ⟨_, rfl, oth _ (fun a j ha => sa_Ia rfl ha) (fun f hf => ?_)⟩
    rw [sI_at]
    by_cases hf3 : f = 4
    · rw [if_pos hf3, hf3]
    · rw [if_neg hf3, vp f hf, ka, if_neg (by omega)]
theorem x_reverse {i : Nat} {b' : BD} (hi : i < 40) (hC : VC c) (hV : VB c b) (hV' : VB c b') (hB : XB 34 z b') (hA : ACT c F1 (ent z i) b b') : ∃ w, fn_X0_reverse (iI i) z = some w ∧ XB 34 w b ∧ ∀ a k, NC a k → SA z w a k := by
  unfold fn_X0_reverse
  rw [gd_t (iI_ix (by omega)), iI_clampN (by omega)]
  rcases hA with ⟨p, w, k, a0, a1, a2, a3, a4, a5, h, rfl⟩ | ⟨p, g, a0, a1, a2, h1, h2, h3, h4, rfl⟩ | ⟨p, g, a0, a1, a2, h1, h2, h3, rfl⟩ | ⟨g, o, p, q, a0, a1, a2, h1, h2, h3, h4, h5, h6, h7, rfl⟩
  · obtain ⟨u, e, u2, up, uk⟩ := x_rejoin hV hC h hB
    rw [show z.1 147 i = 0 from a0, if_pos rfl, gd_t (iI_ix (by omega)), gd_t (iI_ix (by omega)), show z.1 148 i = iI p from a1, show z.1 149 i = iI w from a2, bv_o e, gd_t (iI_ix (by omega)), nm_o, gd_t (iI_ix (by omega)), nm_o, (uk 151 i (by omega) (by omega)).1, show z.1 151 i = iI (b 170) from a4, (sa_Ia (z := u) (a := 152) (k := i) rfl (by omega)).1, (uk 152 i (by omega) (by omega)).1, show z.1 152 i = iI (b 169) from a5]
    refine ⟨_, rfl, ⟨?_, ?_, ?_, fun q hq f hf => ?_, fun g hg => ?_⟩, fun a k h => ?_⟩
    · rw [sI_at, if_neg (by omega), sI_at, if_neg (by omega), u2]
    · rw [sI_at, if_pos rfl]
    · rw [sI_at, if_neg (by omega), sI_at, if_pos rfl]
    · rw [(sa_Ia (a := 34 + 2 + q) (k := f) rfl (by omega)).1, (sa_Ia (a := 34 + 2 + q) (k := f) rfl (by omega)).1, show 34 + 2 + q = 36 + q from by omega, up q hq f hf]
    · rw [(sa_Ia (a := 34 + 26) (k := g) rfl (by omega)).1, (sa_Ia (a := 34 + 26) (k := g) rfl (by omega)).1, (uk (34 + 26) g (by omega) (by omega)).1, hB.2.2.2.2 g hg, hp_cut hV h]
    · unfold NC at h
      exact ((uk a k (by omega) (by omega)).tr (sa_I rfl (by omega))).tr (sa_I rfl (by omega))
  · rw [show z.1 147 i = 1 from a0, if_neg (by decide), if_pos rfl, gd_t (iI_ix (by omega)), gd_t (iI_ix (by omega)), show z.1 148 i = iI p from a1, show z.1 149 i = iI g from a2]
    obtain ⟨w', e, hb, hk⟩ := x_lift hB hV' hC (p := p) (g := g) (by rw [(bPut_168 b p _).1]; exact h1) h2 (by rw [hp_put hV h1 h3 hV', if_pos rfl])
    rw [bv_o e]
    refine ⟨w', rfl, ?_, hk⟩
    rw [bPut_put, bPut_self b p (-1) h3] at hb
    exact hb
  · rw [show z.1 147 i = 2 from a0, if_neg (by decide), if_neg (by decide), if_pos rfl, gd_t (iI_ix (by omega)), gd_t (iI_ix (by omega)), show z.1 148 i = iI p from a1, show z.1 149 i = iI g from a2]
    obtain ⟨w', e, hb, hk⟩ := x_put hB hV' hC (p := p) (g := g) (by rw [(bPut_168 b p _).1]; exact h1) h2 (by rw [bPut_pc _ _ _ (by omega), if_pos ⟨rfl, rfl⟩]) (by rw [hp_lift hV h1 h3, if_pos rfl])
    rw [bv_o e]
    refine ⟨w', rfl, ?_, hk⟩
    rw [bPut_put, bPut_self b p g ((hp_at hV (by omega) h1).mp h3)] at hb
    exact hb
  · rw [show z.1 147 i = 3 from a0, if_neg (by decide), if_neg (by decide), if_neg (by decide), gd_t (iI_ix (by omega)), gd_t (iI_ix (by omega)), show z.1 148 i = iI g from a1, show z.1 149 i = iI o from a2]
    have hpo := (hp_at hV (by omega) h4).mp h6
    have hqo := (hp_at hV (by omega) h5).mp h7
    have hpq : p ≠ q := fun e => by subst e; omega
    have H := (trade_V hV h1 h2 h3 h4 h5 h6 h7).2
    have n' : (bPut (bPut b q g) p o) 168 = b 168 := by rw [(bPut_168 _ p _).1, (bPut_168 _ q _).1]
    obtain ⟨w', e, hb, hk⟩ := x_trade hB hV' hC (g := g) (o := o) (p := q) (q := p) h1 h2 h3 (by rw [n']; exact h5) (by rw [n']; exact h4) (by rw [H, if_neg h3, if_pos rfl]) (by rw [H, if_pos rfl])
    rw [bv_o e]
    refine ⟨w', rfl, ?_, hk⟩
    have : bPut (bPut (bPut (bPut b q g) p o) p g) q o = b := by
      rw [bPut_put, bPut_com b (fun e => hpq e.symm), bPut_put, bPut_self b p g hpo, bPut_self b q o hqo]
    rw [this] at hb
    exact hb
end
