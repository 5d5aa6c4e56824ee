section
variable {z : St} {c : RC} {F0 F1 : FO} {b : BD} {v : Nat → Int}
theorem x_isPc {N n : Int} (hz : z.1 34 2 = iI N) (hN : 0 ≤ N ∧ N ≤ 24) (hn : -2147483648 ≤ n ∧ n < 2147483648) : fn_X1_isPiece 34 (iI n) z = some (iI (tr (0 ≤ n ∧ n < N)), z) := by
  unfold fn_X1_isPiece
  rw [hz, three]
  congr 3
  refine tr_c ?_
  rw [q_0, iI_lt (by omega) (by omega), iI_le (by omega) (by omega)]
  omega
theorem x_putE {N : Int} {p g : Nat} (hz : z.1 34 2 = iI N) (hN : 0 ≤ N ∧ N ≤ 24) (hp1 : (p : Int) < N) (hg : g < 6) : fn_X1_put 34 (iI p) (iI g) z = some (sI (sI z (36 + p) 6 (iI g)) 60 g (iI p)) := by
  unfold fn_X1_put
  rw [bd_o (x_isPc hz hN (by omega)), tr_1 (by omega), if_neg (by decide), if_neg (by rw [q_0]; exact nlt (by omega) (by omega) (by omega)), if_neg (by rw [q_6]; exact nle (by omega) (by omega) (by omega)), gd_t (iI_ix (by omega)), nm_o, gd_t (iI_ix (by omega)), nm_o, iI_clampN (by omega), iI_clampN (by omega)]
theorem x_liftE {N : Int} {p g : Nat} (hz : z.1 34 2 = iI N) (hN : 0 ≤ N ∧ N ≤ 24) (hp1 : (p : Int) < N) (hg : g < 6) : fn_X1_lift 34 (iI p) (iI g) z = some (sI (sI z (36 + p) 6 (iI (-1))) 60 g (iI (-1))) := by
  unfold fn_X1_lift
  rw [bd_o (x_isPc hz hN (by omega)), tr_1 (by omega), if_neg (by decide), if_neg (by rw [q_0]; exact nlt (by omega) (by omega) (by omega)), if_neg (by rw [q_6]; exact nle (by omega) (by omega) (by omega)), gd_t (iI_ix (by omega)), nm_o, gd_t (iI_ix (by omega)), nm_o, iI_clampN (by omega), iI_clampN (by omega), q_m1]
theorem XB_pl {w : St} {b' : BD} (hB : XB 34 z b) (hn : b 168 ≤ 24) (e : b' 168 = b 168 ∧ b' 169 = b 169 ∧ b' 170 = b 170) (ef : ∀ q f, f < 6 → pc b' q f = pc b q f) (hs : ∀ a k, ¬ (36 ≤ a ∧ a ≤ 59 ∧ k = 6) → a ≠ 60 → SA z w a k) (h6 : ∀ q : Nat, (q : Int) < b 168 → w.1 (36 + q) 6 = iI (pc b' q 6)) (hh : ∀ g : Nat, g < 6 → w.1 60 g = iI (hp b' g)) : XB 34 w b' := by
  refine ⟨?_, ?_, ?_, fun q hq f hf => ?_, hh⟩
  · rw [(hs 34 2 (by omega) (by omega)).1, hB.1, e.1]
  · rw [(hs 34 3 (by omega) (by omega)).1, hB.2.1, e.2.1]
  · rw [(hs 34 4 (by omega) (by omega)).1, hB.2.2.1, e.2.2]
  · rw [e.1] at hq
    by_cases hf6 : f = 6
    · rw [hf6]; exact h6 q hq
    · rw [(hs (34 + 2 + q) f (by omega) (by omega)).1, hB.2.2.2.1 q hq f hf, ef q f (by omega)]
theorem hp_put (hV : VB c b) {p g : Nat} (hp1 : (p : Int) < b 168) (hfr : pc b p 6 = -1) (hV' : VB c (bPut b p g)) (g' : Nat) : hp (bPut b p g) g' = if g' = g then (p : Int) else hp b g' := by
  by_cases h : g' = g
  · rw [if_pos h, h]
    refine (hp_at hV' (by omega) (by rw [(bPut_168 b p g).1]; exact hp1)).mpr ?_
    rw [bPut_pc b p g (by omega), if_pos ⟨rfl, rfl⟩]
  · rw [if_neg h]
    unfold hp
    rw [(bPut_168 b p g).1]
    refine pof_congr _ (fun q hq => ?_)
    rw [bPut_pc b p g (by omega)]
    by_cases hq : q = p
    · rw [if_pos ⟨hq, rfl⟩, hq, hfr]; omega
    · rw [if_neg (by omega)]
theorem hp_lift (hV : VB c b) {p g : Nat} (hp1 : (p : Int) < b 168) (hg : hp b g = p) (g' : Nat) : hp (bPut b p (-1)) g' = if g' = g then (-1 : Int) else hp b g' := by
  have hpg := (hp_at hV (by omega) hp1).mp hg
  have hV' : VB c (bPut b p (-1)) := VB_put hV (by have := hV.2.2.1 p hp1; unfold VP at this; omega) (fun _ _ _ _ => rfl)
  by_cases h : g' = g
  · rw [if_pos h, h, hp_no hV']
    intro q hq
    rw [(bPut_168 b p _).1] at hq
    rw [bPut_pc b p _ (by omega)]
    by_cases hqp : q = p
    · rw [if_pos ⟨hqp, rfl⟩]; omega
    · rw [if_neg (by omega)]
      intro e
      have := hV.2.2.2.1 q p hq hp1 hqp (by rw [e, hpg])
      omega
  · rw [if_neg h]
    unfold hp
    rw [(bPut_168 b p _).1]
    refine pof_congr _ (fun q hq => ?_)
    rw [bPut_pc b p _ (by omega)]
    by_cases hq : q = p
    · rw [if_pos ⟨hq, rfl⟩, hq, hpg]; omega
    · rw [if_neg (by omega)]
theorem VB_lift (hV : VB c b) {p : Nat} (hp1 : (p : Int) < b 168) : VB c (bPut b p (-1)) := VB_put hV (by have := hV.2.2.1 p hp1; unfold VP at this; omega) (fun _ _ _ _ => rfl)
theorem VB_give (hV : VB c b) {p g : Nat} (hg : (g : Int) < c 6 1) (hn : hp b g = -1) : VB c (bPut b p g) := VB_put hV (by omega) (fun q hq _ e => absurd e ((hp_no hV).mp hn q hq))
theorem trade_eq (b : BD) (p q : Nat) (g o : Int) : bPut (bPut b q g) p o = bPut (bPut (bPut (bPut b p (-1)) q (-1)) q g) p o := by
  funext j
  unfold bPut up
  by_cases h1 : j = 7 * p + 6 <;> by_cases h2 : j = 7 * q + 6 <;> simp [h1, h2]
theorem trade_V (hV : VB c b) {g o p q : Nat} (hg : (g : Int) < c 6 1) (ho : (o : Int) < c 6 1) (hgo : g ≠ o) (hp1 : (p : Int) < b 168) (hq1 : (q : Int) < b 168) (hpg : hp b g = p) (hqo : hp b o = q) : VB c (bPut (bPut b q g) p o) ∧ ∀ g' : Nat, hp (bPut (bPut b q g) p o) g' = if g' = o then (p : Int) else if g' = g then (q : Int) else hp b g' := by
  have hgp := (hp_at hV (by omega) hp1).mp hpg
  have hoq := (hp_at hV (by omega) hq1).mp hqo
  have hpq : p ≠ q := fun e => by subst e; omega
  rw [trade_eq]
  have V1 := VB_lift hV hp1
  have n1 := (bPut_168 b p (-1)).1
  have H1 := hp_lift hV hp1 hpg
  have V2 := VB_lift V1 (p := q) (by rw [n1]; exact hq1)
  have n2 := (bPut_168 (bPut b p (-1)) q (-1)).1
  have H2 := hp_lift V1 (p := q) (g := o) (by rw [n1]; exact hq1) (by rw [H1, if_neg (by omega)]; exact hqo)
  have V3 := VB_give V2 (p := q) hg (by rw [H2, if_neg hgo, H1, if_pos rfl])
  have n3 := (bPut_168 (bPut (bPut b p (-1)) q (-1)) q (g : Int)).1
  have H3 := hp_put V2 (p := q) (g := g) (by rw [n2, n1]; exact hq1) (by rw [bPut_pc _ _ _ (by omega), if_pos ⟨rfl, rfl⟩]) V3
  have V4 := VB_give V3 (p := p) ho (by rw [H3, if_neg (by omega), H2, if_pos rfl])
  have H4 := hp_put V3 (p := p) (g := o) (by rw [n3, n2, n1]; exact hp1) (by rw [bPut_pc _ _ _ (by omega), if_neg (by omega), bPut_pc _ _ _ (by omega), if_neg (by omega), bPut_pc _ _ _ (by omega), if_pos ⟨rfl, rfl⟩]) V4
  refine ⟨V4, fun g' => ?_⟩
  rw [H4, H3, H2, H1]
  by_cases h1 : g' = o
  · simp only [if_pos h1]
  · by_cases h2 : g' = g
    · simp only [if_neg h1, if_pos h2]
    · simp only [if_neg h1, if_neg h2]
/-! acts carried out, and taken back -/
theorem x_put (hB : XB 34 z b) (hV : VB c b) (hC : VC c) {p g : Nat} (hp1 : (p : Int) < b 168) (hg : (g : Int) < c 6 1) (hfr : pc b p 6 = -1) (hn : hp b g = -1) : ∃ w, fn_X1_put 34 (iI p) (iI g) z = some w ∧ XB 34 w (bPut b p g) ∧ ∀ a k, NC a k → SA z w a k := by
  have h6 := hC.g hg
  have h24 := hV.n hp1
  have V' := VB_give hV (p := p) hg hn
  refine ⟨_, x_putE hB.1 hV.1 hp1 h6, XB_pl hB hV.1.2 (bPut_168 b p g) (fun q f hf => bPut_n b g hf) (fun a k h h' => (sa_I rfl (by omega)).tr (sa_Ia rfl h')) (fun q hq => ?_) (fun g' hg' => ?_), fun a k h => by unfold NC at h; exact (sa_I rfl (by omega)).tr (sa_Ia rfl (by omega))⟩
  · have := hV.n hq
    rw [bPut_pc b p g (by omega), (sa_Ia (a := 36 + q) (k := 6) rfl (by omega)).1]
    by_cases hqp : q = p
    · rw [hqp, sI_at, if_pos rfl, if_pos ⟨rfl, rfl⟩]
    · rw [if_neg (by omega), (sa_Ia (a := 36 + q) (k := 6) rfl (by omega)).1]
      exact hB.2.2.2.1 q hq 6 (by omega)
  · rw [sI_at, hp_put hV hp1 hfr V' g']
    by_cases h : g' = g
    · rw [if_pos h, if_pos h]
    · rw [if_neg h, if_neg h, (sa_Ia (a := 60) (k := g') rfl (by omega)).1]
      exact hB.2.2.2.2 g' hg'
theorem x_lift (hB : XB 34 z b) (hV : VB c b) (hC : VC c) {p g : Nat} (hp1 : (p : Int) < b 168) (hg : (g : Int) < c 6 1) (hh : hp b g = p) : ∃ w, fn_X1_lift 34 (iI p) (iI g) z = some w ∧ XB 34 w (bPut b p (-1)) ∧ ∀ a k, NC a k → SA z w a k := by
  have h6 := hC.g hg
  have h24 := hV.n hp1
  refine ⟨_, x_liftE hB.1 hV.1 hp1 h6, XB_pl hB hV.1.2 (bPut_168 b p (-1)) (fun q f hf => bPut_n b (-1) hf) (fun a k h h' => (sa_I rfl (by omega)).tr (sa_Ia rfl h')) (fun q hq => ?_) (fun g' hg' => ?_), fun a k h => by unfold NC at h; exact (sa_I rfl (by omega)).tr (sa_Ia rfl (by omega))⟩
  · have := hV.n hq
    rw [bPut_pc b p (-1) (by omega), (sa_Ia (a := 36 + q) (k := 6) rfl (by omega)).1]
    by_cases hqp : q = p
    · rw [hqp, sI_at, if_pos rfl, if_pos ⟨rfl, rfl⟩]
    · rw [if_neg (by omega), (sa_Ia (a := 36 + q) (k := 6) rfl (by omega)).1]
      exact hB.2.2.2.1 q hq 6 (by omega)
  · rw [sI_at, hp_lift hV hp1 hh g']
    by_cases h : g' = g
    · rw [if_pos h, if_pos h]
    · rw [if_neg h, if_neg h, (sa_Ia (a := 60) (k := g') rfl (by omega)).1]
      exact hB.2.2.2.2 g' hg'
theorem x_trade (hB : XB 34 z b) (hV : VB c b) (hC : VC c) {g o p q : Nat} (hg : (g : Int) < c 6 1) (ho : (o : Int) < c 6 1) (hgo : g ≠ o) (hp1 : (p : Int) < b 168) (hq1 : (q : Int) < b 168) (hpg : hp b g = p) (hqo : hp b o = q) : ∃ w, fn_X1_trade 34 (iI g) (iI o) z = some w ∧ XB 34 w (bPut (bPut b q g) p o) ∧ ∀ a k, NC a k → SA z w a k := by
  have g6 := hC.g hg
  have o6 := hC.g ho
  have p24 := hV.n hp1
  have q24 := hV.n hq1
  have hgp := (hp_at hV (by omega) hp1).mp hpg
  have hoq := (hp_at hV (by omega) hq1).mp hqo
  have hpq : p ≠ q := fun e => by subst e; omega
  obtain ⟨V', H'⟩ := trade_V hV hg ho hgo hp1 hq1 hpg hqo
  have e1 : fn_X1_put 34 (iI q) (iI g) z = some (sI (sI z (36 + q) 6 (iI g)) 60 g (iI q)) := x_putE hB.1 hV.1 hq1 g6
  have e2 : fn_X1_put 34 (iI p) (iI o) (sI (sI z (36 + q) 6 (iI g)) 60 g (iI q)) = some (sI (sI (sI (sI z (36 + q) 6 (iI g)) 60 g (iI q)) (36 + p) 6 (iI o)) 60 o (iI p)) := x_putE (((sa_Ia (a := 34) (k := 2) rfl (by omega)).tr (sa_Ia rfl (by omega))).1.trans hB.1) hV.1 hp1 o6
  have hs : ∀ a k, ¬ (36 ≤ a ∧ a ≤ 59 ∧ k = 6) → a ≠ 60 → SA z (sI (sI (sI (sI z (36 + q) 6 (iI g)) 60 g (iI q)) (36 + p) 6 (iI o)) 60 o (iI p)) a k := fun a k h h' => (((sa_I rfl (by omega)).tr (sa_Ia rfl h')).tr (sa_I rfl (by omega))).tr (sa_Ia rfl h')
  refine ⟨_, ?_, XB_pl hB hV.1.2 ?_ (fun r f hf => by rw [bPut_n _ _ hf, bPut_n _ _ hf]) hs (fun r hr => ?_) (fun g' hg' => ?_), fun a k h => hs a k (by unfold NC at h; omega) (by unfold NC at h; omega)⟩
  · unfold fn_X1_trade
    rw [if_neg (by rw [q_0]; exact nlt (by omega) (by omega) (by omega)), if_neg (by rw [q_6]; exact nle (by omega) (by omega) (by omega)), if_neg (by rw [q_0]; exact nlt (by omega) (by omega) (by omega)), if_pos (by rw [q_6]; exact ylt (by omega) (by omega) (by omega)), gd_t (iI_ix (by omega)), nm_o, gd_t (iI_ix (by omega)), iI_clampN (by omega), iI_clampN (by omega), show z.1 (34 + 26) o = iI q from by rw [← hqo]; exact hB.2.2.2.2 o o6, show z.1 (34 + 26) g = iI p from by rw [← hpg]; exact hB.2.2.2.2 g g6, bv_o e1, bv_o e2]
  · rw [(bPut_168 _ p _).1, (bPut_168 _ p _).2.1, (bPut_168 _ p _).2.2]; exact bPut_168 b q g
  · have := hV.n hr
    rw [bPut_pc _ p _ (by omega), bPut_pc _ q _ (by omega), (sa_Ia (a := 36 + r) (k := 6) rfl (by omega)).1]
    by_cases h1 : r = p
    · rw [h1, sI_at, if_pos rfl, if_pos ⟨rfl, rfl⟩]
    · rw [if_neg (by omega), (sa_Ia (a := 36 + r) (k := 6) rfl (by omega)).1, (sa_Ia (a := 36 + r) (k := 6) rfl (by omega)).1]
      by_cases h2 : r = q
      · rw [h2, sI_at, if_pos rfl, if_pos ⟨rfl, rfl⟩]
      · rw [if_neg (by omega), (sa_Ia (a := 36 + r) (k := 6) rfl (by omega)).1]
        exact hB.2.2.2.1 r hr 6 (by omega)
  · rw [sI_at, H' g', (sa_Ia (a := 60) (k := g') rfl (by omega)).1, sI_at, (sa_Ia (a := 60) (k := g') rfl (by omega)).1]
    by_cases h1 : g' = o
    · rw [if_pos h1, if_pos h1]
    · rw [if_neg h1, if_neg h1]
      by_cases h2 : g' = g
      · rw [if_pos h2, if_pos h2]
      · rw [if_neg h2, if_neg h2]
        exact hB.2.2.2.2 g' hg'
theorem x_carry {i : Nat} {b' : BD} (hi : i < 40) (hX : RXs z c F0 F1 b) (hA : ACT c F1 (ent z i) b b') : ∃ w, fn_X0_carryOut (iI i) z = some w ∧ XB 34 w b' ∧ ∀ a k, NC a k → SA z w a k := by
  obtain ⟨hC, hV, hF0, hF1, hR, hB, hX0, hX1⟩ := hX
  unfold fn_X0_carryOut
  rw [gd_t (iI_ix (by omega)), iI_clampN (by omega)]
  rcases hA with ⟨p, w, k, a0, a1, a2, a3, a4, a5, h, rfl⟩ | ⟨p, g, a0, a1, a2, h1, h2, h3, h4, rfl⟩ | ⟨p, g, a0, a1, a2, h1, h2, h3, rfl⟩ | ⟨g, o, p, q, a0, a1, a2, h1, h2, h3, h4, h5, h6, h7, rfl⟩
  · rw [show z.1 147 i = 0 from a0, if_pos rfl, gd_t (iI_ix (by omega)), gd_t (iI_ix (by omega)), gd_t (iI_ix (by omega)), gd_t (iI_ix (by omega)), gd_t (iI_ix (by omega)), show z.1 148 i = iI p from a1, show z.1 149 i = iI w from a2, show z.1 150 i = iI k from a3]
    obtain ⟨u, hu⟩ := x_slipOf (y := iI w) (p := p) hR hC hB hV hX1 hF1 h.1
    have hsl : so c F1 (pc b p) (if iI (w : Int) = 0 then pc b p 4 else pc b p 3) (b 169) = slp c F1 b p w := by
      unfold slp
      have hw : w = 0 ∨ w = 1 := by have := h.2.2.2.1; omega
      rcases hw with rfl | rfl
      · rw [if_pos z0]
      · rw [if_neg (by decide)]
    rw [hsl] at hu
    have k1' : ∀ a k, a ≠ 144 → a ≠ 16 → SA z u a k := fun a k h1 h2 => ff_X10_slipOf (by show ¬ a = 144 ∧ ¬ a = 16; exact ⟨h1, h2⟩) hu
    obtain ⟨w', e, hb, hk⟩ := x_split (F1 := F1) hC (hB.fr hV.1.2 fun a k h => k1' a k (by omega) (by omega)) hV h
    rw [bd_o hu, (k1' 2 12 (by omega) (by omega)).1, hR.2.2.1, bv_o e]
    exact ⟨w', rfl, hb, fun a k h => (k1' a k h.2.2.1 h.2.2.2).tr (hk a k h)⟩
  · rw [show z.1 147 i = 1 from a0, if_neg (by decide), if_pos rfl, gd_t (iI_ix (by omega)), gd_t (iI_ix (by omega)), show z.1 148 i = iI p from a1, show z.1 149 i = iI g from a2]
    obtain ⟨w', e, hb, hk⟩ := x_put hB hV hC h1 h2 h3 h4
    rw [bv_o e]
    exact ⟨w', rfl, hb, hk⟩
  · rw [show z.1 147 i = 2 from a0, if_neg (by decide), if_neg (by decide), if_pos rfl, gd_t (iI_ix (by omega)), gd_t (iI_ix (by omega)), show z.1 148 i = iI p from a1, show z.1 149 i = iI g from a2]
    obtain ⟨w', e, hb, hk⟩ := x_lift hB hV hC h1 h2 h3
    rw [bv_o e]
    exact ⟨w', rfl, hb, hk⟩
  · rw [show z.1 147 i = 3 from a0, if_neg (by decide), if_neg (by decide), if_neg (by decide), gd_t (iI_ix (by omega)), gd_t (iI_ix (by omega)), show z.1 148 i = iI g from a1, show z.1 149 i = iI o from a2]
    obtain ⟨w', e, hb, hk⟩ := x_trade hB hV hC h1 h2 h3 h4 h5 h6 h7
    rw [bv_o e]
    exact ⟨w', rfl, hb, hk⟩
end
