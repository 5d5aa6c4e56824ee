section
variable {z w : St} {c : RC} {F0 F1 : FO} {b : BD}
/-- x's calmest yet -/
def XC (u : St) (s : Int × Int) : Prop := u.1 143 6 = iI s.1 ∧ (0 ≤ s.2 → u.1 143 4 = iI (s.2 / 6) ∧ u.1 143 5 = iI (s.2 % 6))
theorem x_table (h : RXs z c F0 F1 b) : ∃ w, (∀ k : St → Option (Int32 × St), True) ∧ RGd c F0 b w ∧ (∀ a j, a ≠ 144 → a ≠ 13 → a ≠ 145 → SA z w a j) ∧ fn_X10_findCalm z = bd (fn_X10_enviesAfter 0 0 w) (fun r3 z4 => nm (sI z4 143 6 r3) (fun z5 => fn_X10_findCalm_78 fu 0 0 z5)) := by
  have hC := h.1
  have hV := h.2.1
  have hn := hV.1
  have hG := hC.2.1
  obtain ⟨m, s, ⟨i1, i2⟩, hm⟩ := loopE (fun m g s => fn_X10_findCalm_2 m (iI (g : Int)) s) (fun g s => (∀ g' o : Nat, g' < g → (o : Int) < c 6 1 → s.1 145 (6 * g' + o) = wop c F0 b g' (hp b (o : Int)) 0) ∧ ∀ a j, a ≠ 144 → a ≠ 13 → a ≠ 145 → SA z s a j) (c 6 1).toNat (by omega) z ⟨fun g' o hg => absurd hg (Nat.not_lt_zero g'), fun a j _ _ _ => SA.rf⟩ (fun g m s hg ⟨i1, i2⟩ => by
    have Ms : RXs s c F0 F1 b := h.fr fun a j q => i2 a j (by unfold QXs QX at q; omega) (by unfold QXs QX at q; omega) (by unfold QXs QX at q; omega)
    obtain ⟨m2, t, ⟨j1, j2, j3⟩, hm2⟩ := loopE (fun m2 o t => fn_X10_findCalm_15 (fn_X10_findCalm_2 m) m2 (iI (g : Int)) (iI (o : Int)) t) (fun o t => (∀ g' o' : Nat, g' < g → (o' : Int) < c 6 1 → t.1 145 (6 * g' + o') = wop c F0 b g' (hp b (o' : Int)) 0) ∧ (∀ o' : Nat, o' < o → t.1 145 (6 * g + o') = wop c F0 b g (hp b (o' : Int)) 0) ∧ ∀ a j, a ≠ 144 → a ≠ 13 → a ≠ 145 → SA z t a j) (c 6 1).toNat (by omega) s ⟨i1, fun o' ho => absurd ho (Nat.not_lt_zero o'), i2⟩ (fun o m2 t ho ⟨j1, j2, j3⟩ => by
      have Mt : RXs t c F0 F1 b := h.fr fun a j q => j3 a j (by unfold QXs QX at q; omega) (by unfold QXs QX at q; omega) (by unfold QXs QX at q; omega)
      have hbo := hp_b hV (o : Int)
      obtain ⟨u, e⟩ := x_wop Mt (g := g) (by omega) (n := hp b (o : Int)) (by omega) 0
      have fu' : ∀ a j, a ≠ 144 → a ≠ 13 → SA t u a j := fun a j q1 q2 => ff_X10_ofPiece (by show ¬ a = 144 ∧ ¬ a = 13; exact ⟨q1, q2⟩) e
      show ∃ s', _ ∧ fn_X10_findCalm_15 _ (m2 + 1) _ _ _ = fn_X10_findCalm_15 _ m2 _ _ _
      rw [fn_X10_findCalm_15, Mt.2.2.2.2.1.2.1, if_neg (nle (by omega) (by omega) (by omega)), gd_t (iI_ix (by omega)), iI_clampN (by omega), show t.1 60 o = iI (hp b (o : Int)) from Mt.2.2.2.2.2.1.2.2.2.2 o (by omega), bd_o e, q_6, iI_mul, iI_add, gd_t (iI_ix (by omega)), nm_o, k1, show Int32.toNatClampNeg (iI ((g : Int) * 6 + (o : Int))) = 6 * g + o from by rw [iI_clamp (by omega)]; omega]
      refine ⟨_, ⟨fun g' o' hg' ho' => ?_, fun o' ho' => ?_, fun a j q1 q2 q3 => ((j3 a j q1 q2 q3).tr (fu' a j q1 q2)).tr (sa_Ia rfl q3)⟩, rfl⟩
      · rw [sI_at, if_neg (by omega), (fu' 145 _ (by omega) (by omega)).1]
        exact j1 g' o' hg' ho'
      · rw [sI_at]
        by_cases e' : o' = o
        · rw [if_pos (by rw [e']), e']
        · rw [if_neg (by omega), (fu' 145 _ (by omega) (by omega)).1]
          exact j2 o' (by omega))
    have Mt : RXs t c F0 F1 b := h.fr fun a j q => j3 a j (by unfold QXs QX at q; omega) (by unfold QXs QX at q; omega) (by unfold QXs QX at q; omega)
    refine ⟨t, ⟨fun g' o' hg' ho' => ?_, j3⟩, ?_⟩
    · by_cases e' : g' = g
      · rw [e']; exact j2 o' (by omega)
      · exact j1 g' o' (by omega) ho'
    · show fn_X10_findCalm_2 (m + 1) _ _ = fn_X10_findCalm_2 m _ _
      rw [fn_X10_findCalm_2, Ms.2.2.2.2.1.2.1, if_neg (nle (by omega) (by omega) (by omega))]
      refine (show _ = fn_X10_findCalm_15 (fn_X10_findCalm_2 m) fu (iI (g : Int)) (iI ((0 : Nat) : Int)) s from by rw [z0]).trans (hm2.trans ?_)
      show fn_X10_findCalm_15 _ (m2 + 1) _ _ _ = _
      rw [fn_X10_findCalm_15, Mt.2.2.2.2.1.2.1, if_pos (yle (by omega) (by omega) (by omega)), k1])
  have Ms : RXs s c F0 F1 b := h.fr fun a j q => i2 a j (by unfold QXs QX at q; omega) (by unfold QXs QX at q; omega) (by unfold QXs QX at q; omega)
  refine ⟨s, fun _ => trivial, fun g o hg ho => i1 g o (by omega) ho, i2, ?_⟩
  unfold fn_X10_findCalm
  refine (show _ = fn_X10_findCalm_2 fu (iI ((0 : Nat) : Int)) z from by rw [z0]).trans (hm.trans ?_)
  show fn_X10_findCalm_2 (m + 1) _ _ = _
  rw [fn_X10_findCalm_2, Ms.2.2.2.2.1.2.1, if_pos (yle (by omega) (by omega) (by omega))]
theorem x_calm (h : RXs z c F0 F1 b) : ∃ w, fn_X10_findCalm z = some (iI (tr (0 ≤ (clI c F0 b (c 6 1).toNat).2)), w) ∧ XC w (clI c F0 b (c 6 1).toNat) := by
  have hC := h.1
  have hV := h.2.1
  have hn := hV.1
  have hG := hC.2.1
  obtain ⟨w, -, hR, fw, ew⟩ := x_table h
  have Mw : RXs w c F0 F1 b := h.fr fun a j q => fw a j (by unfold QXs QX at q; omega) (by unfold QXs QX at q; omega) (by unfold QXs QX at q; omega)
  have e0 := x_after (f := 0) (o := 0) Mw hR (Or.inr ⟨rfl, rfl⟩) (Or.inr ⟨rfl, rfl⟩)
  rw [z0, aE_same] at e0
  rw [ew, bd_o e0, nm_o]
  obtain ⟨m, s, ⟨i1, i2, i3⟩, hm⟩ := loopE (fun m a s => fn_X10_findCalm_78 m (iI (tr (0 ≤ (clI c F0 b a).2))) (iI (a : Int)) s) (fun a s => XC s (clI c F0 b a) ∧ RGd c F0 b s ∧ ∀ x j, ¬ (x = 143 ∧ (j = 4 ∨ j = 5 ∨ j = 6)) → SA w s x j) (c 6 1).toNat (by omega) (sI w 143 6 (iI (aE c F0 b (c 6 1).toNat))) ⟨⟨by rw [sI_at, if_pos rfl]; rfl, fun q => absurd q (by show ¬ (0 : Int) ≤ -1; omega)⟩, fun g o hg ho => by rw [(sa_Ia (a := 145) rfl (by omega)).1]; exact hR g o hg ho, fun x j q => sa_I rfl (by omega)⟩ (fun a m s ha ⟨i1, i2, i3⟩ => by
    have hcb := clI_b (F0 := F0) (b := b) hC a (by omega)
    have hba := hp_b hV (a : Int)
    have Ms : RXs s c F0 F1 b := Mw.fr fun x j q => i3 x j (by unfold QXs QX at q; omega)
    obtain ⟨m2, t, ⟨j1, j2, j3⟩, hm2⟩ := loopE (fun m2 k t => fn_X10_findCalm_93 (fn_X10_findCalm_78 m) m2 (iI (tr (0 ≤ (clJ c F0 b a (clI c F0 b a) (a + 1 + k)).2))) (iI (a : Int)) (iI ((a + 1 + k : Nat) : Int)) t) (fun k t => XC t (clJ c F0 b a (clI c F0 b a) (a + 1 + k)) ∧ RGd c F0 b t ∧ ∀ x j, ¬ (x = 143 ∧ (j = 4 ∨ j = 5 ∨ j = 6)) → SA w t x j) ((c 6 1).toNat - (a + 1)) (by omega) s ⟨by rw [clJ_low _ (by omega)]; exact i1, i2, i3⟩ (fun k m2 t hk ⟨j1, j2, j3⟩ => by
      have hj6 : a + 1 + k < (c 6 1).toNat := by omega
      generalize hJ : a + 1 + k = J at *
      have Mt : RXs t c F0 F1 b := Mw.fr fun x j q => j3 x j (by unfold QXs QX at q; omega)
      have hbj := hp_b hV (J : Int)
      have hjb := clJ_b (F0 := F0) (b := b) hC (a := a) (by omega) hcb J (by omega)
      have hax := aX_b (F0 := F0) (b := b) hC (f := a) (o := J) (c 6 1).toNat
      have e1 : clJ c F0 b a (clI c F0 b a) (a + 1 + (k + 1)) = if (a < J ∧ hp b (a : Int) ≠ -1 ∧ hp b (J : Int) ≠ -1) ∧ aX c F0 b a J (c 6 1).toNat < (clJ c F0 b a (clI c F0 b a) J).1 then (aX c F0 b a J (c 6 1).toNat, 6 * (a : Int) + (J : Int)) else clJ c F0 b a (clI c F0 b a) J := by
        rw [show a + 1 + (k + 1) = J + 1 from by omega, clJ]
      show ∃ s', _ ∧ fn_X10_findCalm_93 _ (m2 + 1) _ _ _ _ = fn_X10_findCalm_93 _ m2 _ _ _ _
      rw [fn_X10_findCalm_93, Mt.2.2.2.2.1.2.1, if_neg (nle (by omega) (by omega) (by omega)), gd_t (iI_ix (by omega)), iI_clampN (by omega), show t.1 60 a = iI (hp b (a : Int)) from Mt.2.2.2.2.2.1.2.2.2.2 a (by omega), e1, show a + 1 + (k + 1) = J + 1 from by omega]
      unfold fn_X10_findCalm_165
      rw [k1]
      by_cases h1 : hp b (a : Int) = -1
      · rw [if_pos (show iI (hp b (a : Int)) = -1 from by rw [h1]; exact q_m1.symm), if_neg (fun q => q.1.2.1 h1)]
        exact ⟨t, ⟨j1, j2, j3⟩, rfl⟩
      · rw [if_neg (show ¬ iI (hp b (a : Int)) = -1 from by rw [q_m1]; exact neq (by omega) (by omega) h1), gd_t (iI_ix (by omega)), iI_clampN (by omega), show t.1 60 J = iI (hp b (J : Int)) from Mt.2.2.2.2.2.1.2.2.2.2 J (by omega)]
        by_cases h2 : hp b (J : Int) = -1
        · rw [if_pos (show iI (hp b (J : Int)) = -1 from by rw [h2]; exact q_m1.symm), if_neg (fun q => q.1.2.2 h2)]
          exact ⟨t, ⟨j1, j2, j3⟩, rfl⟩
        · rw [if_neg (show ¬ iI (hp b (J : Int)) = -1 from by rw [q_m1]; exact neq (by omega) (by omega) h2), bd_o (x_after Mt j2 (Or.inl (by omega)) (Or.inl (by omega))), j1.1]
          by_cases h3 : aX c F0 b a J (c 6 1).toNat < (clJ c F0 b a (clI c F0 b a) J).1
          · rw [if_neg (show ¬ iI (clJ c F0 b a (clI c F0 b a) J).1 ≤ iI (aX c F0 b a J (c 6 1).toNat) from nle (by omega) (by omega) (by omega)), nm_o, nm_o, nm_o, if_pos ⟨⟨by omega, h1, h2⟩, h3⟩]
            refine ⟨sI (sI (sI t 143 4 (iI (a : Int))) 143 5 (iI (J : Int))) 143 6 (iI (aX c F0 b a J (c 6 1).toNat)), ⟨⟨by rw [sI_at, if_pos rfl], fun _ => ⟨?_, ?_⟩⟩, fun g o hg ho => ?_, fun x j q => ?_⟩, ?_⟩
            · show _ = iI ((6 * (a : Int) + (J : Int)) / 6)
              rw [show (6 * (a : Int) + (J : Int)) / 6 = (a : Int) from by omega]; simp [sI]
            · show _ = iI ((6 * (a : Int) + (J : Int)) % 6)
              rw [show (6 * (a : Int) + (J : Int)) % 6 = (J : Int) from by omega]; simp [sI]
            · rw [(((sa_Ia (a := 145) rfl (by omega)).tr (sa_Ia rfl (by omega))).tr (sa_Ia rfl (by omega))).1]
              exact j2 g o hg ho
            · exact ((j3 x j q).tr (sa_I rfl (by omega))).tr ((sa_I rfl (by omega)).tr (sa_I rfl (by omega)))
            · rw [tr_1 (show (0 : Int) ≤ (aX c F0 b a J (c 6 1).toNat, 6 * (a : Int) + (J : Int)).2 from by show 0 ≤ 6 * (a : Int) + (J : Int); omega), ← q_1]
          · rw [if_pos (show iI (clJ c F0 b a (clI c F0 b a) J).1 ≤ iI (aX c F0 b a J (c 6 1).toNat) from yle (by omega) (by omega) (by omega)), if_neg (fun q => h3 q.2)]
            exact ⟨t, ⟨j1, j2, j3⟩, rfl⟩)
    have Mt : RXs t c F0 F1 b := Mw.fr fun x j q => j3 x j (by unfold QXs QX at q; omega)
    rw [show a + 1 + ((c 6 1).toNat - (a + 1)) = (c 6 1).toNat from by omega] at j1 hm2
    refine ⟨t, ⟨j1, j2, j3⟩, ?_⟩
    show fn_X10_findCalm_78 (m + 1) _ _ _ = fn_X10_findCalm_78 m _ _ _
    rw [fn_X10_findCalm_78, Ms.2.2.2.2.1.2.1, if_neg (nle (by omega) (by omega) (by omega)), nm_o, k1]
    refine (show _ = fn_X10_findCalm_93 (fn_X10_findCalm_78 m) fu (iI (tr (0 ≤ (clJ c F0 b a (clI c F0 b a) (a + 1 + 0)).2))) (iI (a : Int)) (iI ((a + 1 + 0 : Nat) : Int)) s from by rw [clJ_low _ (by omega)]).trans (hm2.trans ?_)
    show fn_X10_findCalm_93 _ (m2 + 1) _ _ _ _ = _
    rw [fn_X10_findCalm_93, Mt.2.2.2.2.1.2.1, if_pos (yle (by omega) (by omega) (by omega)), k1]
    rfl)
  have Ms : RXs s c F0 F1 b := Mw.fr fun x j q => i3 x j (by unfold QXs QX at q; omega)
  refine ⟨s, (show _ = fn_X10_findCalm_78 fu (iI (tr ((0 : Int) ≤ (clI c F0 b 0).2))) (iI ((0 : Nat) : Int)) (sI w 143 6 (iI (aE c F0 b (c 6 1).toNat))) from by rw [z0, tr_n (show ¬ (0 : Int) ≤ (clI c F0 b 0).2 from by show ¬ (0 : Int) ≤ -1; omega), ← q_0]).trans (hm.trans ?_), i1⟩
  show fn_X10_findCalm_78 (m + 1) _ _ _ = _
  rw [fn_X10_findCalm_78, Ms.2.2.2.2.1.2.1, if_pos (yle (by omega) (by omega) (by omega)), gd_t (tr_z _)]
end
