section
variable {z w : St} {c : RC} {dr hpp hdd : Int} {F0 F1 F : FO} {t0 t1 u0 u1 t f : Nat}
/-! the reference's cake, once read -/
theorem m_cp {N : Nat} (k47 : Int32 → St → Option (Int32 × St)) (hf : f < 2) (hN : N ≤ 272) (h : z.1 180 f = iI (N : Int)) : ∃ s, fn_X12_cake_83 k47 fu (iI (f : Int)) (iI ((320 * f : Nat) : Int)) z = k47 (iI ((f + 1 : Nat) : Int)) s ∧ (∀ k, k < N → s.1 178 (320 * f + k) = z.1 175 (320 * f + k) ∧ s.1 179 (320 * f + k) = z.1 176 (320 * f + k)) ∧ ∀ a j, ¬ ((a = 178 ∨ a = 179) ∧ 320 * f ≤ j ∧ j < 320 * f + 320) → SA z s a j := by
  obtain ⟨m, s, ⟨i1, i2⟩, hm⟩ := loopE (fun m k s => fn_X12_cake_83 k47 m (iI (f : Int)) (iI ((320 * f + k : Nat) : Int)) s) (fun k s => (∀ j, j < k → s.1 178 (320 * f + j) = z.1 175 (320 * f + j) ∧ s.1 179 (320 * f + j) = z.1 176 (320 * f + j)) ∧ ∀ a j, ¬ ((a = 178 ∨ a = 179) ∧ 320 * f ≤ j ∧ j < 320 * f + 320) → SA z s a j) N (by omega) z ⟨fun k hk => by omega, fun _ _ _ => SA.rf⟩ (fun k m s hk ⟨i1, i2⟩ => by
    show ∃ s', _ ∧ fn_X12_cake_83 _ (m + 1) _ _ _ = fn_X12_cake_83 _ m _ _ _
    rw [fn_X12_cake_83, gd_t (iI_ix (by omega)), iI_clampN (show f < 2147483648 from by omega), (i2 180 f (by omega)).1, h, q_320, iI_mul, iI_add, if_neg (nle (by omega) (by omega) (by omega)), gd_t (iI_ix (by omega)), gd_t (iI_ix (by omega)), nm_o, iI_clampN (show 320 * f + k < 2147483648 from by omega), gd_t (iI_ix (by omega)), gd_t (iI_ix (by omega)), nm_o, k1]
    refine ⟨_, ⟨fun j hj => ?_, fun a j p => ((i2 a j p).tr (sa_I rfl (by omega))).tr (sa_I rfl (by omega))⟩, rfl⟩
    have e1 : s.1 175 (320 * f + k) = z.1 175 (320 * f + k) := (i2 175 _ (by omega)).1
    have e2 : s.1 176 (320 * f + k) = z.1 176 (320 * f + k) := (i2 176 _ (by omega)).1
    by_cases e : j = k
    · rw [e]; simp [sI]; exact ⟨e1, e2⟩
    · have := i1 j (by omega)
      simp [sI, e]; exact this)
  refine ⟨s, ?_, i1, i2⟩
  refine (show _ = fn_X12_cake_83 k47 fu (iI (f : Int)) (iI ((320 * f + 0 : Nat) : Int)) z from rfl).trans (hm.trans ?_)
  show fn_X12_cake_83 _ (m + 1) _ _ _ = _
  rw [fn_X12_cake_83, gd_t (iI_ix (by omega)), iI_clampN (by omega), (i2 180 f (by omega)).1, h, q_320, iI_mul, iI_add, if_pos (yle (by omega) (by omega) (by omega)), k1]
theorem m_f47 (hf : f < 2) (hG : FMr f w F t) (ht : (t = 0 ∧ F.1 = 0) ∨ t = 1) (hV : VF F) (m : Nat) : ∃ s, fn_X12_cake_47 (m + 1) (iI (f : Int)) w = fn_X12_cake_47 m (iI ((f + 1 : Nat) : Int)) s ∧ MFo f s F ∧ ∀ a j, ¬ ((a = 178 ∨ a = 179) ∧ 320 * f ≤ j ∧ j < 320 * f + 320) → ¬ (a = 180 ∧ j = f) → SA w s a j := by
  have hl := hV.len
  have e320 : (320 : Int32) * iI (f : Int) = iI ((320 * f : Nat) : Int) := by rw [q_320, iI_mul]; rfl
  have e76 : ∀ N : Nat, N ≤ 272 → ∃ s, fn_X12_cake_76 (fn_X12_cake_47 m) (iI (f : Int)) (iI (f : Int)) (iI (N : Int)) w = fn_X12_cake_47 m (iI ((f + 1 : Nat) : Int)) s ∧ s.1 180 f = iI (N : Int) ∧ (∀ k, k < N → s.1 178 (320 * f + k) = w.1 175 (320 * f + k) ∧ s.1 179 (320 * f + k) = w.1 176 (320 * f + k)) ∧ ∀ a j, ¬ ((a = 178 ∨ a = 179) ∧ 320 * f ≤ j ∧ j < 320 * f + 320) → ¬ (a = 180 ∧ j = f) → SA w s a j := fun N hN => by
    obtain ⟨s, a1, a2, a3⟩ := m_cp (z := sI w 180 f (iI (N : Int))) (fn_X12_cake_47 m) hf hN (by rw [sI_at, if_pos rfl])
    unfold fn_X12_cake_76
    rw [gd_t (iI_ix (by omega)), nm_o, iI_clampN (by omega), nm_o, e320, a1]
    exact ⟨s, rfl, (a3 180 f (by omega)).1.trans (by rw [sI_at, if_pos rfl]), fun k hk => ⟨(a2 k hk).1.trans (sa_Ia rfl (by omega)).1, (a2 k hk).2.trans (sa_Ia rfl (by omega)).1⟩, fun a j p1 p2 => (sa_I rfl p2).tr (a3 a j p1)⟩
  rw [fn_X12_cake_47, if_neg (show ¬ (2 : Int32) ≤ iI (f : Int) from by rw [q_2]; exact nle (by omega) (by omega) (by omega)), gd_t (iI_ix (by omega)), iI_clampN (by omega), hG.1]
  rcases ht with ⟨e, hF⟩ | e
  · obtain ⟨s, a1, a2, a3, a4⟩ := e76 0 (by omega)
    rw [e, if_pos z0]
    refine ⟨s, by rw [← a1, z0], ⟨by rw [hF]; exact a2, fun k hk => by omega⟩, a4⟩
  · obtain ⟨g1, g2⟩ := hG.2 e
    obtain ⟨s, a1, a2, a3, a4⟩ := e76 F.1 hl
    rw [e, if_neg (show ¬ iI ((1 : Nat) : Int) = 0 from by decide), gd_t (iI_ix (by omega)), g1]
    exact ⟨s, a1, ⟨a2, fun k hk => ⟨(a3 k hk).1.trans (g2 k hk).1, (a3 k hk).2.trans (g2 k hk).2⟩⟩, a4⟩
theorem m_cakeEnd (hM : DMr w c dr hpp hdd) (hC : VC c) (hG0 : FMr 0 w F0 t0) (hG1 : FMr 1 w F1 t1) (h0 : (t0 = 0 ∧ F0.1 = 0) ∨ t0 = 1) (h1 : (t1 = 0 ∧ F1.1 = 0) ∨ t1 = 1) (hV0 : VF F0) (hV1 : VF F1) (hU : w.1 172 22 = iI ((u0 + u1 : Nat) : Int)) (hdr : 0 ≤ dr ∧ dr ≤ 999) :
    ∃ w', (nm (sI w 172 43 (w.1 172 39)) (fun z4 => nm (sI z4 172 44 (z4.1 172 40)) (fun z5 => nm (sI z5 172 45 (z5.1 172 41)) (fun z6 => nm (sI z6 172 23 (z6.1 172 22)) (fun z7 => fn_X12_cake_47 fu 0 z7))))) = some (iI (c 6 0), w') ∧ MR w' c ∧ MFo 0 w' F0 ∧ MFo 1 w' F1 ∧ w'.1 172 23 = iI ((u0 + u1 : Nat) : Int) ∧ MB 197 0 w' (b0r c dr) ∧ w'.1 172 51 = 0 ∧ w'.1 172 52 = 0 ∧ w'.1 172 71 = 0 ∧ w'.1 172 65 = 0 ∧ (∀ i, i < 3 → w'.1 211 i = 0) ∧ ∀ a j, ¬ (a = 172 ∧ (j = 23 ∨ j = 43 ∨ j = 44 ∨ j = 45 ∨ j = 51 ∨ j = 52 ∨ j = 65 ∨ j = 71)) → ¬ (178 ≤ a ∧ a ≤ 180) → ¬ (188 ≤ a ∧ a ≤ 190) → ¬ (194 ≤ a ∧ a ≤ 197) → ¬ a = 211 → SA w w' a j := by
  obtain ⟨y1, y2, y3, y4, y5, y6, y7, y8⟩ := hM
  have hC0 := hC.1
  have hC1 := hC.2.1
  rw [y1, nm_o, (sa_I (z := w) (a := 172) (k := 40) rfl (by omega)).1, y2, nm_o, (sa_I (z := sI w 172 43 (iI (c 6 0))) (a := 172) (k := 41) rfl (by omega)).1, (sa_I (z := w) (a := 172) (k := 41) rfl (by omega)).1, y3, nm_o, (sa_I (z := sI (sI w 172 43 (iI (c 6 0))) 172 44 (iI (c 6 1))) (a := 172) (k := 22) rfl (by omega)).1, (sa_I (z := sI w 172 43 (iI (c 6 0))) (a := 172) (k := 22) rfl (by omega)).1, (sa_I (z := w) (a := 172) (k := 22) rfl (by omega)).1, hU, nm_o]
  generalize hw1 : sI (sI (sI (sI w 172 43 (iI (c 6 0))) 172 44 (iI (c 6 1))) 172 45 (iI (c 6 2))) 172 23 (iI ((u0 + u1 : Nat) : Int)) = w1
  have k1' : ∀ a j, ¬ (a = 172 ∧ (j = 23 ∨ j = 43 ∨ j = 44 ∨ j = 45)) → SA w w1 a j := fun a j p => (((sa_I rfl (by omega)).tr (sa_I rfl (by omega))).tr (sa_I rfl (by omega))).tr (sa_I hw1.symm (by omega))
  have e43 : w1.1 172 43 = iI (c 6 0) := by rw [← hw1]; simp [sI]
  have e44 : w1.1 172 44 = iI (c 6 1) := by rw [← hw1]; simp [sI]
  have e45 : w1.1 172 45 = iI (c 6 2) := by rw [← hw1]; simp [sI]
  have e23 : w1.1 172 23 = iI ((u0 + u1 : Nat) : Int) := by rw [← hw1]; simp [sI]
  -- the formulas
  obtain ⟨w2, a1, a2, a3⟩ := m_f47 (f := 0) (by omega) (hG0.fr hV0 fun a j p => k1' a j (by omega)) h0 hV0 999999
  obtain ⟨w3, b1, b2, b3⟩ := m_f47 (f := 1) (by omega) ((hG1.fr hV1 fun a j p => k1' a j (by omega)).fr hV1 fun a j p => a3 a j (by omega) (by omega)) h1 hV1 999998
  have e47 : fn_X12_cake_47 fu 0 w1 = fn_X12_cake_137 fu 0 w3 := by
    refine (show _ = fn_X12_cake_47 (999999 + 1) (iI ((0 : Nat) : Int)) w1 from by rw [z0]; rfl).trans (a1.trans ?_)
    refine (show _ = fn_X12_cake_47 (999998 + 1) (iI ((1 : Nat) : Int)) w2 from rfl).trans (b1.trans ?_)
    show fn_X12_cake_47 (999997 + 1) _ _ = _
    rw [fn_X12_cake_47, if_pos (show (2 : Int32) ≤ iI ((1 + 1 : Nat) : Int) from by decide)]
  have k13 : ∀ a j, ¬ (178 ≤ a ∧ a ≤ 180) → SA w1 w3 a j := fun a j p => (a3 a j (by omega) (by omega)).tr (b3 a j (by omega) (by omega))
  have F0w3 : MFo 0 w3 F0 := by
    have hl := hV0.len
    exact ⟨(b3 180 0 (by omega) (by omega)).1.trans a2.1, fun k hk => ⟨(b3 178 _ (by omega) (by omega)).1.trans (a2.2 k hk).1, (b3 179 _ (by omega) (by omega)).1.trans (a2.2 k hk).2⟩⟩
  -- the row of pieces is emptied
  obtain ⟨m4, w4, ⟨c1, c2⟩, hm4⟩ := loopE (fun m i s => fn_X12_cake_137 m (iI (i : Int)) s) (fun i s => (∀ k, k < i → s.1 197 k = 0) ∧ ∀ a j, ¬ a = 197 → SA w3 s a j) 171 (by omega) w3 ⟨fun k hk => by omega, fun _ _ _ => SA.rf⟩ (fun i m s hi ⟨c1, c2⟩ => by
    show ∃ s', _ ∧ fn_X12_cake_137 (m + 1) _ _ = fn_X12_cake_137 m _ _
    rw [fn_X12_cake_137, q_171, if_neg (nle (by omega) (by omega) (by omega)), gd_t (iI_ix (by omega)), nm_o, iI_clampN (by omega), k1]
    refine ⟨_, ⟨fun k hk => ?_, fun a j p => (c2 a j p).tr (sa_Ia rfl p)⟩, rfl⟩
    rw [sI_at]
    by_cases e : k = i
    · rw [if_pos e]
    · rw [if_neg e]; exact c1 k (by omega))
  have w443 : w4.1 172 43 = iI (c 6 0) := (c2 172 43 (by omega)).1.trans ((k13 172 43 (by omega)).1.trans e43)
  have w444 : w4.1 172 44 = iI (c 6 1) := (c2 172 44 (by omega)).1.trans ((k13 172 44 (by omega)).1.trans e44)
  have k04 : ∀ a j, ¬ (a = 172 ∧ (j = 23 ∨ j = 43 ∨ j = 44 ∨ j = 45)) → ¬ (178 ≤ a ∧ a ≤ 180) → ¬ a = 197 → SA w w4 a j := fun a j p1 p2 p3 => ((k1' a j p1).tr (k13 a j p2)).tr (c2 a j p3)
  -- the tiers
  obtain ⟨m5, w5, ⟨d1, d2, d3, d4⟩, hm5⟩ := loopE (fun m i s => fn_X12_cake_159 m (iI (i : Int)) s) (fun i s => (∀ k, k < i → s.1 188 k = iI (c 0 k) ∧ s.1 189 k = iI (c 1 k) ∧ s.1 190 k = iI (c 2 k)) ∧ (∀ k, k < i → ∀ f, f < 7 → s.1 197 (7 * k + f) = iI (pc (b0r c dr) k f)) ∧ (∀ k, 7 * i ≤ k → k < 171 → s.1 197 k = 0) ∧ ∀ a j, ¬ (188 ≤ a ∧ a ≤ 190) → ¬ a = 197 → SA w4 s a j) (c 6 0).toNat (by omega) w4 ⟨fun k hk => by omega, fun k hk => by omega, fun k _ hk => c1 k hk, fun _ _ _ _ => SA.rf⟩ (fun i m s hi ⟨d1, d2, d3, d4⟩ => by
    have hi3 : i < 3 := by omega
    have s43 : s.1 172 43 = iI (c 6 0) := (d4 172 43 (by omega) (by omega)).1.trans w443
    have g1 : s.1 185 i = iI (c 0 i) := (d4 185 i (by omega) (by omega)).1.trans ((k04 185 i (by omega) (by omega) (by omega)).1.trans (y7 i (by omega)).1)
    have g2 : s.1 186 i = iI (c 1 i) := (d4 186 i (by omega) (by omega)).1.trans ((k04 186 i (by omega) (by omega) (by omega)).1.trans (y7 i (by omega)).2.1)
    have g3 : s.1 187 i = iI (c 2 i) := (d4 187 i (by omega) (by omega)).1.trans ((k04 187 i (by omega) (by omega) (by omega)).1.trans (y7 i (by omega)).2.2)
    obtain ⟨e0, e1, e2, e3, e4, e5, e6⟩ := b0_p (c := c) (dr := dr) (t := i) (by omega)
    have x0 : s.1 197 (7 * i + 1) = 0 := d3 _ (by omega) (by omega)
    have x1 : s.1 197 (7 * i + 2) = 0 := d3 _ (by omega) (by omega)
    have x2 : s.1 197 (7 * i + 5) = 0 := d3 _ (by omega) (by omega)
    show ∃ s', _ ∧ fn_X12_cake_159 (m + 1) _ _ = fn_X12_cake_159 m _ _
    rw [fn_X12_cake_159, s43, if_neg (nle (by omega) (by omega) (by omega)), gd_t (iI_ix (by omega)), gd_t (iI_ix (by omega)), nm_o, iI_clampN (by omega), g1, gd_t (iI_ix (by omega)), gd_t (iI_ix (by omega)), nm_o, (sa_Ia (z := s) (a := 186) (k := i) rfl (by omega)).1, g2, gd_t (iI_ix (by omega)), gd_t (iI_ix (by omega)), nm_o, (sa_Ia (z := sI s 188 i (iI (c 0 i))) (a := 187) (k := i) rfl (by omega)).1, (sa_Ia (z := s) (a := 187) (k := i) rfl (by omega)).1, g3, gd_t (x7_0 (by omega)), nm_o, gd_t (iI_ix (by omega)), gd_t (x7_3 (by omega)), nm_o, gd_t (iI_ix (by omega)), gd_t (x7_4 (by omega)), nm_o, gd_t (x7_6 (by omega)), nm_o, c7_0 (by omega), c7_3 (by omega), c7_4 (by omega), c7_6 (by omega), k1]
    generalize hs3 : sI (sI (sI s 188 i (iI (c 0 i))) 189 i (iI (c 1 i))) 190 i (iI (c 2 i)) = s3
    have ks3 : ∀ a j, ¬ (188 ≤ a ∧ a ≤ 190) → SA s s3 a j := fun a j p => ((sa_Ia rfl (by omega)).tr (sa_Ia rfl (by omega))).tr (sa_Ia hs3.symm (by omega))
    have v188 : ∀ k, s3.1 188 k = if k = i then iI (c 0 i) else s.1 188 k := fun k => by rw [← hs3]; simp [sI]
    have v189 : ∀ k, s3.1 189 k = if k = i then iI (c 1 i) else s.1 189 k := fun k => by rw [← hs3]; simp [sI]
    have v190 : ∀ k, s3.1 190 k = if k = i then iI (c 2 i) else s.1 190 k := fun k => by rw [← hs3]; simp [sI]
    have h188 : (sI s3 197 (7 * i) (iI (i : Int))).1 188 i = iI (c 0 i) := by rw [(sa_Ia (z := s3) (a := 188) (k := i) rfl (by omega)).1, v188, if_pos rfl]
    rw [h188]
    have h189 : (sI (sI s3 197 (7 * i) (iI (i : Int))) 197 (7 * i + 3) (iI (c 0 i))).1 189 i = iI (c 1 i) := by rw [(sa_Ia (z := sI s3 197 (7 * i) (iI (i : Int))) (a := 189) (k := i) rfl (by omega)).1, (sa_Ia (z := s3) (a := 189) (k := i) rfl (by omega)).1, v189, if_pos rfl]
    rw [h189]
    generalize hs7 : sI (sI (sI (sI s3 197 (7 * i) (iI (i : Int))) 197 (7 * i + 3) (iI (c 0 i))) 197 (7 * i + 4) (iI (c 1 i))) 197 (7 * i + 6) (-1) = s7
    have ks7 : ∀ a j, ¬ a = 197 → SA s3 s7 a j := fun a j p => (((sa_Ia rfl p).tr (sa_Ia rfl p)).tr (sa_Ia rfl p)).tr (sa_Ia hs7.symm p)
    have v197 : ∀ k, s7.1 197 k = if k = 7 * i + 6 then -1 else if k = 7 * i + 4 then iI (c 1 i) else if k = 7 * i + 3 then iI (c 0 i) else if k = 7 * i then iI (i : Int) else s.1 197 k := fun k => by
      rw [← hs7, sI_at]
      by_cases q6 : k = 7 * i + 6
      · rw [if_pos q6, if_pos q6]
      · rw [if_neg q6, if_neg q6, sI_at]
        by_cases q4 : k = 7 * i + 4
        · rw [if_pos q4, if_pos q4]
        · rw [if_neg q4, if_neg q4, sI_at]
          by_cases q3 : k = 7 * i + 3
          · rw [if_pos q3, if_pos q3]
          · rw [if_neg q3, if_neg q3, sI_at]
            by_cases q0 : k = 7 * i
            · rw [if_pos q0, if_pos q0]
            · rw [if_neg q0, if_neg q0, (ks3 197 k (by omega)).1]
    refine ⟨s7, ⟨fun k hk => ?_, fun k hk f hf => ?_, fun k hk1 hk2 => ?_, fun a j p1 p2 => ((d4 a j p1 p2).tr (ks3 a j p1)).tr (ks7 a j p2)⟩, rfl⟩
    · rw [(ks7 188 k (by omega)).1, (ks7 189 k (by omega)).1, (ks7 190 k (by omega)).1, v188, v189, v190]
      by_cases e : k = i
      · rw [if_pos e, if_pos e, if_pos e, e]; exact ⟨rfl, rfl, rfl⟩
      · rw [if_neg e, if_neg e, if_neg e]; exact d1 k (by omega)
    · rw [v197]
      by_cases e : k = i
      · subst e
        have hf' : f = 0 ∨ f = 1 ∨ f = 2 ∨ f = 3 ∨ f = 4 ∨ f = 5 ∨ f = 6 := by omega
        rcases hf' with rfl | rfl | rfl | rfl | rfl | rfl | rfl
        · rw [if_neg (by omega), if_neg (by omega), if_neg (by omega), if_pos (by omega), e0]
        · rw [if_neg (by omega), if_neg (by omega), if_neg (by omega), if_neg (by omega), x0, e1, q_0]
        · rw [if_neg (by omega), if_neg (by omega), if_neg (by omega), if_neg (by omega), x1, e2, q_0]
        · rw [if_neg (by omega), if_neg (by omega), if_pos (by omega), e3]
        · rw [if_neg (by omega), if_pos (by omega), e4]
        · rw [if_neg (by omega), if_neg (by omega), if_neg (by omega), if_neg (by omega), x2, e5, q_0]
        · rw [if_pos (by omega), e6, q_m1]
      · rw [if_neg (by omega), if_neg (by omega), if_neg (by omega), if_neg (by omega)]
        exact d2 k (by omega) f hf
    · rw [v197, if_neg (by omega), if_neg (by omega), if_neg (by omega), if_neg (by omega)]
      exact d3 k (by omega) hk2)
  have w543 : w5.1 172 43 = iI (c 6 0) := (d4 172 43 (by omega) (by omega)).1.trans w443
  have w544 : w5.1 172 44 = iI (c 6 1) := (d4 172 44 (by omega) (by omega)).1.trans w444
  have k05 : ∀ a j, ¬ (a = 172 ∧ (j = 23 ∨ j = 43 ∨ j = 44 ∨ j = 45)) → ¬ (178 ≤ a ∧ a ≤ 180) → ¬ a = 197 → ¬ (188 ≤ a ∧ a ≤ 190) → SA w w5 a j := fun a j p1 p2 p3 p4 => (k04 a j p1 p2 p3).tr (d4 a j p4 p3)
  -- the guests
  obtain ⟨m6, w6, ⟨g1, g2⟩, hm6⟩ := loopE (fun m i s => fn_X12_cake_268 m (iI (i : Int)) s) (fun i s => (∀ k, k < i → s.1 194 k = iI (c 3 k) ∧ s.1 195 k = iI (c 4 k) ∧ s.1 196 k = iI (c 5 k)) ∧ ∀ a j, ¬ (194 ≤ a ∧ a ≤ 196) → SA w5 s a j) (c 6 1).toNat (by omega) w5 ⟨fun k hk => by omega, fun _ _ _ => SA.rf⟩ (fun i m s hi ⟨g1, g2⟩ => by
    have s44 : s.1 172 44 = iI (c 6 1) := (g2 172 44 (by omega)).1.trans w544
    have x1 : s.1 191 i = iI (c 3 i) := (g2 191 i (by omega)).1.trans ((k05 191 i (by omega) (by omega) (by omega) (by omega)).1.trans (y8 i (by omega)).1)
    have x2 : s.1 192 i = iI (c 4 i) := (g2 192 i (by omega)).1.trans ((k05 192 i (by omega) (by omega) (by omega) (by omega)).1.trans (y8 i (by omega)).2.1)
    have x3 : s.1 193 i = iI (c 5 i) := (g2 193 i (by omega)).1.trans ((k05 193 i (by omega) (by omega) (by omega) (by omega)).1.trans (y8 i (by omega)).2.2)
    show ∃ s', _ ∧ fn_X12_cake_268 (m + 1) _ _ = fn_X12_cake_268 m _ _
    rw [fn_X12_cake_268, s44, if_neg (nle (by omega) (by omega) (by omega)), gd_t (iI_ix (by omega)), gd_t (iI_ix (by omega)), nm_o, iI_clampN (by omega), gd_t (iI_ix (by omega)), gd_t (iI_ix (by omega)), nm_o, gd_t (iI_ix (by omega)), gd_t (iI_ix (by omega)), nm_o, k1]
    refine ⟨_, ⟨fun k hk => ?_, fun a j p => (((g2 a j p).tr (sa_Ia rfl (by omega))).tr (sa_Ia rfl (by omega))).tr (sa_Ia rfl (by omega))⟩, rfl⟩
    by_cases e : k = i
    · rw [e]; simp [sI]; exact ⟨x1, x2, x3⟩
    · have := g1 k (by omega)
      simp [sI, e]; exact this)
  have w643 : w6.1 172 43 = iI (c 6 0) := (g2 172 43 (by omega)).1.trans w543
  have w642 : w6.1 172 42 = iI dr := (g2 172 42 (by omega)).1.trans ((k05 172 42 (by omega) (by omega) (by omega) (by omega)).1.trans y5)
  generalize hw7 : sI (sI (sI (sI (sI (sI w6 197 168 (iI (c 6 0))) 197 170 (iI dr)) 172 51 0) 172 52 0) 172 71 0) 172 65 0 = w7
  have k7 : ∀ a j, ¬ (a = 197 ∧ (j = 168 ∨ j = 170)) → ¬ (a = 172 ∧ (j = 51 ∨ j = 52 ∨ j = 65 ∨ j = 71)) → SA w6 w7 a j := fun a j p1 p2 => (((((sa_I rfl (by omega)).tr (sa_I rfl (by omega))).tr (sa_I rfl (by omega))).tr (sa_I rfl (by omega))).tr (sa_I rfl (by omega))).tr (sa_I hw7.symm (by omega))
  -- the boxes
  obtain ⟨m8, w8, ⟨o1, o2⟩, hm8⟩ := loopE (fun m i s => fn_X12_cake_364 m (iI (i : Int)) s) (fun i s => (∀ k, k < i → s.1 211 k = 0) ∧ ∀ a j, ¬ a = 211 → SA w7 s a j) 3 (by omega) w7 ⟨fun k hk => by omega, fun _ _ _ => SA.rf⟩ (fun i m s hi ⟨o1, o2⟩ => by
    show ∃ s', _ ∧ fn_X12_cake_364 (m + 1) _ _ = fn_X12_cake_364 m _ _
    rw [fn_X12_cake_364, q_3, if_neg (nle (by omega) (by omega) (by omega)), gd_t (iI_ix (by omega)), nm_o, iI_clampN (by omega), k1]
    refine ⟨_, ⟨fun k hk => ?_, fun a j p => (o2 a j p).tr (sa_Ia rfl p)⟩, rfl⟩
    rw [sI_at]
    by_cases e : k = i
    · rw [if_pos e]
    · rw [if_neg e]; exact o1 k (by omega))
  have w843 : w8.1 172 43 = iI (c 6 0) := (o2 172 43 (by omega)).1.trans ((k7 172 43 (by omega) (by omega)).1.trans w643)
  have k68 : ∀ a j, ¬ a = 197 → ¬ (a = 172 ∧ (j = 51 ∨ j = 52 ∨ j = 65 ∨ j = 71)) → ¬ a = 211 → SA w6 w8 a j := fun a j p1 p2 p3 => (k7 a j (by omega) p2).tr (o2 a j p3)
  have k08 : ∀ a j, ¬ (a = 172 ∧ (j = 23 ∨ j = 43 ∨ j = 44 ∨ j = 45 ∨ j = 51 ∨ j = 52 ∨ j = 65 ∨ j = 71)) → ¬ (178 ≤ a ∧ a ≤ 180) → ¬ (188 ≤ a ∧ a ≤ 190) → ¬ (194 ≤ a ∧ a ≤ 197) → ¬ a = 211 → SA w w8 a j := fun a j p1 p2 p3 p4 p5 => ((k05 a j (by omega) p2 (by omega) p3).tr (g2 a j (by omega))).tr (k68 a j (by omega) (by omega) p5)
  have k38 : ∀ a j, (178 ≤ a ∧ a ≤ 180) ∨ (a = 172 ∧ (j = 23 ∨ j = 44 ∨ j = 45)) → SA w3 w8 a j := fun a j p => (((c2 a j (by omega)).tr (d4 a j (by omega) (by omega))).tr (g2 a j (by omega))).tr (k68 a j (by omega) (by omega) (by omega))
  have v197 : ∀ k, w8.1 197 k = if k = 170 then iI dr else if k = 168 then iI (c 6 0) else w5.1 197 k := fun k => by
    rw [(o2 197 k (by omega)).1, ← hw7]
    have e5 : w6.1 197 k = w5.1 197 k := (g2 197 k (by omega)).1
    by_cases q1 : k = 170
    · simp [sI, q1]
    · by_cases q2 : k = 168
      · simp [sI, q2]
      · simp [sI, q1, q2]; exact e5
  refine ⟨w8, ?_, ⟨w843, ?_, ?_, fun k hk => ?_, fun k hk => ?_⟩, F0w3.fr fun a j p => k38 a j (by omega), b2.fr fun a j p => k38 a j (by omega), ?_, ⟨?_, ?_, ?_, fun p hp f hf => ?_⟩, ?_, ?_, ?_, ?_, o1, k08⟩
  · rw [e47]
    refine (show _ = fn_X12_cake_137 fu (iI ((0 : Nat) : Int)) w3 from by rw [z0]).trans (hm4.trans ?_)
    show fn_X12_cake_137 (m4 + 1) _ _ = _
    rw [fn_X12_cake_137, q_171, if_pos (show iI 171 ≤ iI ((171 : Nat) : Int) from by decide)]
    refine (show _ = fn_X12_cake_159 fu (iI ((0 : Nat) : Int)) w4 from by rw [z0]).trans (hm5.trans ?_)
    show fn_X12_cake_159 (m5 + 1) _ _ = _
    rw [fn_X12_cake_159, w543, if_pos (yle (by omega) (by omega) (by omega))]
    refine (show _ = fn_X12_cake_268 fu (iI ((0 : Nat) : Int)) w5 from by rw [z0]).trans (hm6.trans ?_)
    show fn_X12_cake_268 (m6 + 1) _ _ = _
    rw [fn_X12_cake_268, (g2 172 44 (by omega)).1, w544, if_pos (yle (by omega) (by omega) (by omega)), w643, nm_o, c_168, (sa_Ia (z := w6) (a := 172) (k := 42) rfl (by omega)).1, w642, nm_o, c_170, nm_o, nm_o, nm_o, nm_o, hw7]
    refine (show _ = fn_X12_cake_364 fu (iI ((0 : Nat) : Int)) w7 from by rw [z0]).trans (hm8.trans ?_)
    show fn_X12_cake_364 (m8 + 1) _ _ = _
    rw [fn_X12_cake_364, q_3, if_pos (show iI 3 ≤ iI ((3 : Nat) : Int) from by decide), w843]
  · rw [(k38 172 44 (by omega)).1, (k13 172 44 (by omega)).1, e44]
  · rw [(k38 172 45 (by omega)).1, (k13 172 45 (by omega)).1, e45]
  · rw [(k68 188 k (by omega) (by omega) (by omega)).1, (g2 188 k (by omega)).1, (k68 189 k (by omega) (by omega) (by omega)).1, (g2 189 k (by omega)).1, (k68 190 k (by omega) (by omega) (by omega)).1, (g2 190 k (by omega)).1]
    exact d1 k (by omega)
  · rw [(k68 194 k (by omega) (by omega) (by omega)).1, (k68 195 k (by omega) (by omega) (by omega)).1, (k68 196 k (by omega) (by omega) (by omega)).1]
    exact g1 k (by omega)
  · rw [(k38 172 23 (by omega)).1, (k13 172 23 (by omega)).1, e23]
  · rw [v197, if_neg (by omega), if_pos (by omega), b0_s.1]
  · rw [v197, if_neg (by omega), if_neg (by omega), d3 _ (by omega) (by omega), b0_s.2.1, q_0]
  · rw [v197, if_pos (by omega), b0_s.2.2]
  · rw [b0_s.1] at hp
    rw [v197, if_neg (by omega), if_neg (by omega), Nat.zero_add]
    exact d2 p (by omega) f hf
  · rw [(o2 172 51 (by omega)).1, ← hw7]; simp [sI]
  · rw [(o2 172 52 (by omega)).1, ← hw7]; simp [sI]
  · rw [(o2 172 71 (by omega)).1, ← hw7]; simp [sI]
  · rw [(o2 172 65 (by omega)).1, ← hw7]; simp [sI]
end
