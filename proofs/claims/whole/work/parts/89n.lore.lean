section
variable {z w : St} {c : RC} {F0 F1 : FO} {b b' : BD}
theorem s_later (v : Int32) (h : RD z c F0 F1 b) : Same (fn_X11_later v) (fn_X12_later v) z := by
  obtain ⟨y, rfl, hy⟩ := ii v
  obtain ⟨n, t, l1, l2, l3, l4, l5, l6, l7, l8⟩ := h.2.2.2.2.2.2.2.1
  by_cases h1 : 0 ≤ y ∧ y ≤ 1000 ∧ t + y ≤ 100000
  · refine ⟨iI (t + y), sI z 162 12 (iI (t + y)), sI (sI z 162 12 (iI (t + y))) 172 72 (iI (t + y)), ?_, ?_, c, F0, F1, b, RD_RLo h (fun a k g1 g2 => (sa_I rfl (by unfold PL at g2; omega)).tr (sa_I rfl (by unfold PL at g2; omega))) ⟨n, t + y, l1, by omega, by omega, l4, l5, ?_, ?_, l8⟩⟩
    · unfold fn_X11_later fn_X4_goOn
      rw [l6, iI_add, if_neg (by rw [q_0]; exact nlt (by omega) (by omega) (by omega)), if_neg (by rw [q_1000]; exact nlt (by omega) (by omega) (by omega)), if_pos (by rw [q_100000]; exact yle (by omega) (by omega) (by omega)), nm_o, bd_e, sI_at, if_pos rfl]
    · unfold fn_X12_later
      rw [(sa_Ia (a := 172) (k := 72) rfl (by omega)).1, l7, iI_add, if_neg (by rw [q_0]; exact nlt (by omega) (by omega) (by omega)), if_neg (by rw [q_1000]; exact nlt (by omega) (by omega) (by omega)), if_pos (by rw [q_100000]; exact yle (by omega) (by omega) (by omega)), nm_o, sI_at, if_pos rfl]
    · rw [(sa_Ia (a := 162) (k := 12) rfl (by omega)).1, sI_at, if_pos rfl]
    · rw [sI_at, if_pos rfl]
  · refine ⟨-1, z, z, ?_, ?_, c, F0, F1, b, h⟩
    · unfold fn_X11_later fn_X4_goOn
      rw [l6, iI_add]
      by_cases g : y < 0
      · rw [if_pos (by rw [q_0]; exact ylt (by omega) (by omega) g), bd_e]
      · rw [if_neg (by rw [q_0]; exact nlt (by omega) (by omega) g)]
        by_cases g' : 1000 < y
        · rw [if_pos (by rw [q_1000]; exact ylt (by omega) (by omega) g'), bd_e]
        · rw [if_neg (by rw [q_1000]; exact nlt (by omega) (by omega) g'), if_neg (by rw [q_100000]; exact nle (by omega) (by omega) (by omega)), bd_e]
    · unfold fn_X12_later
      rw [l7, iI_add]
      by_cases g : y < 0
      · rw [if_pos (by rw [q_0]; exact ylt (by omega) (by omega) g)]
      · rw [if_neg (by rw [q_0]; exact nlt (by omega) (by omega) g)]
        by_cases g' : 1000 < y
        · rw [if_pos (by rw [q_1000]; exact ylt (by omega) (by omega) g')]
        · rw [if_neg (by rw [q_1000]; exact nlt (by omega) (by omega) g'), if_neg (by rw [q_100000]; exact nle (by omega) (by omega) (by omega))]
theorem x_tell {n : Nat} {t kd nu so : Int} (hn : n < 30) (h11 : z.1 162 11 = iI n) (h12 : z.1 162 12 = iI t) (h0 : ¬ z.1 2 0 = 0) (hs : so = 0 ∨ so = 1) : ∃ w, fn_X4_tell (iI kd) (iI nu) (iI so) z = some (iI n, w) ∧ w.1 162 11 = iI ((n + 1 : Nat) : Int) ∧ w.1 163 n = iI kd ∧ w.1 164 n = iI nu ∧ w.1 165 n = iI so ∧ w.1 166 n = iI t ∧ w.1 167 n = iI (-1) ∧ ∀ a k, ¬ (a = 162 ∧ k = 11) → ¬ (163 ≤ a ∧ a ≤ 167 ∧ k = n) → SA z w a k := by
  have hz : zok (iI so) = true := by rcases hs with rfl | rfl <;> decide
  unfold fn_X4_tell
  have g0 : ∀ x : Option (Int32 × St), gd (ix (iI (n : Int)) 30) x = x := fun x => gd_t (iI_ix (by omega))
  have g1 : ∀ x : Option (Int32 × St), gd (zok (iI so)) x = x := fun x => gd_t hz
  have t1 : ∀ (y : St) (a k : Nat) (v : Int32) (j : Nat), a ≠ 162 → (sI y a k v).1 162 j = y.1 162 j := fun y a k v j h => (sa_Ia rfl (fun q => h q.symm)).1
  rw [if_neg h0, h11, if_pos (by rw [q_30]; exact ylt (by omega) (by omega) (by omega))]
  simp only [g0, g1, nm_o, t1 _ 163 _ _ _ (by omega), t1 _ 164 _ _ _ (by omega), t1 _ 165 _ _ _ (by omega), t1 _ 166 _ _ _ (by omega), t1 _ 167 _ _ _ (by omega), h11, h12, iI_clampN (show n < 2147483648 from by omega), q_m1, k1]
  rw [sI_at, if_pos rfl, q_1, iI_sub, show ((n + 1 : Nat) : Int) - 1 = (n : Int) from by omega]
  refine ⟨_, rfl, by rw [sI_at, if_pos rfl], ?_, ?_, ?_, ?_, ?_, fun a k ha hb => ?_⟩
  · simp [sI]
  · simp [sI]
  · simp [sI]
  · simp [sI]
  · simp [sI]
  · exact (((((sa_I rfl (by omega)).tr (sa_I rfl (by omega))).tr (sa_I rfl (by omega))).tr (sa_I rfl (by omega))).tr (sa_I rfl (by omega))).tr (sa_I rfl (by omega))
theorem m_tell {n : Nat} {t kd nu so : Int} (hn : n < 30) (h11 : z.1 172 71 = iI n) (h12 : z.1 172 72 = iI t) (h0 : ¬ z.1 172 43 = 0) (hs : so = 0 ∨ so = 1) : ∃ w, fn_X12_tell (iI kd) (iI nu) (iI so) z = some (iI n, w) ∧ w.1 172 71 = iI ((n + 1 : Nat) : Int) ∧ w.1 206 n = iI kd ∧ w.1 207 n = iI nu ∧ w.1 210 n = iI so ∧ w.1 208 n = iI t ∧ w.1 209 n = iI (-1) ∧ ∀ a k, ¬ (a = 172 ∧ k = 71) → ¬ (206 ≤ a ∧ a ≤ 210 ∧ k = n) → SA z w a k := by
  have hz : zok (iI so) = true := by rcases hs with rfl | rfl <;> decide
  unfold fn_X12_tell
  have g0 : ∀ x : Option (Int32 × St), gd (ix (iI (n : Int)) 30) x = x := fun x => gd_t (iI_ix (by omega))
  have g1 : ∀ x : Option (Int32 × St), gd (zok (iI so)) x = x := fun x => gd_t hz
  have t1 : ∀ (y : St) (a k : Nat) (v : Int32) (j : Nat), a ≠ 172 → (sI y a k v).1 172 j = y.1 172 j := fun y a k v j h => (sa_Ia rfl (fun q => h q.symm)).1
  rw [h11, if_neg (by rw [q_30]; exact neq (by omega) (by omega) (by omega)), if_neg h0]
  simp only [g0, g1, nm_o, t1 _ 206 _ _ _ (by omega), t1 _ 207 _ _ _ (by omega), t1 _ 210 _ _ _ (by omega), t1 _ 208 _ _ _ (by omega), t1 _ 209 _ _ _ (by omega), h11, h12, iI_clampN (show n < 2147483648 from by omega), q_m1, k1]
  rw [sI_at, if_pos rfl, q_1, iI_sub, show ((n + 1 : Nat) : Int) - 1 = (n : Int) from by omega]
  refine ⟨_, rfl, by rw [sI_at, if_pos rfl], ?_, ?_, ?_, ?_, ?_, fun a k ha hb => ?_⟩
  · simp [sI]
  · simp [sI]
  · simp [sI]
  · simp [sI]
  · simp [sI]
  · exact (((((sa_I rfl (by omega)).tr (sa_I rfl (by omega))).tr (sa_I rfl (by omega))).tr (sa_I rfl (by omega))).tr (sa_I rfl (by omega))).tr (sa_I rfl (by omega))
theorem s_tell {kd nu so : Int} (h : RD z c F0 F1 b) (hk : (kd = 0 ∧ 1 ≤ nu ∧ nu ≤ 64) ∨ (kd = 1 ∧ 0 ≤ nu ∧ nu ≤ 32)) (hs : so = 0 ∨ so = 1) : Same (fn_X4_tell (iI kd) (iI nu) (iI so)) (fn_X12_tell (iI kd) (iI nu) (iI so)) z := by
  obtain ⟨n, t, l1, l2, l3, l4, l5, l6, l7, l8⟩ := h.2.2.2.2.2.2.2.1
  have hc := h.vc.1
  by_cases h1 : n < 30 ∧ ¬ c 6 0 = 0
  · have hc0 : ¬ iI (c 6 0) = 0 := i0_ne (by omega) h1.2
    obtain ⟨x, e1, x1, x2, x3, x4, x5, x6, x7⟩ := x_tell (kd := kd) (nu := nu) h1.1 l4 l6 (by rw [h.xr.1]; exact hc0) hs
    have f : ∀ a k, a ≠ 162 → ¬ (163 ≤ a ∧ a ≤ 167) → SA z x a k := fun a k g1 g2 => x7 a k (by omega) (by omega)
    obtain ⟨m, e2, m1, m2, m3, m4, m5, m6, m7⟩ := m_tell (z := x) (kd := kd) (nu := nu) (t := t) h1.1 ((f 172 71 (by omega) (by omega)).1.trans l5) ((f 172 72 (by omega) (by omega)).1.trans l7) (by rw [(f 172 43 (by omega) (by omega)).1, h.mr.1]; exact hc0) hs
    have g : ∀ a k, a < 172 → SA x m a k := fun a k g1 => m7 a k (by omega) (by omega)
    refine ⟨_, x, m, e1, e2, c, F0, F1, b, RD_RLo h (fun a k g1 g2 => (x7 a k (by unfold PL at g2; omega) (by unfold PL at g2; omega)).tr (m7 a k (by unfold PL at g2; omega) (by unfold PL at g2; omega))) ⟨n + 1, t, by omega, l2, l3, (g 162 11 (by omega)).1.trans x1, m1, ?_, ?_, fun i hi => ?_⟩⟩
    · rw [(g 162 12 (by omega)).1, (x7 162 12 (by omega) (by omega)).1, l6]
    · rw [(m7 172 72 (by omega) (by omega)).1, (x7 172 72 (by omega) (by omega)).1, l7]
    · by_cases hin : i = n
      · subst hin
        exact ⟨kd, nu, so, t, -1, (g 163 i (by omega)).1.trans x2, m2, (g 164 i (by omega)).1.trans x3, m3, (g 165 i (by omega)).1.trans x4, m4, (g 166 i (by omega)).1.trans x5, m5, (g 167 i (by omega)).1.trans x6, m6, hk, hs, l2, l3, by omega, by omega⟩
      · have o : ∀ a, a = 163 ∨ a = 164 ∨ a = 165 ∨ a = 166 ∨ a = 167 ∨ (206 ≤ a ∧ a ≤ 210) → m.1 a i = z.1 a i := fun a ha => ((x7 a i (by omega) (by omega)).tr (m7 a i (by omega) (by omega))).1
        rw [o 163 (by omega), o 164 (by omega), o 165 (by omega), o 166 (by omega), o 167 (by omega), o 206 (by omega), o 207 (by omega), o 208 (by omega), o 209 (by omega), o 210 (by omega)]
        exact l8 i (by omega)
  · refine ⟨-1, z, z, ?_, ?_, c, F0, F1, b, h⟩
    · unfold fn_X4_tell
      rw [h.xr.1, l4]
      by_cases g : c 6 0 = 0
      · rw [if_pos (by rw [g]; rfl)]
      · rw [if_neg (i0_ne (by omega) g), if_neg (by rw [q_30]; exact nlt (by omega) (by omega) (by omega))]
    · unfold fn_X12_tell
      rw [h.mr.1, l5]
      by_cases g : n = 30
      · rw [if_pos (by rw [g]; rfl)]
      · rw [if_neg (by rw [q_30]; exact neq (by omega) (by omega) (by omega)), if_pos (by rw [show c 6 0 = 0 from Decidable.byContradiction fun q => h1 ⟨by omega, q⟩]; rfl)]
theorem s_sized (u v : Int32) (hv : v = 0 ∨ v = 1) (h : RD z c F0 F1 b) : Same (fn_X11_sized u v) (fn_X12_sized u v) z := by
  obtain ⟨y, rfl, hy⟩ := ii u
  obtain ⟨s, rfl, hs⟩ : ∃ s : Int, v = iI s ∧ (s = 0 ∨ s = 1) := by
    rcases hv with rfl | rfl
    · exact ⟨0, q_0, Or.inl rfl⟩
    · exact ⟨1, q_1, Or.inr rfl⟩
  by_cases h1 : 1 ≤ y ∧ y ≤ 64
  · obtain ⟨r, z1, z2, e1, e2, e3⟩ := s_tell (kd := 0) (nu := y) h (Or.inl ⟨rfl, h1⟩) hs
    refine ⟨r, z1, z2, ?_, ?_, e3⟩
    · unfold fn_X11_sized
      rw [if_neg (by rw [q_1]; exact nlt (by omega) (by omega) (by omega)), if_pos (by rw [q_64]; exact yle (by omega) (by omega) (by omega)), q_0, bd_o e1]
    · unfold fn_X12_sized
      rw [bd_o (show fn_X12_isIn (iI y) 1 64 z1 = some (iI (tr (1 ≤ y ∧ y ≤ 64)), z1) from by rw [q_1, q_64]; exact m_isIn hy (by omega) (by omega)), tr_1 h1, if_neg (by decide), q_0, bd_o e2]
  · refine ⟨-1, z, z, ?_, ?_, c, F0, F1, b, h⟩
    · unfold fn_X11_sized
      by_cases g : y < 1
      · rw [if_pos (by rw [q_1]; exact ylt (by omega) (by omega) g)]
      · rw [if_neg (by rw [q_1]; exact nlt (by omega) (by omega) g), if_neg (by rw [q_64]; exact nle (by omega) (by omega) (by omega))]
    · unfold fn_X12_sized
      rw [bd_o (show fn_X12_isIn (iI y) 1 64 z = some (iI (tr (1 ≤ y ∧ y ≤ 64)), z) from by rw [q_1, q_64]; exact m_isIn hy (by omega) (by omega)), tr_n h1, if_pos (show iI 0 = 0 from q_0.symm)]
theorem s_rimmed (u v : Int32) (hv : v = 0 ∨ v = 1) (h : RD z c F0 F1 b) : Same (fn_X11_rimmed u v) (fn_X12_rimmed u v) z := by
  obtain ⟨y, rfl, hy⟩ := ii u
  obtain ⟨s, rfl, hs⟩ : ∃ s : Int, v = iI s ∧ (s = 0 ∨ s = 1) := by
    rcases hv with rfl | rfl
    · exact ⟨0, q_0, Or.inl rfl⟩
    · exact ⟨1, q_1, Or.inr rfl⟩
  by_cases h1 : 0 ≤ y ∧ y ≤ 32
  · obtain ⟨r, z1, z2, e1, e2, e3⟩ := s_tell (kd := 1) (nu := y) h (Or.inr ⟨rfl, h1⟩) hs
    refine ⟨r, z1, z2, ?_, ?_, e3⟩
    · unfold fn_X11_rimmed
      rw [if_neg (by rw [q_0]; exact nlt (by omega) (by omega) (by omega)), if_pos (by rw [q_32]; exact yle (by omega) (by omega) (by omega)), q_1, bd_o e1]
    · unfold fn_X12_rimmed
      rw [bd_o (show fn_X12_isIn (iI y) 0 32 z1 = some (iI (tr (0 ≤ y ∧ y ≤ 32)), z1) from by rw [q_0, q_32]; exact m_isIn hy (by omega) (by omega)), tr_1 h1, if_neg (by decide), q_1, bd_o e2]
  · refine ⟨-1, z, z, ?_, ?_, c, F0, F1, b, h⟩
    · unfold fn_X11_rimmed
      by_cases g : y < 0
      · rw [if_pos (by rw [q_0]; exact ylt (by omega) (by omega) g)]
      · rw [if_neg (by rw [q_0]; exact nlt (by omega) (by omega) g), if_neg (by rw [q_32]; exact nle (by omega) (by omega) (by omega))]
    · unfold fn_X12_rimmed
      rw [bd_o (show fn_X12_isIn (iI y) 0 32 z = some (iI (tr (0 ≤ y ∧ y ≤ 32)), z) from by rw [q_0, q_32]; exact m_isIn hy (by omega) (by omega)), tr_n h1, if_pos (show iI 0 = 0 from q_0.symm)]
theorem s_untell (v : Int32) (h : RD z c F0 F1 b) : Same (fn_X11_untell v) (fn_X12_untell v) z := by
  obtain ⟨y, rfl, hy⟩ := ii v
  obtain ⟨n, t, l1, l2, l3, l4, l5, l6, l7, l8⟩ := h.2.2.2.2.2.2.2.1
  by_cases h1 : 0 ≤ y ∧ y < n
  · obtain ⟨i, rfl⟩ : ∃ i : Nat, y = i := ⟨y.toNat, by omega⟩
    have hi : i < n := by omega
    obtain ⟨kd, nu, so, ta, ua, d1, d2, d3, d4, d5, d6, d7, d8, d9, d10, d11, d12, d13, d14, d15, d16⟩ := l8 i hi
    by_cases h2 : ua = -1
    · refine ⟨1, sI z 167 i (iI t), sI (sI z 167 i (iI t)) 209 i (iI t), ?_, ?_, c, F0, F1, b, RD_RLo h (fun a k g1 g2 => (sa_I rfl (by unfold PL at g2; omega)).tr (sa_I rfl (by unfold PL at g2; omega))) ⟨n, t, l1, l2, l3, l4, l5, l6, l7, fun j hj => ?_⟩⟩
      · unfold fn_X11_untell fn_X4_takeAway
        rw [if_neg (by rw [q_0]; exact nlt (by omega) (by omega) (by omega)), l4, if_neg (nle (by omega) (by omega) (by omega)), gd_t (iI_ix (by omega)), iI_clampN (by omega), d9, h2, if_pos (by decide), gd_t (iI_ix (by omega)), nm_o, bd_e, gd_t (by decide), l6]
      · unfold fn_X12_untell
        rw [show (sI z 167 i (iI t)).1 172 71 = iI n from l5, q_1, iI_sub, q_0, bd_o (m_isIn hy (by omega) (by omega)), tr_1 (by omega), if_neg (by decide), gd_t (iI_ix (by omega)), iI_clampN (by omega), show (sI z 167 i (iI t)).1 209 i = iI ua from d10, h2, if_pos (by decide), gd_t (iI_ix (by omega)), nm_o, show (sI z 167 i (iI t)).1 172 72 = iI t from l7]
      · by_cases hji : j = i
        · subst hji
          exact ⟨kd, nu, so, ta, t, d1, d2, d3, d4, d5, d6, d7, d8, by simp [sI], by simp [sI], d11, d12, d13, d14, by omega, by omega⟩
        · obtain ⟨kd, nu, so, ta, ua, d1, d2, d3, d4, d5, d6, d7, d8, d9, d10, d11⟩ := l8 j hj
          exact ⟨kd, nu, so, ta, ua, d1, d2, d3, d4, d5, d6, d7, d8, by simp [sI, hji, d9], by simp [sI, hji, d10], d11⟩
    · refine ⟨0, z, z, ?_, ?_, c, F0, F1, b, h⟩
      · unfold fn_X11_untell fn_X4_takeAway
        rw [if_neg (by rw [q_0]; exact nlt (by omega) (by omega) (by omega)), l4, if_neg (nle (by omega) (by omega) (by omega)), gd_t (iI_ix (by omega)), iI_clampN (by omega), d9, if_neg (by rw [q_m1]; exact neq (by omega) (by omega) h2), bd_e, gd_t (by decide)]
      · unfold fn_X12_untell
        rw [l5, q_1, iI_sub, q_0, bd_o (m_isIn hy (by omega) (by omega)), tr_1 (by omega), if_neg (by decide), gd_t (iI_ix (by omega)), iI_clampN (by omega), d10, if_neg (nlt (by omega) (by omega) (by omega))]
  · refine ⟨0, z, z, ?_, ?_, c, F0, F1, b, h⟩
    · unfold fn_X11_untell fn_X4_takeAway
      by_cases g : y < 0
      · rw [if_pos (by rw [q_0]; exact ylt (by omega) (by omega) g), bd_e, gd_t (by decide)]
      · rw [if_neg (by rw [q_0]; exact nlt (by omega) (by omega) g), l4, if_pos (yle (by omega) (by omega) (by omega)), bd_e, gd_t (by decide)]
    · unfold fn_X12_untell
      rw [l5, q_1, iI_sub, q_0, bd_o (m_isIn hy (by omega) (by omega)), tr_n (by omega), if_pos rfl]
end
