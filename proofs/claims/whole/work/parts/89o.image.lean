section
variable {z w : St} {c : RC} {F0 F1 : FO} {b b' : BD}
theorem x_board {p q : Nat} (hpq : p + 27 ≤ q ∨ q + 27 ≤ p) (hV : VB c b) (hB : XB q z b) : ∃ w, fn_X1_takeFrom p q z = some w ∧ XB p w b ∧ ∀ a k, ¬ (a = p ∧ 2 ≤ k ∧ k ≤ 4) → ¬ (p + 2 ≤ a ∧ a ≤ p + 26) → SA z w a k := by
  have h0 := hV.1
  obtain ⟨m, s, ⟨i1, i2⟩, hm⟩ := loopE (fun m k s => fn_X1_takeFrom_2 m p q (iI (k : Int)) s) (fun k s => (∀ i, i < k → XS (p + 2 + i) s (pc b i)) ∧ ∀ a j, ¬ (p + 2 ≤ a ∧ a ≤ p + 25) → SA z s a j) (b 168).toNat (by omega) z ⟨fun i hi => absurd hi (Nat.not_lt_zero i), fun a j _ => SA.rf⟩ (fun k m s hk ⟨i1, i2⟩ => by
    have hp1 : (k : Int) < b 168 := by omega
    have h24 := hV.n hp1
    have hS : XS (q + 2 + k) s (pc b k) := (hB.2.2.2.1 k hp1).fr fun j => i2 _ j (by omega)
    obtain ⟨s', e, g1, g2⟩ := x_takeFrom (s := p + 2 + k) (t := q + 2 + k) (by omega) hS (hV.2.2.1 k hp1).2.2.2.1
    refine ⟨s', ⟨fun i hi => ?_, fun a j ha => (i2 a j ha).tr (g2 a j (by omega))⟩, ?_⟩
    · by_cases hik : i = k
      · rw [hik]; exact g1
      · exact (i1 i (by omega)).fr fun j => g2 _ j (by omega)
    · show fn_X1_takeFrom_2 (m + 1) _ _ _ _ = fn_X1_takeFrom_2 m _ _ _ _
      rw [fn_X1_takeFrom_2, (i2 q 2 (by omega)).1, hB.1, if_neg (nle (by omega) (by omega) (by omega)), gd_t (iI_ix (by omega)), gd_t (iI_ix (by omega)), iI_clampN (by omega), show p + 1 + 1 + k = p + 2 + k from by omega, show q + 1 + 1 + k = q + 2 + k from by omega, bv_o e, k1])
  obtain ⟨m2, hm2⟩ := loopK (fun m k => fn_X1_takeFrom_33 m p q (iI (k : Int)) (fun a j => if a = p + 26 ∧ j < k then s.1 (q + 26) j else s.1 a j, s.2)) 6 (by omega) (fun k m hk => by
    show fn_X1_takeFrom_33 (m + 1) _ _ _ _ = fn_X1_takeFrom_33 m _ _ _ _
    rw [fn_X1_takeFrom_33, if_neg (by rw [q_6]; exact nle (by omega) (by omega) (by omega)), gd_t (iI_ix (by omega)), gd_t (iI_ix (by omega)), nm_o, iI_clampN (by omega), k1]
    refine congrArg (fn_X1_takeFrom_33 m _ _ _) (Prod.ext (funext fun a => funext fun j => ?_) rfl)
    simp only [sI]
    by_cases ha : a = p + 26
    · subst ha
      by_cases hj : j = k
      · subst hj
        rw [if_pos rfl, if_pos rfl, if_neg (by omega), if_pos (by omega)]
      · rw [if_pos rfl, if_neg hj]
        by_cases h2 : j < k
        · rw [if_pos ⟨rfl, h2⟩, if_pos (by omega)]
        · rw [if_neg (by omega), if_neg (by omega)]
    · rw [if_neg ha, if_neg (by omega), if_neg (by omega)])
  generalize hz6 : ((fun a j => if a = p + 26 ∧ j < 6 then s.1 (q + 26) j else s.1 a j, s.2) : St) = z6 at hm2
  have f6 : ∀ a j, a ≠ p + 26 → SA s z6 a j := fun a j ha => by
    rw [← hz6]
    refine ⟨?_, rfl⟩
    show (if a = p + 26 ∧ j < 6 then s.1 (q + 26) j else s.1 a j) = _
    rw [if_neg (fun q => ha q.1)]
  have e1 : fn_X1_takeFrom p q z = some (sI (sI (sI z6 p 2 (iI (b 168))) p 3 (iI (b 169))) p 4 (iI (b 170))) := by
    unfold fn_X1_takeFrom
    refine (show _ = fn_X1_takeFrom_2 fu p q (iI ((0 : Nat) : Int)) z from by rw [z0]).trans (hm.trans ?_)
    show fn_X1_takeFrom_2 (m + 1) _ _ _ _ = _
    rw [fn_X1_takeFrom_2, (i2 q 2 (by omega)).1, hB.1, if_pos (yle (by omega) (by omega) (by omega))]
    refine (show _ = fn_X1_takeFrom_33 fu p q (iI ((0 : Nat) : Int)) (fun a j => if a = p + 26 ∧ j < 0 then s.1 (q + 26) j else s.1 a j, s.2) from ?_).trans (hm2.trans ?_)
    · rw [z0]
      refine congrArg (fn_X1_takeFrom_33 fu p q 0) (Prod.ext (funext fun a => funext fun j => ?_) rfl)
      show s.1 a j = if a = p + 26 ∧ j < 0 then _ else _
      rw [if_neg (by omega)]
    · rw [fn_X1_takeFrom_33, if_pos (by rw [q_6]; exact yle (by omega) (by omega) (by omega)), nm_o, nm_o, nm_o, (f6 q 2 (by omega)).1, (i2 q 2 (by omega)).1, hB.1, ((sa_Ia (a := q) (k := 3) rfl (by omega))).1, (f6 q 3 (by omega)).1, (i2 q 3 (by omega)).1, hB.2.1, ((sa_Ia (z := z6) (a := q) (k := 4) rfl (by omega)).tr (sa_Ia rfl (by omega))).1, (f6 q 4 (by omega)).1, (i2 q 4 (by omega)).1, hB.2.2.1]
  have t3 : ∀ a j, a ≠ p → SA z6 (sI (sI (sI z6 p 2 (iI (b 168))) p 3 (iI (b 169))) p 4 (iI (b 170))) a j := fun a j ha => ((sa_Ia rfl ha).tr (sa_Ia rfl ha)).tr (sa_Ia rfl ha)
  refine ⟨_, e1, ⟨?_, ?_, ?_, fun i hi => ?_, fun g hg => ?_⟩, fun a k ha hb => ?_⟩
  · rw [sI_at, if_neg (by omega), sI_at, if_neg (by omega), sI_at, if_pos rfl]
  · rw [sI_at, if_neg (by omega), sI_at, if_pos rfl]
  · rw [sI_at, if_pos rfl]
  · exact (i1 i (by omega)).fr fun j => (f6 _ j (by omega)).tr (t3 _ j (by omega))
  · rw [(t3 (p + 26) g (by omega)).1, ← hz6]
    show (if p + 26 = p + 26 ∧ g < 6 then s.1 (q + 26) g else s.1 (p + 26) g) = _
    rw [if_pos ⟨rfl, hg⟩, (i2 (q + 26) g (by omega)).1]
    exact hB.2.2.2.2 g hg
  · refine ((i2 a k (by omega)).tr (f6 a k (by omega))).tr ?_
    exact ((sa_I rfl (by omega)).tr (sa_I rfl (by omega))).tr (sa_I rfl (by omega))
theorem m_isBox {y : Int} (hy : -2147483648 ≤ y ∧ y < 2147483648) : fn_X12_isBox (iI y) z = some (iI (tr (0 ≤ y ∧ y < 3)), z) := by
  unfold fn_X12_isBox
  rw [three]
  congr 3
  refine tr_c ?_
  rw [q_0, q_3, iI_lt (by omega) (by omega), iI_le (by omega) (by omega)]
  omega
theorem s_image (v : Int32) (h : RD z c F0 F1 b) : Same (fn_X11_image v) (fn_X12_image v) z := by
  obtain ⟨y, rfl, hy⟩ := ii v
  have hV := h.vb
  by_cases h1 : 0 ≤ y ∧ y < 3
  · obtain ⟨i, rfl⟩ : ∃ i : Nat, y = i := ⟨y.toNat, by omega⟩
    have hi : i < 3 := by omega
    obtain ⟨x, e1, x1, x2⟩ := x_board (p := 62 + 27 * i) (q := 34) (by omega) hV h.xb
    generalize hx' : sI x (62 + 27 * i) 5 1 = x'
    have f1 : ∀ a k, ¬ (a = 62 + 27 * i ∧ 2 ≤ k ∧ k ≤ 5) → ¬ (62 + 27 * i + 2 ≤ a ∧ a ≤ 62 + 27 * i + 26) → SA z x' a k := fun a k g1 g2 => by
      rw [← hx']
      exact (x2 a k (by omega) g2).tr (sa_I rfl (by omega))
    obtain ⟨m, hm⟩ := loopK (fun m k => fn_X12_image_18 m (iI (i : Int)) (iI (k : Int)) (fun a j => if a = 212 ∧ 171 * i ≤ j ∧ j < 171 * i + k then x'.1 197 (j - 171 * i) else if a = 211 ∧ j = i then 1 else x'.1 a j, x'.2)) 171 (by omega) (fun k m hk => by
      show fn_X12_image_18 (m + 1) _ _ _ = fn_X12_image_18 m _ _ _
      rw [fn_X12_image_18, if_neg (by rw [q_171]; exact nle (by omega) (by omega) (by omega)), gd_t (iI_ix (by omega)), q_171, iI_mul, iI_add, gd_t (iI_ix (by omega)), nm_o, k1, show Int32.toNatClampNeg (iI (171 * (i : Int) + (k : Int))) = 171 * i + k from by rw [iI_clamp (by omega)]; omega, iI_clampN (by omega)]
      refine congrArg (fn_X12_image_18 m _ _) (Prod.ext (funext fun a => funext fun j => ?_) rfl)
      simp only [sI]
      by_cases ha : a = 212
      · subst ha
        by_cases hj : j = 171 * i + k
        · subst hj
          rw [if_pos rfl, if_pos rfl, if_neg (by omega), if_neg (by omega), if_pos (by omega), show 171 * i + k - 171 * i = k from by omega]
        · rw [if_pos rfl, if_neg hj]
          by_cases h2 : 171 * i ≤ j ∧ j < 171 * i + k
          · rw [if_pos ⟨rfl, h2⟩, if_pos (by omega)]
          · rw [if_neg (by omega), if_neg (by omega), if_neg (by omega)]
      · rw [if_neg ha, if_neg (by omega), if_neg (show ¬ (a = 212 ∧ 171 * i ≤ j ∧ j < 171 * i + (k + 1)) from by omega)])
    generalize hx2 : ((fun a j => if a = 212 ∧ 171 * i ≤ j ∧ j < 171 * i + 171 then x'.1 197 (j - 171 * i) else if a = 211 ∧ j = i then 1 else x'.1 a j, x'.2) : St) = x2' at hm
    have f2 : ∀ a k, a ≠ 212 → ¬ (a = 211 ∧ k = i) → SA x' x2' a k := fun a k g1 g2 => by
      rw [← hx2]
      refine ⟨?_, rfl⟩
      show (if a = 212 ∧ 171 * i ≤ k ∧ k < 171 * i + 171 then x'.1 197 (k - 171 * i) else if a = 211 ∧ k = i then 1 else x'.1 a k) = _
      rw [if_neg (by omega), if_neg g2]
    have n97 : ∀ j, x'.1 197 j = z.1 197 j := fun j => (f1 197 j (by omega) (by omega)).1
    have b12 : ∀ j, j < 171 → x2'.1 212 (171 * i + j) = z.1 197 (0 + j) := fun j hj => by
      rw [← hx2, Nat.zero_add, ← n97]
      show (if 212 = 212 ∧ 171 * i ≤ 171 * i + j ∧ 171 * i + j < 171 * i + 171 then x'.1 197 (171 * i + j - 171 * i) else if 212 = 211 ∧ 171 * i + j = i then 1 else x'.1 212 (171 * i + j)) = _
      rw [if_pos (by omega), show 171 * i + j - 171 * i = j from by omega]
    have o12 : ∀ j, ¬ (171 * i ≤ j ∧ j < 171 * i + 171) → x2'.1 212 j = z.1 212 j := fun j hj => by
      rw [← hx2, ← (f1 212 j (by omega) (by omega)).1]
      show (if 212 = 212 ∧ 171 * i ≤ j ∧ j < 171 * i + 171 then x'.1 197 (j - 171 * i) else if 212 = 211 ∧ j = i then 1 else x'.1 212 j) = _
      rw [if_neg (by omega), if_neg (by omega)]
    refine ⟨iI (b 168), x', x2', ?_, ?_, c, F0, F1, b, RD_RX h (fun a k g1 g2 => (f1 a k (by unfold PX at g2; omega) (by unfold PX at g2; omega)).tr (f2 a k (by unfold PX at g2; omega) (by unfold PX at g2; omega))) (fun j hj => ?_)⟩
    · unfold fn_X11_image
      rw [if_neg (by rw [q_0]; exact nlt (by omega) (by omega) (by omega)), if_pos (by rw [q_3]; exact ylt (by omega) (by omega) (by omega)), gd_t (iI_ix (by omega)), iI_clampN (by omega), show 61 + 1 + 27 * i = 62 + 27 * i from by omega, bv_o e1, gd_t (iI_ix (by omega)), nm_o, hx', (f1 34 2 (by omega) (by omega)).1, h.xb.1]
    · unfold fn_X12_image
      rw [bd_o (m_isBox (by omega)), tr_1 (by omega), if_neg (by decide), gd_t (iI_ix (by omega)), nm_o, iI_clampN (by omega)]
      refine (show _ = fn_X12_image_18 fu (iI (i : Int)) (iI ((0 : Nat) : Int)) (fun a j => if a = 212 ∧ 171 * i ≤ j ∧ j < 171 * i + 0 then x'.1 197 (j - 171 * i) else if a = 211 ∧ j = i then 1 else x'.1 a j, x'.2) from ?_).trans (hm.trans ?_)
      · rw [z0]
        refine congrArg (fn_X12_image_18 fu (iI (i : Int)) 0) (Prod.ext (funext fun a => funext fun j => ?_) rfl)
        simp only [sI]
        rw [if_neg (show ¬ (a = 212 ∧ 171 * i ≤ j ∧ j < 171 * i + 0) from by omega)]
        by_cases ha : a = 211
        · by_cases hj : j = i
          · rw [if_pos ha, if_pos hj, if_pos ⟨ha, hj⟩]
          · rw [if_pos ha, if_neg hj, if_neg (fun q => hj q.2)]
        · rw [if_neg ha, if_neg (fun q => ha q.1)]
      · rw [fn_X12_image_18, if_pos (by rw [q_171]; exact yle (by omega) (by omega) (by omega)), c_168, (f2 197 168 (by omega) (by omega)).1, n97, show z.1 197 168 = iI (b 168) from h.mb.1]
    · by_cases hji : j = i
      · subst hji
        refine Or.inr ⟨?_, ?_, b, hV, x1.fr hV.1.2 fun a k g => ?_, MB_cp h.mb hV.1.2 fun k hk => b12 k hk⟩
        · rw [(f2 (62 + 27 * j) 5 (by omega) (by omega)).1, ← hx', sI_at, if_pos rfl]
        · rw [← hx2]
          show (if 211 = 212 ∧ 171 * j ≤ j ∧ j < 171 * j + 171 then x'.1 197 (j - 171 * j) else if 211 = 211 ∧ j = j then 1 else x'.1 211 j) = _
          rw [if_neg (by omega), if_pos ⟨rfl, rfl⟩]
        · refine (show SA x x' a k from ?_).tr (f2 a k (by omega) (by omega))
          rw [← hx']
          exact sa_I rfl (by omega)
      · have t : ∀ a k, 62 + 27 * j ≤ a → a ≤ 62 + 27 * j + 26 → SA z x2' a k := fun a k g1 g2 => (f1 a k (by omega) (by omega)).tr (f2 a k (by omega) (by omega))
        rw [(t (62 + 27 * j) 5 (by omega) (by omega)).1, ((f1 211 j (by omega) (by omega)).tr (f2 211 j (by omega) (by omega))).1]
        rcases h.2.2.2.2.2.2.1 j hj with g | ⟨g1, g2, bb, g3, g4, g5⟩
        · exact Or.inl g
        · exact Or.inr ⟨g1, g2, bb, g3, g4.fr g3.1.2 fun a k g => t a k (by omega) (by omega), MB_cp g5 g3.1.2 fun k hk => o12 _ (by omega)⟩
  · refine ⟨-1, z, z, ?_, ?_, c, F0, F1, b, h⟩
    · unfold fn_X11_image
      by_cases g : y < 0
      · rw [if_pos (by rw [q_0]; exact ylt (by omega) (by omega) g)]
      · rw [if_neg (by rw [q_0]; exact nlt (by omega) (by omega) g), if_neg (by rw [q_3]; exact nlt (by omega) (by omega) (by omega))]
    · unfold fn_X12_image
      rw [bd_o (m_isBox hy), tr_n h1, if_pos (show iI 0 = 0 from q_0.symm)]
theorem s_restore (v : Int32) (h : RD z c F0 F1 b) : Same (fn_X11_restore v) (fn_X12_restore v) z := by
  obtain ⟨y, rfl, hy⟩ := ii v
  by_cases h1 : 0 ≤ y ∧ y < 3
  · obtain ⟨i, rfl⟩ : ∃ i : Nat, y = i := ⟨y.toNat, by omega⟩
    have hi : i < 3 := by omega
    rcases h.2.2.2.2.2.2.1 i hi with ⟨g1, g2⟩ | ⟨g1, g2, bb, g3, g4, g5⟩
    · refine ⟨-1, z, z, ?_, ?_, c, F0, F1, b, h⟩
      · unfold fn_X11_restore
        rw [if_neg (by rw [q_0]; exact nlt (by omega) (by omega) (by omega)), if_neg (by rw [q_3]; exact nle (by omega) (by omega) (by omega)), gd_t (iI_ix (by omega)), iI_clampN (by omega), show 61 + 1 + 27 * i = 62 + 27 * i from by omega, g1, if_pos rfl]
      · unfold fn_X12_restore
        rw [bd_o (m_isBox hy), tr_1 h1, if_neg (by decide), gd_t (iI_ix (by omega)), iI_clampN (by omega), g2, if_pos rfl]
    · obtain ⟨x, e1, x1, x2⟩ := x_board (p := 34) (q := 62 + 27 * i) (by omega) g3 g4
      generalize hx' : sI (sI x 146 9 0) 146 10 0 = x'
      have f0 : ∀ a k, ¬ (a = 146 ∧ (k = 9 ∨ k = 10)) → SA x x' a k := fun a k q => by
        rw [← hx']
        exact (sa_I rfl (by omega)).tr (sa_I rfl (by omega))
      have f1 : ∀ a k, ¬ (a = 34 ∧ 2 ≤ k ∧ k ≤ 4) → ¬ (36 ≤ a ∧ a ≤ 60) → ¬ (a = 146 ∧ (k = 9 ∨ k = 10)) → SA z x' a k := fun a k q1 q2 q3 => (x2 a k (by omega) (by omega)).tr (f0 a k q3)
      obtain ⟨m, hm⟩ := loopK (fun m k => fn_X12_restore_20 m (iI (i : Int)) (iI (k : Int)) (fun a j => if a = 197 ∧ j < k then x'.1 212 (171 * i + j) else x'.1 a j, x'.2)) 171 (by omega) (fun k m hk => by
        show fn_X12_restore_20 (m + 1) _ _ _ = fn_X12_restore_20 m _ _ _
        rw [fn_X12_restore_20, if_neg (by rw [q_171]; exact nle (by omega) (by omega) (by omega)), q_171, iI_mul, iI_add, gd_t (iI_ix (by omega)), gd_t (iI_ix (by omega)), nm_o, k1, show Int32.toNatClampNeg (iI (171 * (i : Int) + (k : Int))) = 171 * i + k from by rw [iI_clamp (by omega)]; omega, iI_clampN (by omega)]
        refine congrArg (fn_X12_restore_20 m _ _) (Prod.ext (funext fun a => funext fun j => ?_) rfl)
        simp only [sI]
        by_cases ha : a = 197
        · subst ha
          by_cases hj : j = k
          · subst hj
            rw [if_pos rfl, if_pos rfl, if_neg (by omega), if_pos (by omega)]
          · rw [if_pos rfl, if_neg hj]
            by_cases h2 : j < k
            · rw [if_pos ⟨rfl, h2⟩, if_pos (by omega)]
            · rw [if_neg (by omega), if_neg (by omega)]
        · rw [if_neg ha, if_neg (by omega), if_neg (by omega)])
      generalize hx2 : ((fun a j => if a = 197 ∧ j < 171 then x'.1 212 (171 * i + j) else x'.1 a j, x'.2) : St) = y2 at hm
      have f2 : ∀ a k, a ≠ 197 → SA x' y2 a k := fun a k q => by
        rw [← hx2]
        refine ⟨?_, rfl⟩
        show (if a = 197 ∧ k < 171 then x'.1 212 (171 * i + k) else x'.1 a k) = _
        rw [if_neg (fun p => q p.1)]
      have n97 : ∀ j, j < 171 → y2.1 197 (0 + j) = z.1 212 (171 * i + j) := fun j hj => by
        rw [← hx2, Nat.zero_add, ← (f1 212 (171 * i + j) (by omega) (by omega) (by omega)).1]
        show (if 197 = 197 ∧ j < 171 then x'.1 212 (171 * i + j) else x'.1 197 j) = _
        rw [if_pos ⟨rfl, hj⟩]
      generalize hw : sI (sI y2 172 51 0) 172 52 0 = w
      have f3 : ∀ a k, ¬ (a = 172 ∧ (k = 51 ∨ k = 52)) → SA y2 w a k := fun a k q => by
        rw [← hw]
        exact (sa_I rfl (by omega)).tr (sa_I rfl (by omega))
      have B' : MB 197 0 w bb := MB_cp g5 g3.1.2 fun j hj => by rw [(f3 197 _ (by omega)).1, n97 j hj]
      refine ⟨iI (bb 168), x', w, ?_, ?_, c, F0, F1, bb, RD_act h (fun a k q1 q2 q3 => ((f1 a k (by unfold PB at q2; omega) (by unfold PB at q2; omega) (by unfold PA at q3; omega)).tr (f2 a k (by unfold PB at q2; omega))).tr (f3 a k (by unfold PA at q3; omega))) ⟨g3, x1.fr g3.1.2 fun a k q => ((f0 a k (by omega)).tr (f2 a k (by omega))).tr (f3 a k (by omega)), B'⟩ ?_⟩
      · unfold fn_X11_restore fn_X0_forget
        rw [if_neg (by rw [q_0]; exact nlt (by omega) (by omega) (by omega)), if_neg (by rw [q_3]; exact nle (by omega) (by omega) (by omega)), gd_t (iI_ix (by omega)), iI_clampN (by omega), show 61 + 1 + 27 * i = 62 + 27 * i from by omega, g1, if_neg (by decide), gd_t (iI_ix (by omega)), bv_o e1, nm_o, nm_o, bv_e, hx', (f0 34 2 (by omega)).1, x1.1]
      · unfold fn_X12_restore
        rw [bd_o (m_isBox hy), tr_1 h1, if_neg (by decide), gd_t (iI_ix (by omega)), iI_clampN (by omega), (f1 211 i (by omega) (by omega) (by omega)).1, g2, if_neg (by decide)]
        refine (show _ = fn_X12_restore_20 fu (iI (i : Int)) (iI ((0 : Nat) : Int)) (fun a j => if a = 197 ∧ j < 0 then x'.1 212 (171 * i + j) else x'.1 a j, x'.2) from ?_).trans (hm.trans ?_)
        · rw [z0]
          refine congrArg (fn_X12_restore_20 fu (iI (i : Int)) 0) (Prod.ext (funext fun a => funext fun j => ?_) rfl)
          show x'.1 a j = if a = 197 ∧ j < 0 then x'.1 212 (171 * i + j) else x'.1 a j
          rw [if_neg (by omega)]
        · rw [fn_X12_restore_20, if_pos (by rw [q_171]; exact yle (by omega) (by omega) (by omega)), nm_o, nm_o, hw, c_168, show w.1 197 168 = iI (bb 168) from B'.1]
      · refine ⟨fun _ => bb, 0, 0, Nat.le_refl 0, by omega, ?_, ?_, ?_, ?_, rfl, fun _ _ => g3, fun k hk => absurd hk (Nat.not_lt_zero k), fun k hk => absurd hk (Nat.not_lt_zero k), fun k _ hk => absurd hk (Nat.not_lt_zero k)⟩
        · rw [((f2 146 9 (by omega)).tr (f3 146 9 (by omega))).1, ← hx', sI_at, if_neg (by omega), sI_at, if_pos rfl]; exact q_0
        · rw [((f2 146 10 (by omega)).tr (f3 146 10 (by omega))).1, ← hx', sI_at, if_pos rfl]; exact q_0
        · rw [← hw, sI_at, if_neg (by omega), sI_at, if_pos rfl]; exact q_0
        · rw [← hw, sI_at, if_pos rfl]; exact q_0
  · refine ⟨-1, z, z, ?_, ?_, c, F0, F1, b, h⟩
    · unfold fn_X11_restore
      by_cases g : y < 0
      · rw [if_pos (by rw [q_0]; exact ylt (by omega) (by omega) g)]
      · rw [if_neg (by rw [q_0]; exact nlt (by omega) (by omega) g), if_pos (by rw [q_3]; exact yle (by omega) (by omega) (by omega))]
    · unfold fn_X12_restore
      rw [bd_o (m_isBox hy), tr_n h1, if_pos (show iI 0 = 0 from q_0.symm)]
end
