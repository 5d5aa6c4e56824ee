section
variable {z : St} {c : RC} {F0 F1 : FO} {b : BD}
/-! x notes an act -/
theorem x_drop (z : St) : fn_X0_dropOldest z = some (fun a j => if 147 ≤ a ∧ a ≤ 152 ∧ j < 39 then z.1 a (j + 1) else if a = 146 ∧ j = 9 then 39 else z.1 a j, z.2) := by
  obtain ⟨m, hm⟩ := loopK (fun m k => fn_X0_dropOldest_2 m (iI ((k + 1 : Nat) : Int)) (fun a j => if 147 ≤ a ∧ a ≤ 152 ∧ j < k then z.1 a (j + 1) else z.1 a j, z.2)) 39 (by omega) (fun k m hk => by
    show fn_X0_dropOldest_2 (m + 1) _ _ = fn_X0_dropOldest_2 m _ _
    rw [fn_X0_dropOldest_2, if_neg (by rw [q_40]; exact nle (by omega) (by omega) (by omega)), k1, q_1, iI_sub]
    have g0 : ∀ x : Option St, gd (ix (iI ((k + 1 : Nat) : Int)) 40) x = x := fun x => gd_t (iI_ix (by omega))
    have g1 : ∀ x : Option St, gd (ix (iI (((k + 1 : Nat) : Int) - 1)) 40) x = x := fun x => gd_t (iI_ix (by omega))
    simp only [g0, g1, nm_o, iI_clampN (show k + 1 < 2147483648 from by omega), show Int32.toNatClampNeg (iI (((k + 1 : Nat) : Int) - 1)) = k from by rw [iI_clamp (by omega)]; omega]
    refine congrArg (fn_X0_dropOldest_2 m _) ?_
    refine Prod.ext (funext fun a => funext fun j => ?_) rfl
    simp only [sI]
    by_cases ha : 147 ≤ a ∧ a ≤ 152
    · have ha' : a = 147 ∨ a = 148 ∨ a = 149 ∨ a = 150 ∨ a = 151 ∨ a = 152 := by omega
      by_cases hj : j = k
      · subst hj
        rcases ha' with rfl | rfl | rfl | rfl | rfl | rfl <;> simp <;> exact fun q => absurd q (by omega)
      · have : (j < k + 1) = (j < k) := propext (by omega)
        rcases ha' with rfl | rfl | rfl | rfl | rfl | rfl <;> simp [hj, this]
    · have h1 : ¬ (147 ≤ a ∧ a ≤ 152 ∧ j < k) := by omega
      have h2 : ¬ (147 ≤ a ∧ a ≤ 152 ∧ j < k + 1) := by omega
      have n1 : ¬ a = 147 := by omega
      have n2 : ¬ a = 148 := by omega
      have n3 : ¬ a = 149 := by omega
      have n4 : ¬ a = 150 := by omega
      have n5 : ¬ a = 151 := by omega
      have n6 : ¬ a = 152 := by omega
      rw [if_neg n6, if_neg n5, if_neg n4, if_neg n3, if_neg n2, if_neg n1, if_neg h1, if_neg h2])
  unfold fn_X0_dropOldest
  refine (show _ = fn_X0_dropOldest_2 fu (iI ((0 + 1 : Nat) : Int)) (fun a j => if 147 ≤ a ∧ a ≤ 152 ∧ j < 0 then z.1 a (j + 1) else z.1 a j, z.2) from ?_).trans (hm.trans ?_)
  · rw [show iI ((0 + 1 : Nat) : Int) = 1 from q_1.symm]
    refine congrArg (fn_X0_dropOldest_2 fu 1) ?_
    simp
  · rw [fn_X0_dropOldest_2, if_pos (by rw [q_40]; exact yle (by omega) (by omega) (by omega)), nm_o]
    refine congrArg some (Prod.ext (funext fun a => funext fun j => ?_) rfl)
    simp only [sI]
    by_cases ha : a = 146
    · subst ha
      by_cases hj : j = 9 <;> simp [hj]
    · simp [ha]
/-- the six numbers of an act -/
def en (e0 e1 e2 e3 e4 e5 : Int32) : Nat → Int32 := fun f => if f = 0 then e0 else if f = 1 then e1 else if f = 2 then e2 else if f = 3 then e3 else if f = 4 then e4 else e5
theorem x_perform13 {d : Nat} {v1 v2 v3 v4 : Int32} {b' : BD} (hX : RXs z c F0 F1 b) (hd : d < 40) (h9 : z.1 146 9 = iI d) (hA : ACT c F1 (en v1 v2 v3 v4 (iI (b 170)) (iI (b 169))) b b') : ∃ w, fn_X0_perform_13 v1 v2 v3 v4 z = some w ∧ XB 34 w b' ∧ w.1 146 9 = iI ((d + 1 : Nat) : Int) ∧ w.1 146 10 = iI ((d + 1 : Nat) : Int) ∧ (∀ k f, k ≠ d → f < 6 → w.1 (147 + f) k = z.1 (147 + f) k) ∧ (∀ f, f < 6 → w.1 (147 + f) d = en v1 v2 v3 v4 (iI (b 170)) (iI (b 169)) f) ∧ ∀ a k, NC a k → ¬ (146 ≤ a ∧ a ≤ 152) → SA z w a k := by
  have hB := hX.2.2.2.2.2.1
  generalize hz1 : sI (sI (sI (sI (sI (sI z 147 d v1) 148 d v2) 149 d v3) 150 d v4) 151 d (iI (b 170))) 152 d (iI (b 169)) = z1
  have hk : ∀ a k, ¬ (147 ≤ a ∧ a ≤ 152) → SA z z1 a k := fun a k h => by
    rw [← hz1]
    exact (((((sa_Ia rfl (by omega)).tr (sa_Ia rfl (by omega))).tr (sa_Ia rfl (by omega))).tr (sa_Ia rfl (by omega))).tr (sa_Ia rfl (by omega))).tr (sa_Ia rfl (by omega))
  have he : ∀ f, f < 6 → z1.1 (147 + f) d = en v1 v2 v3 v4 (iI (b 170)) (iI (b 169)) f := fun f hf => by
    rw [← hz1]
    have hf' : f = 0 ∨ f = 1 ∨ f = 2 ∨ f = 3 ∨ f = 4 ∨ f = 5 := by omega
    rcases hf' with rfl | rfl | rfl | rfl | rfl | rfl <;> simp [sI, en]
  have ho : ∀ k f, k ≠ d → f < 6 → z1.1 (147 + f) k = z.1 (147 + f) k := fun k f hkd hf => by
    rw [← hz1]
    simp [sI, hkd]
  have hX1 : RXs z1 c F0 F1 b := hX.fr fun a k h => hk a k (by unfold QXs QX at h; omega)
  obtain ⟨w, e, hb, hw⟩ := x_carry hd hX1 (hA.ex fun f hf => he f hf)
  have h91 : z1.1 146 9 = iI d := (hk 146 9 (by omega)).1.trans h9
  have h9w : w.1 146 9 = iI d := (hw 146 9 (by unfold NC; omega)).1.trans h91
  have g0 : ∀ x : Option St, gd (ix (iI (d : Int)) 40) x = x := fun x => gd_t (iI_ix (by omega))
  have ev : fn_X0_perform_13 v1 v2 v3 v4 z = some (sI (sI w 146 9 (iI ((d + 1 : Nat) : Int))) 146 10 (iI ((d + 1 : Nat) : Int))) := by
    unfold fn_X0_perform_13
    have t1 : ∀ (y : St) (a k : Nat) (v : Int32), a ≠ 146 → (sI y a k v).1 146 9 = y.1 146 9 := fun y a k v h => (sa_Ia rfl (fun q => h q.symm)).1
    have t2 : ∀ (y : St) (a k : Nat) (v : Int32) (j : Nat), a ≠ 34 → (sI y a k v).1 34 j = y.1 34 j := fun y a k v j h => (sa_Ia rfl (fun q => h q.symm)).1
    simp only [nm_o, h9, g0, t1 _ 147 _ _ (by omega), t1 _ 148 _ _ (by omega), t1 _ 149 _ _ (by omega), t1 _ 150 _ _ (by omega), t1 _ 151 _ _ (by omega), t1 _ 152 _ _ (by omega), t2 _ 147 _ _ _ (by omega), t2 _ 148 _ _ _ (by omega), t2 _ 149 _ _ _ (by omega), t2 _ 150 _ _ _ (by omega), t2 _ 151 _ _ _ (by omega), iI_clampN (show d < 2147483648 from by omega), hB.2.2.1, hB.2.1]
    rw [hz1, bv_o e, h9w, k1, sI_at, if_pos rfl]
  refine ⟨_, ev, ?_, ?_, ?_, fun k f hkd hf => ?_, fun f hf => ?_, fun a k h h' => ?_⟩
  · exact hb.fr (by
      rcases hA with ⟨p, w, k, -, -, -, -, -, -, h, rfl⟩ | ⟨p, g, -, -, -, h1, h2, h3, h4, rfl⟩ | ⟨p, g, -, -, -, h1, h2, h3, rfl⟩ | ⟨g, o, p, q, -, -, -, h1, h2, h3, h4, h5, h6, h7, rfl⟩
      · rw [(bCut_168 h hX.2.1.1.1).1]; have := h.2.2.1; omega
      · rw [(bPut_168 b p _).1]; exact hX.2.1.1.2
      · rw [(bPut_168 b p _).1]; exact hX.2.1.1.2
      · rw [(bPut_168 _ p _).1, (bPut_168 _ q _).1]; exact hX.2.1.1.2) (fun a k h => (sa_Ia rfl (by omega)).tr (sa_Ia rfl (by omega)))
  · rw [sI_at, if_neg (by omega), sI_at, if_pos rfl]
  · rw [sI_at, if_pos rfl]
  · rw [((sa_Ia (a := 147 + f) (k := k) rfl (by omega)).tr (sa_Ia rfl (by omega))).1, (hw (147 + f) k (by unfold NC; omega)).1, ho k f hkd hf]
  · rw [((sa_Ia (a := 147 + f) (k := d) rfl (by omega)).tr (sa_Ia rfl (by omega))).1, (hw (147 + f) d (by unfold NC; omega)).1, he f hf]
  · exact (((hk a k (by omega)).tr (hw a k h)).tr (sa_Ia rfl (by omega))).tr (sa_Ia rfl (by omega))
/-- how far rows are moved -/
def sh (d : Nat) : Nat := if d = 40 then 1 else 0
theorem x_perform {d : Nat} {v1 v2 v3 v4 : Int32} {b' : BD} (hX : RXs z c F0 F1 b) (hd : d ≤ 40) (h9 : z.1 146 9 = iI d) (hA : ACT c F1 (en v1 v2 v3 v4 (iI (b 170)) (iI (b 169))) b b') : ∃ w, fn_X0_perform v1 v2 v3 v4 z = some w ∧ XB 34 w b' ∧ w.1 146 9 = iI ((d - sh d + 1 : Nat) : Int) ∧ w.1 146 10 = iI ((d - sh d + 1 : Nat) : Int) ∧ (∀ k f, k < d - sh d → f < 6 → w.1 (147 + f) k = z.1 (147 + f) (k + sh d)) ∧ (∀ f, f < 6 → w.1 (147 + f) (d - sh d) = en v1 v2 v3 v4 (iI (b 170)) (iI (b 169)) f) ∧ ∀ a k, NC a k → ¬ (146 ≤ a ∧ a ≤ 152) → SA z w a k := by
  unfold fn_X0_perform sh
  rw [h9]
  by_cases h40 : d = 40
  · subst h40
    rw [if_neg (by decide), if_pos rfl, bv_o (x_drop z)]
    generalize hz1 : ((fun a j => if 147 ≤ a ∧ a ≤ 152 ∧ j < 39 then z.1 a (j + 1) else if a = 146 ∧ j = 9 then 39 else z.1 a j, z.2) : St) = z1
    have fr : ∀ a k, ¬ (146 ≤ a ∧ a ≤ 152) → SA z z1 a k := fun a k h => by
      rw [← hz1]
      refine ⟨?_, rfl⟩
      show (if 147 ≤ a ∧ a ≤ 152 ∧ k < 39 then z.1 a (k + 1) else if a = 146 ∧ k = 9 then 39 else z.1 a k) = _
      rw [if_neg (by omega), if_neg (by omega)]
    obtain ⟨w, e, g1, g2, g3, g4, g5, g6⟩ := x_perform13 (z := z1) (d := 39) (hX.fr fun a k h => fr a k (by unfold QXs QX at h; omega)) (by omega) (by rw [← hz1]; rfl) hA
    refine ⟨w, e, g1, g2, g3, fun k f hk hf => ?_, g5, fun a k h h' => (fr a k h').tr (g6 a k h h')⟩
    rw [g4 k f (by omega) hf, ← hz1]
    show (if 147 ≤ 147 + f ∧ 147 + f ≤ 152 ∧ k < 39 then z.1 (147 + f) (k + 1) else _) = _
    rw [if_pos (by omega)]
  · rw [if_pos (by rw [q_40]; exact ylt (by omega) (by omega) (by omega)), if_neg h40]
    obtain ⟨w, e, g1, g2, g3, g4, g5, g6⟩ := x_perform13 hX (by omega) h9 hA
    exact ⟨w, e, g1, g2, g3, fun k f hk hf => g4 k f (by omega) hf, g5, g6⟩
/-! the reference notes an act -/
theorem m_act50 {d : Nat} (hd : d < 40) (h51 : z.1 172 51 = iI d) : ∃ w, fn_X12_act_50 z = some w ∧ w.1 172 51 = iI ((d + 1 : Nat) : Int) ∧ w.1 172 52 = 0 ∧ (∀ j, j < 171 * d → w.1 199 j = z.1 199 j) ∧ (∀ j, j < 171 → w.1 199 (171 * d + j) = z.1 197 j) ∧ ∀ a k, ¬ (a = 172 ∧ (k = 51 ∨ k = 52)) → a ≠ 199 → SA z w a k := by
  obtain ⟨m, hm⟩ := loopK (fun m k => fn_X12_act_52 m (iI (k : Int)) (fun a j => if a = 199 ∧ 171 * d ≤ j ∧ j < 171 * d + k then z.1 197 (j - 171 * d) else z.1 a j, z.2)) 171 (by omega) (fun k m hk => by
    show fn_X12_act_52 (m + 1) _ _ = fn_X12_act_52 m _ _
    rw [fn_X12_act_52, if_neg (by rw [q_171]; exact nle (by omega) (by omega) (by omega)), gd_t (iI_ix (by omega)), show ((fun a j => if a = 199 ∧ 171 * d ≤ j ∧ j < 171 * d + k then z.1 197 (j - 171 * d) else z.1 a j, z.2) : St).1 172 51 = iI d from h51, q_171, iI_mul, iI_add, gd_t (iI_ix (by omega)), nm_o, k1, show Int32.toNatClampNeg (iI (171 * (d : Int) + (k : Int))) = 171 * d + k from by rw [iI_clamp (by omega)]; omega, iI_clampN (by omega)]
    refine congrArg (fn_X12_act_52 m _) (Prod.ext (funext fun a => funext fun j => ?_) rfl)
    simp only [sI]
    by_cases ha : a = 199
    · subst ha
      by_cases hj : j = 171 * d + k
      · subst hj
        rw [if_pos rfl, if_pos rfl, if_neg (by omega), if_pos (by omega), show 171 * d + k - 171 * d = k from by omega]
      · rw [if_pos rfl, if_neg hj]
        by_cases h2 : 171 * d ≤ j ∧ j < 171 * d + k
        · rw [if_pos ⟨rfl, h2⟩, if_pos (by omega)]
        · rw [if_neg (by omega), if_neg (by omega)]
    · rw [if_neg ha, if_neg (by omega), if_neg (by omega)])
  have e : fn_X12_act_50 z = _ := (show fn_X12_act_50 z = fn_X12_act_52 fu (iI ((0 : Nat) : Int)) (fun a j => if a = 199 ∧ 171 * d ≤ j ∧ j < 171 * d + 0 then z.1 197 (j - 171 * d) else z.1 a j, z.2) from by
    unfold fn_X12_act_50
    rw [z0]
    refine congrArg (fn_X12_act_52 fu 0) (Prod.ext (funext fun a => funext fun j => ?_) rfl)
    show z.1 a j = if a = 199 ∧ 171 * d ≤ j ∧ j < 171 * d + 0 then _ else _
    rw [if_neg (by omega)]).trans hm
  rw [e, fn_X12_act_52, if_pos (by rw [q_171]; exact yle (by omega) (by omega) (by omega)), nm_o, nm_o, show ((fun a j => if a = 199 ∧ 171 * d ≤ j ∧ j < 171 * d + 171 then z.1 197 (j - 171 * d) else z.1 a j, z.2) : St).1 172 51 = iI d from h51, k1]
  refine ⟨_, rfl, ?_, ?_, fun j hj => ?_, fun j hj => ?_, fun a k h h' => ?_⟩
  · rw [sI_at, if_neg (by omega), sI_at, if_pos rfl]
  · rw [sI_at, if_pos rfl]
  · rw [((sa_Ia (a := 199) (k := j) rfl (by omega)).tr (sa_Ia rfl (by omega))).1]
    show (if 199 = 199 ∧ 171 * d ≤ j ∧ j < 171 * d + 171 then _ else _) = _
    rw [if_neg (by omega)]
  · rw [((sa_Ia (a := 199) (k := 171 * d + j) rfl (by omega)).tr (sa_Ia rfl (by omega))).1]
    show (if 199 = 199 ∧ 171 * d ≤ 171 * d + j ∧ 171 * d + j < 171 * d + 171 then z.1 197 (171 * d + j - 171 * d) else _) = _
    rw [if_pos (by omega), show 171 * d + j - 171 * d = j from by omega]
  · refine (show SA z (_ : St) a k from ?_).tr ((sa_I rfl (by omega)).tr (sa_I rfl (by omega)))
    refine ⟨?_, rfl⟩
    show (if a = 199 ∧ _ then _ else _) = _
    rw [if_neg (fun q => h' q.1)]
theorem m_act {d : Nat} (hd : d ≤ 40) (h51 : z.1 172 51 = iI d) : ∃ w, fn_X12_act z = some w ∧ w.1 172 51 = iI ((d - sh d + 1 : Nat) : Int) ∧ w.1 172 52 = 0 ∧ (∀ j, j < 171 * (d - sh d) → w.1 199 j = z.1 199 (j + 171 * sh d)) ∧ (∀ j, j < 171 → w.1 199 (171 * (d - sh d) + j) = z.1 197 j) ∧ ∀ a k, ¬ (a = 172 ∧ (k = 51 ∨ k = 52)) → a ≠ 199 → SA z w a k := by
  unfold fn_X12_act sh
  rw [h51]
  by_cases h40 : d = 40
  · subst h40
    rw [if_pos (by decide), if_pos rfl]
    obtain ⟨m, hm⟩ := loopK (fun m k => fn_X12_act_11 m (iI (k : Int)) (fun a j => if a = 199 ∧ j < k then z.1 199 (171 + j) else z.1 a j, z.2)) 6669 (by omega) (fun k m hk => by
      show fn_X12_act_11 (m + 1) _ _ = fn_X12_act_11 m _ _
      rw [fn_X12_act_11, if_neg (by rw [q_6669]; exact nle (by omega) (by omega) (by omega)), q_171, iI_add, gd_t (iI_ix (by omega)), gd_t (iI_ix (by omega)), nm_o, k1, show Int32.toNatClampNeg (iI (171 + (k : Int))) = 171 + k from by rw [iI_clamp (by omega)]; omega, iI_clampN (by omega)]
      refine congrArg (fn_X12_act_11 m _) (Prod.ext (funext fun a => funext fun j => ?_) rfl)
      simp only [sI]
      by_cases ha : a = 199
      · subst ha
        by_cases hj : j = k
        · subst hj
          rw [if_pos rfl, if_pos rfl, if_neg (by omega), if_pos (by omega)]
        · rw [if_pos rfl, if_neg hj]
          by_cases h2 : j < k
          · rw [if_pos ⟨rfl, h2⟩, if_pos (by omega)]
          · rw [if_neg (by omega), if_neg (by omega)]
      · rw [if_neg ha, if_neg (by omega), if_neg (by omega)])
    have e : fn_X12_act_11 fu 0 z = _ := (show fn_X12_act_11 fu 0 z = fn_X12_act_11 fu (iI ((0 : Nat) : Int)) (fun a j => if a = 199 ∧ j < 0 then z.1 199 (171 + j) else z.1 a j, z.2) from by
      rw [z0]
      refine congrArg (fn_X12_act_11 fu 0) (Prod.ext (funext fun a => funext fun j => ?_) rfl)
      show z.1 a j = if a = 199 ∧ j < 0 then _ else _
      rw [if_neg (by omega)]).trans hm
    rw [e, fn_X12_act_11, if_pos (by rw [q_6669]; exact yle (by omega) (by omega) (by omega)), nm_o, show ((fun a j => if a = 199 ∧ j < 6669 then z.1 199 (171 + j) else z.1 a j, z.2) : St).1 172 51 = iI ((40 : Nat) : Int) from h51, q_1, iI_sub]
    generalize hz1 : (sI ((fun a j => if a = 199 ∧ j < 6669 then z.1 199 (171 + j) else z.1 a j, z.2) : St) 172 51 (iI (((40 : Nat) : Int) - 1))) = z1
    have o199 : ∀ j, z1.1 199 j = if j < 6669 then z.1 199 (171 + j) else z.1 199 j := fun j => by
      rw [← hz1, (sa_Ia (a := 199) (k := j) rfl (by omega)).1]
      show (if 199 = 199 ∧ j < 6669 then _ else _) = _
      by_cases h : j < 6669
      · rw [if_pos ⟨rfl, h⟩, if_pos h]
      · rw [if_neg (by omega), if_neg h]
    have oth : ∀ a k, ¬ (a = 172 ∧ k = 51) → a ≠ 199 → SA z z1 a k := fun a k h h' => by
      rw [← hz1]
      refine (show SA z (_ : St) a k from ?_).tr (sa_I rfl h)
      refine ⟨?_, rfl⟩
      show (if a = 199 ∧ _ then _ else _) = _
      rw [if_neg (fun q => h' q.1)]
    obtain ⟨w, e, g1, g2, g3, g4, g5⟩ := m_act50 (z := z1) (d := 39) (by omega) (by rw [← hz1, sI_at, if_pos rfl]; rfl)
    refine ⟨w, e, g1, g2, fun j hj => ?_, fun j hj => ?_, fun a k h h' => (oth a k (by omega) h').tr (g5 a k h h')⟩
    · rw [g3 j (by omega), o199, if_pos (by omega), show 171 + j = j + 171 * 1 from by omega]
    · rw [show 171 * (40 - 1) + j = 171 * 39 + j from by omega, g4 j hj, (oth 197 j (by omega) (by omega)).1]
  · rw [if_neg (by rw [q_40]; exact neq (by omega) (by omega) (by omega)), if_neg h40]
    obtain ⟨w, e, g1, g2, g3, g4, g5⟩ := m_act50 (d := d) (by omega) h51
    exact ⟨w, e, g1, g2, fun j hj => g3 j (by omega), g4, g5⟩
end
