/-! formulas: steps of kinds 0 push, 1 ask, 2 not, 3 do, with a number each -/
def doo (s : Int) (x y : Int32) : Int32 :=
  if s = 37 then (if y = 0 then 0 else x - x / y * y) else if s = 38 then (if x = 0 then 0 else if y = 0 then 0 else 1) else if s = 42 then x * y else if s = 43 then x + y else if s = 45 then x - y
  else if s = 47 then (if y = 0 then 0 else x / y) else if s = 60 then (if y ≤ x then 0 else 1) else if s = 61 then (if x = y then 1 else 0) else if s = 62 then (if x ≤ y then 0 else 1)
  else (if x = 0 then (if y = 0 then 0 else 1) else 1)
def isOp (s : Int) : Prop := s = 37 ∨ s = 38 ∨ s = 42 ∨ s = 43 ∨ s = 45 ∨ s = 47 ∨ s = 60 ∨ s = 61 ∨ s = 62 ∨ s = 124
def xst (s : Int) : Int := if s = 37 then 17 else if s = 38 then 9 else if s = 42 then 15 else if s = 43 then 13 else if s = 45 then 14 else if s = 47 then 16 else if s = 60 then 10 else if s = 61 then 12 else if s = 62 then 11 else 8
theorem m_done {z : St} {s : Int} (h : isOp s) (x y : Int32) : fn_X12_done (iI s) x y z = some (doo s x y, z) := by
  unfold isOp at h
  rcases h with rfl | rfl | rfl | rfl | rfl | rfl | rfl | rfl | rfl | rfl
  · rw [← q_37]; by_cases hy : y = 0 <;> simp [fn_X12_done, doo, hy, gd]
  · rw [← q_38]; by_cases hx : x = 0 <;> by_cases hy : y = 0 <;> simp [fn_X12_done, fn_X12_done_210, fn_X12_done_211, doo, hx, hy, m_truth0, m_truth1, bd]
  · rw [← q_42]; simp [fn_X12_done, doo]
  · rw [← q_43]; simp [fn_X12_done, doo]
  · rw [← q_45]; simp [fn_X12_done, doo]
  · rw [← q_47]; by_cases hy : y = 0 <;> simp [fn_X12_done, doo, hy, gd]
  · rw [← q_60]; by_cases hx : y ≤ x <;> simp [fn_X12_done, fn_X12_done_166, doo, hx, m_truth0, m_truth1, bd]
  · rw [← q_61]; by_cases hx : x = y <;> simp [fn_X12_done, fn_X12_done_194, doo, hx, m_truth0, m_truth1, bd]
  · rw [← q_62]; by_cases hx : x ≤ y <;> simp [fn_X12_done, fn_X12_done_180, doo, hx, m_truth0, m_truth1, bd]
  · rw [← q_124]; by_cases hx : x = 0 <;> by_cases hy : y = 0 <;> simp [fn_X12_done, fn_X12_done_223, fn_X12_done_228, doo, hx, hy, m_truth0, m_truth1, bd]
theorem x_truth1 {z : St} : fn_X2_truth 1 z = some (1, z) := rfl
theorem x_truth0 {z : St} : fn_X2_truth 0 z = some (0, z) := rfl
theorem x_joined {z : St} {s : Int} (h : isOp s) (x y : Int32) : fn_X2_joined (iI (xst s)) x y z = some (doo s x y, z) := by
  unfold isOp at h
  rcases h with rfl | rfl | rfl | rfl | rfl | rfl | rfl | rfl | rfl | rfl
  · rw [show iI (xst 37) = 17 from by decide]; by_cases hy : y = 0 <;> simp [fn_X2_joined, doo, hy, gd]
  · rw [show iI (xst 38) = 9 from by decide]; by_cases hx : x = 0 <;> by_cases hy : y = 0 <;> simp [fn_X2_joined, fn_X2_joined_85, fn_X2_joined_86, doo, hx, hy, x_truth0, x_truth1, bd]
  · rw [show iI (xst 42) = 15 from by decide]; simp [fn_X2_joined, doo]
  · rw [show iI (xst 43) = 13 from by decide]; simp [fn_X2_joined, doo]
  · rw [show iI (xst 45) = 14 from by decide]; simp [fn_X2_joined, doo]
  · rw [show iI (xst 47) = 16 from by decide]; by_cases hy : y = 0 <;> simp [fn_X2_joined, doo, hy, gd]
  · rw [show iI (xst 60) = 10 from by decide]; by_cases hx : y ≤ x <;> simp [fn_X2_joined, fn_X2_joined_100, doo, hx, x_truth0, x_truth1, bd]
  · rw [show iI (xst 61) = 12 from by decide]; by_cases hx : x = y <;> simp [fn_X2_joined, fn_X2_joined_128, doo, hx, x_truth0, x_truth1, bd]
  · rw [show iI (xst 62) = 11 from by decide]; by_cases hx : x ≤ y <;> simp [fn_X2_joined, fn_X2_joined_114, doo, hx, x_truth0, x_truth1, bd]
  · rw [show iI (xst 124) = 8 from by decide]; by_cases hx : x = 0 <;> by_cases hy : y = 0 <;> simp [fn_X2_joined, fn_X2_joined_64, fn_X2_joined_69, doo, hx, hy, x_truth0, x_truth1, bd]
/-- how deep the stack is after so many steps -/
def dp (fk : Nat → Nat) : Nat → Nat
  | 0 => 0
  | k + 1 => if fk k ≤ 1 then dp fk k + 1 else if fk k = 2 then dp fk k else dp fk k - 1
/-- the stack after so many steps -/
def ev (A : Nat → Int32) (fk : Nat → Nat) (fa : Nat → Int) : Nat → Nat → Int32
  | 0 => fun _ => 0
  | k + 1 => fun j =>
    if fk k = 0 then (if j = dp fk k then iI (fa k) else ev A fk fa k j)
    else if fk k = 1 then (if j = dp fk k then A (fa k).toNat else ev A fk fa k j)
    else if fk k = 2 then (if j = dp fk k - 1 then (if ev A fk fa k j = 0 then 1 else 0) else ev A fk fa k j)
    else (if j = dp fk k - 2 then doo (fa k) (ev A fk fa k (dp fk k - 2)) (ev A fk fa k (dp fk k - 1)) else ev A fk fa k j)
def FV (N : Nat) (fk : Nat → Nat) (fa : Nat → Int) : Prop := N ≤ 272 ∧ 1 ≤ dp fk N ∧ ∀ k, k < N → dp fk k ≤ 30 ∧ ((fk k = 0 ∧ 0 ≤ fa k ∧ fa k ≤ 9999) ∨ (fk k = 1 ∧ 0 ≤ fa k ∧ fa k < 6) ∨ (fk k = 2 ∧ 1 ≤ dp fk k) ∨ (fk k = 3 ∧ 2 ≤ dp fk k ∧ isOp (fa k)))
def xsp (k : Nat) (a : Int) : Int := if k = 0 then 0 else if k = 1 then a + 1 else if k = 2 then 7 else xst a
theorem xsp_0 (a : Int) : xsp 0 a = 0 := rfl
theorem xsp_1 (a : Int) : xsp 1 a = a + 1 := rfl
theorem xsp_2 (a : Int) : xsp 2 a = 7 := rfl
theorem xsp_3 (a : Int) : xsp 3 a = xst a := rfl
/-- x's formula at q -/
def XF (q : Nat) (z : St) (N : Nat) (fk : Nat → Nat) (fa : Nat → Int) : Prop := z.1 q 2 = iI N ∧ ∀ k, k < N → z.1 (q + 1) k &&& 31 = iI (xsp (fk k) (fa k)) ∧ (fk k = 0 → z.1 (q + 1) k >>> (5 &&& 31) = iI (fa k))
/-- the reference's formula -/
def MF (f : Nat) (z : St) (N : Nat) (fk : Nat → Nat) (fa : Nat → Int) : Prop := z.1 180 f = iI N ∧ ∀ k, k < N → z.1 178 (320 * f + k) = iI (fk k) ∧ z.1 179 (320 * f + k) = iI (fa k)
theorem xst_b {s : Int} : 8 ≤ xst s ∧ xst s ≤ 17 := by
  unfold xst
  repeat' split
  all_goals omega
theorem x_outcome {z : St} {N : Nat} {fk : Nat → Nat} {fa : Nat → Int} {q : Nat} (hq : q ≠ 142 ∧ q ≠ 143) (hF : XF q z N fk fa) (hV : FV N fk fa) {A : Nat → Int32} (hA : ∀ j, j < 6 → z.1 144 (j + 1) = A j) : ∃ w, fn_X2_outcome q 144 z = some (ev A fk fa N 0, w) := by
  obtain ⟨m, s, ⟨i1, i2⟩, hm⟩ := loopE (fun m k s => fn_X2_outcome_4 m q 144 (iI (dp fk k : Int)) (iI (k : Int)) s) (fun k s => (∀ a j, a ≠ q + 2 → SA z s a j) ∧ ∀ j, j < dp fk k → s.1 (q + 2) j = ev A fk fa k j) N (by have := hV.1; omega) z ⟨fun a j _ => SA.rf, fun j hj => absurd hj (Nat.not_lt_zero j)⟩ (fun k m s hk ⟨i1, i2⟩ => by
    obtain ⟨e1, e2⟩ := hF.2 k hk
    obtain ⟨d0, hc⟩ := hV.2.2 k hk
    have hN := hV.1
    have f0 : s.1 q 2 = iI N := (i1 q 2 (by omega)).1.trans hF.1
    have f1 : s.1 (q + 1) k = z.1 (q + 1) k := (i1 (q + 1) k (by omega)).1
    have ek : iI (k : Int) + 1 = iI ((k + 1 : Nat) : Int) := by rw [q_1, iI_add]; rfl
    have e7 : Int32.ofNat (ln 144) = iI 7 := by decide
    show ∃ s', _ ∧ fn_X2_outcome_4 (m + 1) _ _ _ _ _ = _
    rw [fn_X2_outcome_4, f0, if_neg (nle (by omega) (by omega) (by omega)), gd_t (iI_ix (by omega)), iI_clampN (by omega), nm_o, f1, e1, q_7]
    rcases hc with ⟨g0, g1, g2⟩ | ⟨g0, g1, g2⟩ | ⟨g0, g1⟩ | ⟨g0, g1, g2⟩
    · rw [g0, xsp_0]
      rw [if_neg (nle (by omega) (by omega) (by omega)), q_32, if_neg (nle (by omega) (by omega) (by omega)), e7, if_neg (nle (by omega) (by omega) (by omega)), q_0, if_pos (yeq (by omega) (by omega) rfl), gd_t (iI_ix (by omega)), e2 g0]
      unfold fn_X2_outcome_71 fn_X2_outcome_154
      rw [gd_t (iI_ix (by omega)), nm_o, iI_clampN (by omega), ek, show iI (dp fk k : Int) + 1 = iI ((dp fk (k + 1) : Nat) : Int) from by rw [q_1, iI_add, dp, if_pos (by omega)]; rfl]
      refine ⟨_, ⟨fun a j ha => (i1 a j ha).tr (sa_Ia rfl ha), fun j hj => ?_⟩, rfl⟩
      rw [sI_at, ev]
      simp only [g0, if_true]
      by_cases hj2 : j = dp fk k
      · rw [if_pos hj2, if_pos hj2]
      · rw [if_neg hj2, if_neg hj2]
        rw [dp, if_pos (by omega)] at hj
        exact i2 j (by omega)
    · rw [g0, xsp_1]
      rw [if_neg (nle (by omega) (by omega) (by omega)), q_32, if_neg (nle (by omega) (by omega) (by omega)), e7, if_neg (nle (by omega) (by omega) (by omega)), q_0, if_neg (neq (by omega) (by omega) (by omega)), show ln 144 = 7 from by decide, gd_t (iI_ix (by omega)), iI_clamp (by omega)]
      unfold fn_X2_outcome_71 fn_X2_outcome_154
      rw [gd_t (iI_ix (by omega)), nm_o, iI_clampN (by omega), ek, show iI (dp fk k : Int) + 1 = iI ((dp fk (k + 1) : Nat) : Int) from by rw [q_1, iI_add, dp, if_pos (by omega)]; rfl]
      refine ⟨_, ⟨fun a j ha => (i1 a j ha).tr (sa_Ia rfl ha), fun j hj => ?_⟩, rfl⟩
      rw [sI_at, ev]
      simp only [g0, if_true, if_false, show ¬ (1 : Nat) = 0 from by omega]
      by_cases hj2 : j = dp fk k
      · rw [if_pos hj2, if_pos hj2, ← hA _ (show (fa k).toNat < 6 from by omega), (i1 144 _ (by omega)).1, show (fa k + 1).toNat = (fa k).toNat + 1 from by omega]
      · rw [if_neg hj2, if_neg hj2]
        rw [dp, if_pos (by omega)] at hj
        exact i2 j (by omega)
    · rw [g0, xsp_2]
      rw [if_pos (yle (by omega) (by omega) (by omega)), if_pos rfl, q_0, if_neg (nle (by omega) (by omega) (by omega)), q_1, iI_sub, gd_t (iI_ix (by omega)), iI_clamp (by omega), show ((dp fk k : Int) - 1).toNat = dp fk k - 1 from by omega, i2 _ (by omega)]
      have ed : dp fk (k + 1) = dp fk k := by rw [dp, if_neg (by omega), if_pos g0]
      unfold fn_X2_outcome_112 fn_X2_outcome_154
      rw [← q_0, ← q_1, x_truth0, x_truth1, bd_e, bd_e, gd_t (iI_ix (by omega)), gd_t (iI_ix (by omega)), nm_o, nm_o, iI_clamp (by omega), ek, ed, show ((dp fk k : Int) - 1).toNat = dp fk k - 1 from by omega]
      refine ⟨sI s (q + 2) (dp fk k - 1) (if ev A fk fa k (dp fk k - 1) = 0 then 1 else 0), ⟨fun a j ha => (i1 a j ha).tr (sa_Ia rfl ha), fun j hj => ?_⟩, ?_⟩
      · rw [sI_at, ev]
        simp only [g0, if_true, if_false, show ¬ (2 : Nat) = 0 from by omega, show ¬ (2 : Nat) = 1 from by omega]
        by_cases hj2 : j = dp fk k - 1
        · rw [if_pos hj2, if_pos hj2, hj2]
        · rw [if_neg hj2, if_neg hj2]
          exact i2 j (by omega)
      · by_cases h0 : ev A fk fa k (dp fk k - 1) = 0
        · rw [if_pos h0, if_pos h0]
        · rw [if_neg h0, if_neg h0]
    · rw [g0, xsp_3]
      have hx := xst_b (s := fa k)
      have ed : dp fk (k + 1) = dp fk k - 1 := by rw [dp, if_neg (by omega), if_neg (by omega)]
      rw [if_pos (yle (by omega) (by omega) (by omega)), if_neg (neq (by omega) (by omega) (by omega)), q_1, if_neg (nle (by omega) (by omega) (by omega)), iI_neg, iI_add, iI_sub, gd_t (iI_ix (by omega)), gd_t (iI_ix (by omega)), iI_clamp (by omega), iI_clamp (by omega), show ((dp fk k : Int) + -1 - 1).toNat = dp fk k - 2 from by omega, show ((dp fk k : Int) + -1).toNat = dp fk k - 1 from by omega, i2 _ (by omega), i2 _ (by omega), bd_o (x_joined g2 _ _), gd_t (iI_ix (by omega)), nm_o]
      unfold fn_X2_outcome_154
      rw [ek, show iI ((dp fk k : Int) + -1) = iI ((dp fk (k + 1) : Nat) : Int) from by rw [ed]; congr 1; omega]
      refine ⟨_, ⟨fun a j ha => (i1 a j ha).tr (sa_Ia rfl ha), fun j hj => ?_⟩, rfl⟩
      rw [sI_at, ev]
      simp only [g0, if_false, show ¬ (3 : Nat) = 0 from by omega, show ¬ (3 : Nat) = 1 from by omega, show ¬ (3 : Nat) = 2 from by omega]
      by_cases hj2 : j = dp fk k - 2
      · rw [if_pos hj2, if_pos hj2]
      · rw [if_neg hj2, if_neg hj2]
        exact i2 j (by omega))
  unfold fn_X2_outcome
  have hN := hV.1
  have hd : dp fk N ≤ 31 := by
    cases N with
    | zero => exact Nat.zero_le _
    | succ N =>
      have := (hV.2.2 N (by omega)).1
      rw [dp]
      split
      · omega
      · split <;> omega
  refine ⟨s, (show _ = fn_X2_outcome_4 fu q 144 (iI ((dp fk 0 : Nat) : Int)) (iI ((0 : Nat) : Int)) z from by rw [show iI ((0 : Nat) : Int) = 0 from q_0.symm, show iI ((dp fk 0 : Nat) : Int) = 0 from q_0.symm]).trans (hm.trans ?_)⟩
  show fn_X2_outcome_4 (m + 1) _ _ _ _ _ = _
  rw [fn_X2_outcome_4, (i1 q 2 (by omega)).1, hF.1, if_pos (yle (by omega) (by omega) (by omega)), q_0, if_neg (nle (by omega) (by omega) (by have := hV.2.1; omega)), ← q_0, c_0, i2 0 (by have := hV.2.1; omega)]
theorem m_worked {z : St} {N : Nat} {fk : Nat → Nat} {fa : Nat → Int} {f : Nat} (hf : f < 2) (hF : MF f z N fk fa) (hV : N = 0 ∨ FV N fk fa) {A : Nat → Int32} (hA : ∀ j, j < 6 → z.1 184 j = A j) (o : Int32) : ∃ w, fn_X12_worked (iI f) o z = some (if N = 0 then o else ev A fk fa N 0, w) := by
  have hN : N ≤ 272 := by rcases hV with h | h; omega; exact h.1
  obtain ⟨m, s, ⟨i1, i2, i3⟩, hm⟩ := loopE (fun m k s => fn_X12_worked_16 m (iI f) (iI (dp fk k : Int)) (iI ((320 * f + k : Nat) : Int)) s) (fun k s => (∀ a j, a ≠ 182 → SA z s a j) ∧ (∀ j, j < dp fk k → s.1 182 j = ev A fk fa k j) ∧ (k = 0 → s.1 182 0 = o)) N (by omega) (sI z 182 0 o) ⟨fun a j ha => sa_Ia rfl ha, fun j hj => absurd hj (Nat.not_lt_zero j), fun _ => by rw [sI_at, if_pos rfl]⟩ (fun k m s hk ⟨i1, i2, i3⟩ => by
    obtain ⟨e1, e2⟩ := hF.2 k hk
    have hV : FV N fk fa := by rcases hV with h | h; omega; exact h
    obtain ⟨d0, hc⟩ := hV.2.2 k hk
    have f0 : s.1 180 f = iI N := (i1 180 f (by omega)).1.trans hF.1
    have f1 : s.1 178 (320 * f + k) = iI (fk k) := (i1 178 _ (by omega)).1.trans e1
    have f2 : s.1 179 (320 * f + k) = iI (fa k) := (i1 179 _ (by omega)).1.trans e2
    have ek : iI ((320 * f + k : Nat) : Int) + 1 = iI ((320 * f + (k + 1) : Nat) : Int) := by rw [q_1, iI_add]; rfl
    show ∃ s', _ ∧ fn_X12_worked_16 (m + 1) _ _ _ _ = _
    rw [fn_X12_worked_16, gd_t (iI_ix (by omega)), iI_clampN (show f < 2147483648 from by omega), f0, q_320, iI_mul, iI_add, if_neg (nle (by omega) (by omega) (by omega)), gd_t (iI_ix (by omega)), iI_clampN (show 320 * f + k < 2147483648 from by omega), f1, f2]
    rcases hc with ⟨g0, g1, g2⟩ | ⟨g0, g1, g2⟩ | ⟨g0, g1⟩ | ⟨g0, g1, g2⟩
    · rw [g0, q_0, if_pos (yeq (by omega) (by omega) (by omega))]
      unfold fn_X12_worked_54 fn_X12_worked_91 fn_X12_worked_174
      rw [gd_t (iI_ix (by omega)), iI_clampN (show 320 * f + k < 2147483648 from by omega), f1, g0, q_0, if_pos (yeq (by omega) (by omega) (by omega)), gd_t (iI_ix (by omega)), f2, gd_t (iI_ix (by omega)), nm_o, iI_clampN (by omega), ek, show iI (dp fk k : Int) + 1 = iI ((dp fk (k + 1) : Nat) : Int) from by rw [q_1, iI_add, dp, if_pos (by omega)]; rfl]
      refine ⟨_, ⟨fun a j ha => (i1 a j ha).tr (sa_Ia rfl ha), fun j hj => ?_, fun h => absurd h (by omega)⟩, rfl⟩
      rw [sI_at, ev]
      simp only [g0, if_true]
      by_cases hj2 : j = dp fk k
      · rw [if_pos hj2, if_pos hj2]
      · rw [if_neg hj2, if_neg hj2]
        rw [dp, if_pos (by omega)] at hj
        exact i2 j (by omega)
    · rw [g0, q_0, if_neg (neq (by omega) (by omega) (by omega)), gd_t (iI_ix (by omega)), q_1, if_pos (yeq (by omega) (by omega) (by omega))]
      unfold fn_X12_worked_54 fn_X12_worked_91 fn_X12_worked_174
      rw [gd_t (iI_ix (by omega)), iI_clampN (show 320 * f + k < 2147483648 from by omega), f1, g0, q_0, if_neg (neq (by omega) (by omega) (by omega)), gd_t (iI_ix (by omega)), f2, gd_t (iI_ix (by omega)), gd_t (iI_ix (by omega)), nm_o, iI_clampN (by omega), iI_clamp (show -2147483648 ≤ fa k ∧ fa k < 2147483648 from by omega), ek, show iI (dp fk k : Int) + 1 = iI ((dp fk (k + 1) : Nat) : Int) from by rw [q_1, iI_add, dp, if_pos (by omega)]; rfl]
      refine ⟨_, ⟨fun a j ha => (i1 a j ha).tr (sa_Ia rfl ha), fun j hj => ?_, fun h => absurd h (by omega)⟩, rfl⟩
      rw [sI_at, ev]
      simp only [g0, if_true, if_false, show ¬ (1 : Nat) = 0 from by omega]
      by_cases hj2 : j = dp fk k
      · rw [if_pos hj2, if_pos hj2, ← hA _ (show (fa k).toNat < 6 from by omega), (i1 184 _ (by omega)).1]
      · rw [if_neg hj2, if_neg hj2]
        rw [dp, if_pos (by omega)] at hj
        exact i2 j (by omega)
    · have ed : dp fk (k + 1) = dp fk k := by rw [dp, if_neg (by omega), if_pos g0]
      rw [g0, q_0, if_neg (neq (by omega) (by omega) (by omega)), gd_t (iI_ix (by omega)), q_1, if_neg (neq (by omega) (by omega) (by omega)), gd_t (iI_ix (by omega)), q_2, if_pos (yeq (by omega) (by omega) (by omega)), iI_sub, gd_t (iI_ix (by omega)), iI_clamp (show -2147483648 ≤ (dp fk k : Int) - 1 ∧ (dp fk k : Int) - 1 < 2147483648 from by omega), show ((dp fk k : Int) - 1).toNat = dp fk k - 1 from by omega, i2 _ (by omega)]
      unfold fn_X12_worked_132 fn_X12_worked_174
      rw [← q_0, ← q_1, m_truth0, m_truth1, bd_e, bd_e, gd_t (iI_ix (by omega)), gd_t (iI_ix (by omega)), nm_o, nm_o, iI_clamp (by omega), ek, ed, show ((dp fk k : Int) - 1).toNat = dp fk k - 1 from by omega]
      refine ⟨sI s 182 (dp fk k - 1) (if ev A fk fa k (dp fk k - 1) = 0 then 1 else 0), ⟨fun a j ha => (i1 a j ha).tr (sa_Ia rfl ha), fun j hj => ?_, fun h => absurd h (by omega)⟩, ?_⟩
      · rw [sI_at, ev]
        simp only [g0, if_true, if_false, show ¬ (2 : Nat) = 0 from by omega, show ¬ (2 : Nat) = 1 from by omega]
        by_cases hj2 : j = dp fk k - 1
        · rw [if_pos hj2, if_pos hj2, hj2]
        · rw [if_neg hj2, if_neg hj2]
          exact i2 j (by omega)
      · by_cases h0 : ev A fk fa k (dp fk k - 1) = 0
        · rw [if_pos h0, if_pos h0]
        · rw [if_neg h0, if_neg h0]
    · have ed : dp fk (k + 1) = dp fk k - 1 := by rw [dp, if_neg (by omega), if_neg (by omega)]
      rw [g0, q_0, if_neg (neq (by omega) (by omega) (by omega)), gd_t (iI_ix (by omega)), q_1, if_neg (neq (by omega) (by omega) (by omega)), gd_t (iI_ix (by omega)), q_2, if_neg (neq (by omega) (by omega) (by omega)), gd_t (iI_ix (by omega)), iI_neg, iI_add, iI_sub, gd_t (iI_ix (by omega)), gd_t (iI_ix (by omega)), iI_clamp (show -2147483648 ≤ (dp fk k : Int) + -1 - 1 ∧ (dp fk k : Int) + -1 - 1 < 2147483648 from by omega), iI_clamp (show -2147483648 ≤ (dp fk k : Int) + -1 ∧ (dp fk k : Int) + -1 < 2147483648 from by omega), show ((dp fk k : Int) + -1 - 1).toNat = dp fk k - 2 from by omega, show ((dp fk k : Int) + -1).toNat = dp fk k - 1 from by omega, i2 _ (by omega), i2 _ (by omega), bd_o (m_done g2 _ _), gd_t (iI_ix (by omega)), nm_o]
      unfold fn_X12_worked_174
      rw [ek, show iI ((dp fk k : Int) + -1) = iI ((dp fk (k + 1) : Nat) : Int) from by rw [ed]; congr 1; omega]
      refine ⟨_, ⟨fun a j ha => (i1 a j ha).tr (sa_Ia rfl ha), fun j hj => ?_, fun h => absurd h (by omega)⟩, rfl⟩
      rw [sI_at, ev]
      simp only [g0, if_false, show ¬ (3 : Nat) = 0 from by omega, show ¬ (3 : Nat) = 1 from by omega, show ¬ (3 : Nat) = 2 from by omega]
      by_cases hj2 : j = dp fk k - 2
      · rw [if_pos hj2, if_pos hj2]
      · rw [if_neg hj2, if_neg hj2]
        exact i2 j (by omega))
  unfold fn_X12_worked
  refine ⟨s, (show _ = fn_X12_worked_16 fu (iI f) (iI ((dp fk 0 : Nat) : Int)) (iI ((320 * f + 0 : Nat) : Int)) (sI z 182 0 o) from by rw [nm_o, nm_o, c_0, show iI ((dp fk 0 : Nat) : Int) = 0 from q_0.symm, q_320, iI_mul]; rfl).trans (hm.trans ?_)⟩
  show fn_X12_worked_16 (m + 1) _ _ _ _ = _
  rw [fn_X12_worked_16, gd_t (iI_ix (by omega)), iI_clampN (by omega), (i1 180 f (by omega)).1, hF.1, q_320, iI_mul, iI_add, if_pos (yle (by omega) (by omega) (by omega)), c_0]
  by_cases h0 : N = 0
  · rw [if_pos h0, i3 h0]
  · have hV : FV N fk fa := by rcases hV with h | h; omega; exact h
    rw [if_neg h0, i2 0 (by have := hV.2.1; omega)]
