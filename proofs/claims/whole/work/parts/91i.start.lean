section
variable {z w : St} {T : Nat → Int} {n s : Nat}
/-! what reading leaves as it was -/
abbrev lX (a j : Nat) : Prop := ¬ (17 ≤ a ∧ a ≤ 30) ∧ ¬ (a = 32 ∧ 3 ≤ j ∧ j ≤ 12)
abbrev lM (a j : Nat) : Prop := ¬ (a = 172 ∧ (j ≤ 9 ∨ (20 ≤ j ∧ j ≤ 22) ∨ j = 24 ∨ j = 25 ∨ (39 ≤ j ∧ j ≤ 42) ∨ j = 46 ∨ j = 47)) ∧ ¬ (174 ≤ a ∧ a ≤ 177) ∧ ¬ a = 181 ∧ ¬ a = 183 ∧ ¬ (185 ≤ a ∧ a ≤ 187) ∧ ¬ (191 ≤ a ∧ a ≤ 193)
theorem x41_fr {a k : Nat} (hf : Nf_X6_line a k) : ∀ (m : Nat) (i : Int32) (z : St) (r : Int32) (z' : St), fn_X6_readAll_41 m i z = some (r, z') → SA z z' a k := by
  have e72 : ∀ (z : St) (r : Int32) (z' : St), fn_X6_readAll_72 z = some (r, z') → SA z z' a k := fun z r z' h => by
    unfold fn_X6_readAll_72 at h
    split at h
    · cases h; exact SA.rf
    · cases h; exact SA.rf
  intro m
  induction m with
  | zero => intro i z r z' h; cases h
  | succ m ih =>
    intro i z r z' h
    rw [fn_X6_readAll_41] at h
    split at h
    · exact e72 _ _ _ h
    · split at h
      · split at h
        · exact e72 _ _ _ h
        · obtain ⟨z5, h5, h⟩ := bv_s h
          exact (ff_X6_line hf h5).tr (ih _ _ _ _ h)
      · exact e72 _ _ _ h
theorem m81_fr {a k : Nat} (hf : Nf_X12_readLine a k) : ∀ (m : Nat) (z z' : St), fn_X12_readAll_81 m z = some z' → SA z z' a k := by
  intro m
  induction m with
  | zero => intro z z' h; cases h
  | succ m ih =>
    intro z z' h
    rw [fn_X12_readAll_81] at h
    split at h
    · split at h
      · cases h; exact SA.rf
      · obtain ⟨z5, h5, h⟩ := bv_s h
        exact (ff_X12_readLine hf h5).tr (ih _ _ h)
    · cases h; exact SA.rf
def c0r : RC := fun i j => if i = 6 ∧ j = 2 then 1 else 0
def F00 : FO := (0, fun _ => 0, fun _ => 0)
theorem VC_0 : VC c0r := ⟨by decide, by decide, by decide, fun t ht => absurd ht (by show ¬ (t : Int) < 0; omega), fun t ht => absurd ht (by show ¬ (t : Int) < 0; omega)⟩
theorem VF_0 : VF F00 := Or.inl rfl
/-- a formula that isn't told -/
theorem x_clr {q f : Nat} (hq : (q = 26 ∧ f = 0) ∨ (q = 29 ∧ f = 1)) (z : St) : ∃ z', fn_X2_clear q (if f = 0 then 1 else 0) z = some z' ∧ FXr q f z' F00 0 0 ∧ ∀ a j, ¬ (a = q ∧ 2 ≤ j ∧ j ≤ 4) → ¬ a = q + 1 → SA z z' a j := by
  unfold fn_X2_clear
  rw [nm_o, nm_o, nm_o]
  generalize hz : sI (sI (sI z q 2 0) q 3 0) q 4 0 = z1
  have k1' : ∀ a j, ¬ (a = q ∧ 2 ≤ j ∧ j ≤ 4) → SA z z1 a j := fun a j p => ((sa_I rfl (by omega)).tr (sa_I rfl (by omega))).tr (sa_I hz.symm (by omega))
  have x2 : z1.1 q 2 = iI ((0 : Nat) : Int) := by rw [← hz, sI_at, if_neg (by omega), sI_at, if_neg (by omega), sI_at, if_pos rfl]; exact z0.symm
  have x3 : z1.1 q 3 = iI ((0 : Nat) : Int) := by rw [← hz, sI_at, if_neg (by omega), sI_at, if_pos rfl]; exact z0.symm
  have x4 : z1.1 q 4 = iI ((0 : Nat) : Int) := by rw [← hz, sI_at, if_pos rfl]; exact z0.symm
  have X0 : XOt q z1 [] := ⟨x2, fun k hk => absurd hk (Nat.not_lt_zero k)⟩
  obtain ⟨z2, a1, a2, a3⟩ := x_addO X0 (show ([] : SL).length < 272 from by decide) (k := if f = 0 then 1 else 0) (a := 0) (d := 0) (by rcases hq with ⟨-, rfl⟩ | ⟨-, rfl⟩; exact Or.inr (Or.inl ⟨rfl, by omega, by omega⟩); exact Or.inl ⟨rfl, by omega, by omega⟩)
  have e1 : fn_X2_add q (if f = 0 then 1 else 0) 0 z1 = some z2 := by
    rcases hq with ⟨-, rfl⟩ | ⟨-, rfl⟩
    · exact a1
    · exact a1
  rw [bv_o e1]
  refine ⟨z2, rfl, ⟨Or.inl ⟨rfl, a2.1, fun k hk => ?_⟩, (a3 q 4 (by omega) (by omega)).1.trans x4, (a3 q 3 (by omega) (by omega)).1.trans x3, by omega, VF_0, Or.inl ⟨rfl, rfl, rfl⟩⟩, fun a j p1 p2 => (k1' a j p1).tr (a3 a j p2 (by omega))⟩
  have : k = 0 := by omega
  subst this
  exact a2.2 0 (by show 0 < 1; omega)
theorem x_clear (z : St) : ∃ z', fn_X7_clear 17 z = some z' ∧ DXr z' c0r 0 0 0 ∧ FXr 26 0 z' F00 0 0 ∧ FXr 29 1 z' F00 0 0 ∧ ∀ a j, ¬ (17 ≤ a ∧ a ≤ 30) → SA z z' a j := by
  unfold fn_X7_clear
  rw [nm_o, nm_o]
  obtain ⟨z1, a1, a2, a3⟩ := x_clr (q := 26) (f := 0) (Or.inl ⟨rfl, rfl⟩) (sI (sI z 17 0 0) 17 5 0)
  obtain ⟨z2, b1, b2, b3⟩ := x_clr (q := 29) (f := 1) (Or.inr ⟨rfl, rfl⟩) z1
  rw [bv_o (show fn_X2_clear (17 + 9) 1 (sI (sI z 17 0 0) 17 5 0) = some z1 from a1), bv_o (show fn_X2_clear (17 + 12) 0 z1 = some z2 from b1), nm_o, nm_o, nm_o, nm_o]
  have e0 : z2.1 17 0 = iI 0 := by rw [(b3 17 0 (by omega) (by omega)).1, (a3 17 0 (by omega) (by omega)).1, sI_at, if_neg (by omega), sI_at, if_pos rfl, q_0]
  have e5 : z2.1 17 5 = iI 0 := by rw [(b3 17 5 (by omega) (by omega)).1, (a3 17 5 (by omega) (by omega)).1, sI_at, if_pos rfl, q_0]
  refine ⟨_, rfl, ⟨?_, ?_, ?_, ?_, ?_, ?_, fun t ht => absurd ht (by show ¬ (t : Int) < 0; omega), fun t ht => absurd ht (by show ¬ (t : Int) < 0; omega)⟩, (a2.fr fun a j p => b3 a j (by omega) (by omega)).fr fun a j p => (((sa_Ia rfl (by omega)).tr (sa_Ia rfl (by omega))).tr (sa_Ia rfl (by omega))).tr (sa_Ia rfl (by omega)), b2.fr fun a j p => (((sa_Ia rfl (by omega)).tr (sa_Ia rfl (by omega))).tr (sa_Ia rfl (by omega))).tr (sa_Ia rfl (by omega)), fun a j p => (((((((sa_Ia rfl (by omega)).tr (sa_Ia rfl (by omega))).tr (a3 a j (by omega) (by omega))).tr (b3 a j (by omega) (by omega))).tr (sa_Ia rfl (by omega))).tr (sa_Ia rfl (by omega))).tr (sa_Ia rfl (by omega))).tr (sa_Ia rfl (by omega))⟩
  · rw [sI_at, if_neg (by omega), sI_at, if_neg (by omega), sI_at, if_neg (by omega), sI_at, if_neg (by omega)]; exact e0
  · rw [sI_at, if_neg (by omega), sI_at, if_neg (by omega), sI_at, if_neg (by omega), sI_at, if_neg (by omega)]; exact e5
  · rw [sI_at, if_neg (by omega), sI_at, if_neg (by omega), sI_at, if_neg (by omega), sI_at, if_pos rfl]; exact q_1
  · rw [sI_at, if_neg (by omega), sI_at, if_neg (by omega), sI_at, if_pos rfl]; exact q_0
  · rw [sI_at, if_neg (by omega), sI_at, if_pos rfl]; exact q_0
  · rw [sI_at, if_pos rfl]; exact q_0
/-- x begins to read -/
theorem x_start (hT : VT T n) (h1 : z.1 0 1 = iI (n : Int)) (ht : ∀ i, i < n → z.1 1 i &&& 255 = iI (T i)) (hK : RK z) : ∃ zx, fn_X6_readAll (z.1 0 1) z = fn_X6_readAll_41 fu (iI ((0 : Nat) : Int)) zx ∧ XTx zx T n ∧ XK zx T n (sk T n 0) ∧ zx.1 32 11 = 0 ∧ DXr zx c0r 0 0 0 ∧ FXr 26 0 zx F00 0 0 ∧ FXr 29 1 zx F00 0 0 ∧ ∀ a j, lX a j → SA z zx a j := by
  have hn := hT.1
  have e3 : (if 1600 < z.1 0 1 then 1600 else z.1 0 1) = iI (n : Int) := by rw [h1, q_1600, if_neg (nlt (by omega) (by omega) (by omega))]
  unfold fn_X6_readAll
  rw [e3, nm_o, nm_o, nm_o, nm_o]
  generalize hz : sI (sI (sI (sI z 32 3 (iI (n : Int))) 32 4 0) 32 11 0) 32 12 (-1) = z1
  have k1' : ∀ a j, ¬ (a = 32 ∧ 3 ≤ j ∧ j ≤ 12) → SA z z1 a j := fun a j p => (((sa_I rfl (by omega)).tr (sa_I rfl (by omega))).tr (sa_I rfl (by omega))).tr (sa_I hz.symm (by omega))
  have x3 : z1.1 32 3 = iI (n : Int) := by rw [← hz]; simp [sI]
  have x4 : z1.1 32 4 = iI ((0 : Nat) : Int) := by rw [← hz]; simp [sI]; exact q_0
  have x11 : z1.1 32 11 = 0 := by rw [← hz]; simp [sI]
  have x12 : z1.1 32 12 = -1 := by rw [← hz]; simp [sI]
  obtain ⟨z2, a1, a2, a3, a4, a5⟩ := x_clear z1
  have hX2 : XTx z2 T n := ⟨(a5 32 3 (by omega)).1.trans x3, fun i hi => by rw [(a5 1 i (by omega)).1, (k1' 1 i (by omega)).1]; exact ht i hi, fun j hj => by rw [(a5 33 j (by omega)).2, (k1' 33 j (by omega)).2]; exact hK j hj, (a5 32 12 (by omega)).1.trans x12⟩
  obtain ⟨z3, b1, b2⟩ := x_advance hT hX2 (Nat.zero_le n) ((a5 32 4 (by omega)).1.trans x4)
  have k3 : ∀ a j, ¬ (a = 32 ∧ j = 5) ∧ ¬ (a = 32 ∧ j = 4) ∧ ¬ (a = 32 ∧ j = 6) ∧ ¬ (a = 32 ∧ j = 10) ∧ ¬ (a = 32 ∧ j = 7) ∧ ¬ (a = 32 ∧ j = 9) ∧ ¬ (a = 32 ∧ j = 8) → SA z2 z3 a j := fun a j q => ff_X6_advance q b1
  rw [bv_o a1, bv_o b1, z0]
  exact ⟨z3, rfl, hX2.fr fun a j p => k3 a j (by omega), b2, (k3 32 11 (by omega)).1.trans ((a5 32 11 (by omega)).1.trans x11), a2.fr fun a j p => k3 a j (by omega), a3.fr fun a j p => k3 a j (by omega), a4.fr fun a j p => k3 a j (by omega), fun a j p => ((k1' a j p.2).tr (a5 a j p.1)).tr (k3 a j (by unfold lX at p; omega))⟩
/-- the reference begins to read -/
theorem m_start (hT : VT T n) (h1 : w.1 172 1 = iI (n : Int)) (ht : ∀ i, i < n → w.1 173 i = iI (T i)) : ∃ wm, fn_X12_readAll w = fn_X12_readAll_81 fu wm ∧ MTx wm T n ∧ MK wm T n (sk T n 0) ∧ wm.1 172 2 = 0 ∧ DMr wm c0r 0 0 0 ∧ FMr 0 wm F00 0 ∧ FMr 1 wm F00 0 ∧ wm.1 172 22 = iI ((0 + 0 : Nat) : Int) ∧ wm.1 172 1 = 0 ∧ ∀ a j, lM a j → SA w wm a j := by
  have hn := hT.1
  unfold fn_X12_readAll
  rw [h1, nm_o, nm_o, nm_o, nm_o, nm_o, nm_o, nm_o, nm_o, nm_o, nm_o, nm_o, nm_o, nm_o, nm_o, c_0, c_1]
  generalize hw : sI (sI (sI (sI (sI (sI (sI (sI (sI (sI (sI (sI (sI (sI w 172 5 (iI (n : Int))) 172 1 0) 172 4 0) 172 2 0) 172 3 (-1)) 172 39 0) 172 40 0) 172 41 1) 172 42 0) 172 46 0) 172 47 0) 183 0 0) 183 1 0) 172 22 0 = w1
  have k1' : ∀ a j, lM a j → SA w w1 a j := fun a j p => ((((((((((((((sa_I rfl (by unfold lM at p; omega)).tr (sa_I rfl (by unfold lM at p; omega))).tr (sa_I rfl (by unfold lM at p; omega))).tr (sa_I rfl (by unfold lM at p; omega))).tr (sa_I rfl (by unfold lM at p; omega))).tr (sa_I rfl (by unfold lM at p; omega))).tr (sa_I rfl (by unfold lM at p; omega))).tr (sa_I rfl (by unfold lM at p; omega))).tr (sa_I rfl (by unfold lM at p; omega))).tr (sa_I rfl (by unfold lM at p; omega))).tr (sa_I rfl (by unfold lM at p; omega))).tr (sa_I rfl (by unfold lM at p; omega))).tr (sa_I rfl (by unfold lM at p; omega))).tr (sa_I hw.symm (by unfold lM at p; omega)))
  have hM1 : MTx w1 T n := ⟨by rw [← hw]; simp [sI], fun i hi => by rw [(k1' 173 i (by unfold lM; omega)).1]; exact ht i hi, by rw [← hw]; simp [sI]⟩
  obtain ⟨w2, b1, b2⟩ := m_token hT hM1 (Nat.zero_le n) (show w1.1 172 4 = iI ((0 : Nat) : Int) from by rw [← hw]; simp [sI]; exact q_0)
  have k2 : ∀ a j, ¬ (a = 172 ∧ j = 4) ∧ ¬ (a = 172 ∧ j = 6) ∧ ¬ (a = 172 ∧ j = 9) ∧ ¬ (a = 172 ∧ j = 8) ∧ ¬ (a = 172 ∧ j = 7) → SA w1 w2 a j := fun a j p => ff_X12_token p b1
  rw [bv_o b1]
  have D1 : DMr w1 c0r 0 0 0 := ⟨by rw [← hw]; simp [sI]; exact q_0, by rw [← hw]; simp [sI]; exact q_0, by rw [← hw]; simp [sI]; exact q_1, by rw [← hw]; simp [sI]; exact q_0, by rw [← hw]; simp [sI]; exact q_0, by rw [← hw]; simp [sI]; exact q_0, fun t ht => absurd ht (by show ¬ (t : Int) < 0; omega), fun t ht => absurd ht (by show ¬ (t : Int) < 0; omega)⟩
  refine ⟨w2, rfl, hM1.fr fun a j p => k2 a j (by omega), b2, (k2 172 2 (by omega)).1.trans (by rw [← hw]; simp [sI]), D1.fr fun a j p => k2 a j (by omega), ⟨(k2 183 0 (by omega)).1.trans (by rw [← hw]; simp [sI]; exact q_0), fun e => by omega⟩, ⟨(k2 183 1 (by omega)).1.trans (by rw [← hw]; simp [sI]; exact q_0), fun e => by omega⟩, (k2 172 22 (by omega)).1.trans (by rw [← hw]; simp [sI]; exact q_0), (k2 172 1 (by omega)).1.trans (by rw [← hw]; simp [sI]), fun a j p => (k1' a j p).tr (k2 a j (by unfold lM at p; omega))⟩
end
