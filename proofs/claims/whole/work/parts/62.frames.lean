abbrev Nf_X12_sized (a k : Nat) : Prop := ¬ a = 206 ∧ ¬ a = 207 ∧ ¬ a = 210 ∧ ¬ a = 208 ∧ ¬ a = 209 ∧ ¬ (a = 172 ∧ k = 71)
theorem ff_X12_sized {a k : Nat} {v1 : Int32} {v2 : Int32} {z : St} {Rz : Int32 × St}  (hf : Nf_X12_sized  a k) (h : fn_X12_sized  v1 v2 z = some Rz) : SA z Rz.2 a k := by
  unfold fn_X12_sized at h
  obtain ⟨r2, z3, h1, h⟩ := bd_s h
  refine SA.tr (ff_X12_isIn   trivial h1) ?_
  rcases Decidable.em (r2 = 0) with c4 | c4
  · rw [if_pos c4] at h
    cases h
    exact SA.rf
  · rw [if_neg c4] at h
    obtain ⟨r6, z7, h5, h⟩ := bd_s h
    refine SA.tr (ff_X12_tell   ⟨hf.1, hf.2.1, hf.2.2.1, hf.2.2.2.1, hf.2.2.2.2.1, hf.2.2.2.2.2⟩ h5) ?_
    cases h
    exact SA.rf
abbrev Nf_X12_rimmed (a k : Nat) : Prop := ¬ a = 206 ∧ ¬ a = 207 ∧ ¬ a = 210 ∧ ¬ a = 208 ∧ ¬ a = 209 ∧ ¬ (a = 172 ∧ k = 71)
theorem ff_X12_rimmed {a k : Nat} {v1 : Int32} {v2 : Int32} {z : St} {Rz : Int32 × St}  (hf : Nf_X12_rimmed  a k) (h : fn_X12_rimmed  v1 v2 z = some Rz) : SA z Rz.2 a k := by
  unfold fn_X12_rimmed at h
  obtain ⟨r2, z3, h1, h⟩ := bd_s h
  refine SA.tr (ff_X12_isIn   trivial h1) ?_
  rcases Decidable.em (r2 = 0) with c4 | c4
  · rw [if_pos c4] at h
    cases h
    exact SA.rf
  · rw [if_neg c4] at h
    obtain ⟨r6, z7, h5, h⟩ := bd_s h
    refine SA.tr (ff_X12_tell   ⟨hf.1, hf.2.1, hf.2.2.1, hf.2.2.2.1, hf.2.2.2.2.1, hf.2.2.2.2.2⟩ h5) ?_
    cases h
    exact SA.rf
abbrev Nf_X12_untell (a k : Nat) : Prop := ¬ a = 209
theorem ff_X12_untell {a k : Nat} {v1 : Int32} {z : St} {Rz : Int32 × St}  (hf : Nf_X12_untell  a k) (h : fn_X12_untell  v1 z = some Rz) : SA z Rz.2 a k := by
  unfold fn_X12_untell at h
  obtain ⟨r2, z3, h1, h⟩ := bd_s h
  refine SA.tr (ff_X12_isIn   trivial h1) ?_
  rcases Decidable.em (r2 = 0) with c4 | c4
  · rw [if_pos c4] at h
    cases h
    exact SA.rf
  · rw [if_neg c4] at h
    obtain ⟨g5, h⟩ := gd_s h
    rcases Decidable.em ((z3.1 209 (Int32.toNatClampNeg v1)) < 0) with c6 | c6
    · rw [if_pos c6] at h
      obtain ⟨g7, h⟩ := gd_s h
      obtain ⟨z8, e_z8, h⟩ := nm_s h
      refine SA.tr (sa_Ia e_z8 hf) ?_
      cases h
      exact SA.rf
    · rw [if_neg c6] at h
      cases h
      exact SA.rf
abbrev Nf_X12_later (a k : Nat) : Prop := ¬ (a = 172 ∧ k = 72)
theorem ff_X12_later {a k : Nat} {v1 : Int32} {z : St} {Rz : Int32 × St}  (hf : Nf_X12_later  a k) (h : fn_X12_later  v1 z = some Rz) : SA z Rz.2 a k := by
  unfold fn_X12_later at h
  rcases Decidable.em (v1 < 0) with c1 | c1
  · rw [if_pos c1] at h
    cases h
    exact SA.rf
  · rw [if_neg c1] at h
    rcases Decidable.em (1000 < v1) with c2 | c2
    · rw [if_pos c2] at h
      cases h
      exact SA.rf
    · rw [if_neg c2] at h
      rcases Decidable.em (((z.1 172 72) + v1) ≤ 100000) with c3 | c3
      · rw [if_pos c3] at h
        obtain ⟨z4, e_z4, h⟩ := nm_s h
        refine SA.tr (sa_I e_z4 hf) ?_
        cases h
        exact SA.rf
      · rw [if_neg c3] at h
        cases h
        exact SA.rf
abbrev Nf_X12_hasIcing (a k : Nat) : Prop := True
theorem ff_X12_hasIcing_46 {a k : Nat} (hf : Nf_X12_hasIcing  a k) {k6 : Int32 → Int32 → Int32 → Int32 → Int32 → St → Option (Int32 × St)} (hk_6 : ∀ (v1 : Int32) (v2 : Int32) (v3 : Int32) (v4 : Int32) (v5 : Int32) (z : St)  (Rz : Int32 × St), k6 v1 v2 v3 v4 v5 z = some Rz → SA z Rz.2 a k) {k15 : Int32 → Int32 → Int32 → Int32 → Int32 → Int32 → St → Option (Int32 × St)} (hk_15 : ∀ (v1 : Int32) (v2 : Int32) (v3 : Int32) (v4 : Int32) (v5 : Int32) (v6 : Int32) (z : St)  (Rz : Int32 × St), k15 v1 v2 v3 v4 v5 v6 z = some Rz → SA z Rz.2 a k) (v1 : Int32) (v2 : Int32) (v3 : Int32) (v5 : Int32) (v6 : Int32) (tv0 : Int32) (z : St)  {Rz : Int32 × St} (h : fn_X12_hasIcing_46  k6 k15 v1 v2 v3 v5 v6 tv0 z = some Rz) : SA z Rz.2 a k := by
  unfold fn_X12_hasIcing_46 at h
  exact hk_15 v1 v2 v3 tv0 v5 (v6 + 1) z  _ h
theorem ff_X12_hasIcing_41 {a k : Nat} (hf : Nf_X12_hasIcing  a k) {k6 : Int32 → Int32 → Int32 → Int32 → Int32 → St → Option (Int32 × St)} (hk_6 : ∀ (v1 : Int32) (v2 : Int32) (v3 : Int32) (v4 : Int32) (v5 : Int32) (z : St)  (Rz : Int32 × St), k6 v1 v2 v3 v4 v5 z = some Rz → SA z Rz.2 a k) {k15 : Int32 → Int32 → Int32 → Int32 → Int32 → Int32 → St → Option (Int32 × St)} (hk_15 : ∀ (v1 : Int32) (v2 : Int32) (v3 : Int32) (v4 : Int32) (v5 : Int32) (v6 : Int32) (z : St)  (Rz : Int32 × St), k15 v1 v2 v3 v4 v5 v6 z = some Rz → SA z Rz.2 a k) (v1 : Int32) (v2 : Int32) (v3 : Int32) (v5 : Int32) (v6 : Int32) (z : St)  {Rz : Int32 × St} (h : fn_X12_hasIcing_41  k6 k15 v1 v2 v3 v5 v6 z = some Rz) : SA z Rz.2 a k := by
  unfold fn_X12_hasIcing_41 at h
  exact ff_X12_hasIcing_46  hf  hk_6 hk_15 v1 v2 v3 v5 v6 1 z  h
theorem ff_X12_hasIcing_15 {a k : Nat} (hf : Nf_X12_hasIcing  a k) {k6 : Int32 → Int32 → Int32 → Int32 → Int32 → St → Option (Int32 × St)} (hk_6 : ∀ (v1 : Int32) (v2 : Int32) (v3 : Int32) (v4 : Int32) (v5 : Int32) (z : St)  (Rz : Int32 × St), k6 v1 v2 v3 v4 v5 z = some Rz → SA z Rz.2 a k) : ∀ (n : Nat) (v1 : Int32) (v2 : Int32) (v3 : Int32) (v4 : Int32) (v5 : Int32) (v6 : Int32) (z : St)  (Rz : Int32 × St), fn_X12_hasIcing_15  k6 n v1 v2 v3 v4 v5 v6 z = some Rz → SA z Rz.2 a k := by
  intro n
  induction n with
  | zero => intro v1 v2 v3 v4 v5 v6 z  Rz h; cases h
  | succ n ih =>
    intro v1 v2 v3 v4 v5 v6 z  Rz h
    rw [fn_X12_hasIcing_15] at h
    rcases Decidable.em (v2 ≤ v6) with c1 | c1
    · rw [if_pos c1] at h
      exact hk_6 v1 v2 v3 v4 (v5 + 1) z  _ h
    · rw [if_neg c1] at h
      rcases Decidable.em (v4 = 0) with c2 | c2
      · rw [if_pos c2] at h
        obtain ⟨r4, z5, h3, h⟩ := bd_s h
        refine SA.tr (ff_X12_gridIcing   trivial h3) ?_
        rcases Decidable.em (r4 = v3) with c6 | c6
        · rw [if_pos c6] at h
          exact ff_X12_hasIcing_41  hf  hk_6 ih v1 v2 v3 v5 v6 z5  h
        · rw [if_neg c6] at h
          exact ff_X12_hasIcing_46  hf  hk_6 ih v1 v2 v3 v5 v6 0 z5  h
      · rw [if_neg c2] at h
        exact ff_X12_hasIcing_41  hf  hk_6 ih v1 v2 v3 v5 v6 z  h
theorem ff_X12_hasIcing_6 {a k : Nat} (hf : Nf_X12_hasIcing  a k) : ∀ (n : Nat) (v1 : Int32) (v2 : Int32) (v3 : Int32) (v4 : Int32) (v5 : Int32) (z : St)  (Rz : Int32 × St), fn_X12_hasIcing_6   n v1 v2 v3 v4 v5 z = some Rz → SA z Rz.2 a k := by
  intro n
  induction n with
  | zero => intro v1 v2 v3 v4 v5 z  Rz h; cases h
  | succ n ih =>
    intro v1 v2 v3 v4 v5 z  Rz h
    rw [fn_X12_hasIcing_6] at h
    rcases Decidable.em (v1 ≤ v5) with c1 | c1
    · rw [if_pos c1] at h
      obtain ⟨g2, h⟩ := gd_s h
      cases h
      exact SA.rf
    · rw [if_neg c1] at h
      exact ff_X12_hasIcing_15  hf  ih fu v1 v2 v3 v4 v5 0 z  _ h
theorem ff_X12_hasIcing {a k : Nat} {v1 : Int32} {v2 : Int32} {v3 : Int32} {z : St} {Rz : Int32 × St}  (hf : Nf_X12_hasIcing  a k) (h : fn_X12_hasIcing  v1 v2 v3 z = some Rz) : SA z Rz.2 a k := by
  unfold fn_X12_hasIcing at h
  exact ff_X12_hasIcing_6  hf   fu v1 v2 v3 0 0 z  _ h
abbrev Nf_X12_isSo (a k : Nat) : Prop := True
theorem ff_X12_isSo {a k : Nat} {v1 : Int32} {v2 : Int32} {v3 : Int32} {z : St} {Rz : Int32 × St}  (hf : Nf_X12_isSo  a k) (h : fn_X12_isSo  v1 v2 v3 z = some Rz) : SA z Rz.2 a k := by
  unfold fn_X12_isSo at h
  obtain ⟨g1, h⟩ := gd_s h
  rcases Decidable.em ((z.1 206 (Int32.toNatClampNeg v1)) = 0) with c2 | c2
  · rw [if_pos c2] at h
    obtain ⟨g8, h⟩ := gd_s h
    obtain ⟨g9, h⟩ := gd_s h
    obtain ⟨g10, h⟩ := gd_s h
    rcases Decidable.em ((((z.1 188 (Int32.toNatClampNeg 0)) / v2) * ((z.1 189 (Int32.toNatClampNeg 0)) / v3)) = (z.1 207 (Int32.toNatClampNeg v1))) with c11 | c11
    · rw [if_pos c11] at h
      cases h
      exact SA.rf
    · rw [if_neg c11] at h
      cases h
      exact SA.rf
  · rw [if_neg c2] at h
    obtain ⟨g3, h⟩ := gd_s h
    obtain ⟨r5, z6, h4, h⟩ := bd_s h
    refine SA.tr (ff_X12_hasIcing   trivial h4) ?_
    obtain ⟨g7, h⟩ := gd_s h
    cases h
    exact SA.rf
abbrev Nf_X12_isFit (a k : Nat) : Prop := True
theorem ff_X12_isFit_101 {a k : Nat} (hf : Nf_X12_isFit  a k) {k27 : Int32 → Int32 → Int32 → Int32 → Int32 → St → Option (Int32 × St)} (hk_27 : ∀ (v1 : Int32) (v2 : Int32) (v3 : Int32) (v4 : Int32) (v5 : Int32) (z : St)  (Rz : Int32 × St), k27 v1 v2 v3 v4 v5 z = some Rz → SA z Rz.2 a k) (v1 : Int32) (v2 : Int32) (v3 : Int32) (v4 : Int32) (v5 : Int32) (z : St)  {Rz : Int32 × St} (h : fn_X12_isFit_101  k27 v1 v2 v3 v4 v5 z = some Rz) : SA z Rz.2 a k := by
  unfold fn_X12_isFit_101 at h
  exact hk_27 v1 v2 v3 v4 (v5 + 1) z  _ h
theorem ff_X12_isFit_99 {a k : Nat} (hf : Nf_X12_isFit  a k) {k27 : Int32 → Int32 → Int32 → Int32 → Int32 → St → Option (Int32 × St)} (hk_27 : ∀ (v1 : Int32) (v2 : Int32) (v3 : Int32) (v4 : Int32) (v5 : Int32) (z : St)  (Rz : Int32 × St), k27 v1 v2 v3 v4 v5 z = some Rz → SA z Rz.2 a k) (v1 : Int32) (v2 : Int32) (v3 : Int32) (v5 : Int32) (tv0 : Int32) (z : St)  {Rz : Int32 × St} (h : fn_X12_isFit_99  k27 v1 v2 v3 v5 tv0 z = some Rz) : SA z Rz.2 a k := by
  unfold fn_X12_isFit_99 at h
  exact ff_X12_isFit_101  hf  hk_27 v1 v2 v3 tv0 v5 z  h
theorem ff_X12_isFit_76 {a k : Nat} (hf : Nf_X12_isFit  a k) {k27 : Int32 → Int32 → Int32 → Int32 → Int32 → St → Option (Int32 × St)} (hk_27 : ∀ (v1 : Int32) (v2 : Int32) (v3 : Int32) (v4 : Int32) (v5 : Int32) (z : St)  (Rz : Int32 × St), k27 v1 v2 v3 v4 v5 z = some Rz → SA z Rz.2 a k) (v1 : Int32) (v2 : Int32) (v3 : Int32) (v5 : Int32) (z : St)  {Rz : Int32 × St} (h : fn_X12_isFit_76  k27 v1 v2 v3 v5 z = some Rz) : SA z Rz.2 a k := by
  unfold fn_X12_isFit_76 at h
  obtain ⟨r2, z3, h1, h⟩ := bd_s h
  refine SA.tr (ff_X12_isSo   trivial h1) ?_
  obtain ⟨g4, h⟩ := gd_s h
  rcases Decidable.em (r2 = (z3.1 210 (Int32.toNatClampNeg v5))) with c5 | c5
  · rw [if_pos c5] at h
    exact ff_X12_isFit_99  hf  hk_27 v1 v2 v3 v5 1 z3  h
  · rw [if_neg c5] at h
    exact ff_X12_isFit_99  hf  hk_27 v1 v2 v3 v5 0 z3  h
theorem ff_X12_isFit_27 {a k : Nat} (hf : Nf_X12_isFit  a k) : ∀ (n : Nat) (v1 : Int32) (v2 : Int32) (v3 : Int32) (v4 : Int32) (v5 : Int32) (z : St)  (Rz : Int32 × St), fn_X12_isFit_27   n v1 v2 v3 v4 v5 z = some Rz → SA z Rz.2 a k := by
  intro n
  induction n with
  | zero => intro v1 v2 v3 v4 v5 z  Rz h; cases h
  | succ n ih =>
    intro v1 v2 v3 v4 v5 z  Rz h
    rw [fn_X12_isFit_27] at h
    rcases Decidable.em ((z.1 172 71) ≤ v5) with c1 | c1
    · rw [if_pos c1] at h
      obtain ⟨g2, h⟩ := gd_s h
      cases h
      exact SA.rf
    · rw [if_neg c1] at h
      rcases Decidable.em (v4 = 0) with c3 | c3
      · rw [if_pos c3] at h
        obtain ⟨g4, h⟩ := gd_s h
        cases h
        exact SA.rf
      · rw [if_neg c3] at h
        obtain ⟨g5, h⟩ := gd_s h
        rcases Decidable.em (v3 < (z.1 208 (Int32.toNatClampNeg v5))) with c6 | c6
        · rw [if_pos c6] at h
          exact ff_X12_isFit_101  hf  ih v1 v2 v3 v4 v5 z  h
        · rw [if_neg c6] at h
          obtain ⟨g7, h⟩ := gd_s h
          rcases Decidable.em ((z.1 209 (Int32.toNatClampNeg v5)) < 0) with c8 | c8
          · rw [if_pos c8] at h
            exact ff_X12_isFit_76  hf  ih v1 v2 v3 v5 z  h
          · rw [if_neg c8] at h
            obtain ⟨g9, h⟩ := gd_s h
            rcases Decidable.em (v3 < (z.1 209 (Int32.toNatClampNeg v5))) with c10 | c10
            · rw [if_pos c10] at h
              exact ff_X12_isFit_76  hf  ih v1 v2 v3 v5 z  h
            · rw [if_neg c10] at h
              exact ff_X12_isFit_101  hf  ih v1 v2 v3 v4 v5 z  h
theorem ff_X12_isFit_22 {a k : Nat} (hf : Nf_X12_isFit  a k) (v1 : Int32) (v2 : Int32) (v3 : Int32) (tv0 : Int32) (z : St)  {Rz : Int32 × St} (h : fn_X12_isFit_22   v1 v2 v3 tv0 z = some Rz) : SA z Rz.2 a k := by
  unfold fn_X12_isFit_22 at h
  exact ff_X12_isFit_27  hf   fu v1 v2 v3 tv0 0 z  _ h
theorem ff_X12_isFit_21 {a k : Nat} (hf : Nf_X12_isFit  a k) (v1 : Int32) (v2 : Int32) (v3 : Int32) (z : St)  {Rz : Int32 × St} (h : fn_X12_isFit_21   v1 v2 v3 z = some Rz) : SA z Rz.2 a k := by
  unfold fn_X12_isFit_21 at h
  exact ff_X12_isFit_22  hf   v1 v2 v3 0 z  h
theorem ff_X12_isFit {a k : Nat} {v1 : Int32} {v2 : Int32} {v3 : Int32} {z : St} {Rz : Int32 × St}  (hf : Nf_X12_isFit  a k) (h : fn_X12_isFit  v1 v2 v3 z = some Rz) : SA z Rz.2 a k := by
  unfold fn_X12_isFit at h
  rcases Decidable.em ((z.1 172 43) ≤ 0) with c1 | c1
  · rw [if_pos c1] at h
    exact ff_X12_isFit_21  hf   v1 v2 v3 z  h
  · rw [if_neg c1] at h
    obtain ⟨r3, z4, h2, h⟩ := bd_s h
    refine SA.tr (ff_X12_isGrid   trivial h2) ?_
    rcases Decidable.em (r3 = 0) with c5 | c5
    · rw [if_pos c5] at h
      exact ff_X12_isFit_21  hf   v1 v2 v3 z4  h
    · rw [if_neg c5] at h
      exact ff_X12_isFit_22  hf   v1 v2 v3 1 z4  h
abbrev Nf_X12_fits (a k : Nat) : Prop := True
theorem ff_X12_fits_13 {a k : Nat} (hf : Nf_X12_fits  a k) {k4 : Int32 → Int32 → Int32 → St → Option (Int32 × St)} (hk_4 : ∀ (v1 : Int32) (v2 : Int32) (v3 : Int32) (z : St)  (Rz : Int32 × St), k4 v1 v2 v3 z = some Rz → SA z Rz.2 a k) : ∀ (n : Nat) (v1 : Int32) (v2 : Int32) (v3 : Int32) (v4 : Int32) (z : St)  (Rz : Int32 × St), fn_X12_fits_13  k4 n v1 v2 v3 v4 z = some Rz → SA z Rz.2 a k := by
  intro n
  induction n with
  | zero => intro v1 v2 v3 v4 z  Rz h; cases h
  | succ n ih =>
    intro v1 v2 v3 v4 z  Rz h
    rw [fn_X12_fits_13] at h
    rcases Decidable.em (8 < v4) with c1 | c1
    · rw [if_pos c1] at h
      exact hk_4 v1 v2 (v3 + 1) z  _ h
    · rw [if_neg c1] at h
      obtain ⟨r3, z4, h2, h⟩ := bd_s h
      refine SA.tr (ff_X12_isFit   trivial h2) ?_
      obtain ⟨r6, z7, h5, h⟩ := bd_s h
      refine SA.tr (ff_X12_truth   trivial h5) ?_
      obtain ⟨v2_8, e_v2_8, h⟩ := nm_s h
      exact ih v1 v2_8 v3 (v4 + 1) z7  _ h
theorem ff_X12_fits_4 {a k : Nat} (hf : Nf_X12_fits  a k) : ∀ (n : Nat) (v1 : Int32) (v2 : Int32) (v3 : Int32) (z : St)  (Rz : Int32 × St), fn_X12_fits_4   n v1 v2 v3 z = some Rz → SA z Rz.2 a k := by
  intro n
  induction n with
  | zero => intro v1 v2 v3 z  Rz h; cases h
  | succ n ih =>
    intro v1 v2 v3 z  Rz h
    rw [fn_X12_fits_4] at h
    rcases Decidable.em (8 < v3) with c1 | c1
    · rw [if_pos c1] at h
      cases h
      exact SA.rf
    · rw [if_neg c1] at h
      exact ff_X12_fits_13  hf  ih fu v1 v2 v3 1 z  _ h
theorem ff_X12_fits {a k : Nat} {v1 : Int32} {z : St} {Rz : Int32 × St}  (hf : Nf_X12_fits  a k) (h : fn_X12_fits  v1 z = some Rz) : SA z Rz.2 a k := by
  unfold fn_X12_fits at h
  exact ff_X12_fits_4  hf   fu v1 0 1 z  _ h
abbrev Nf_X12_sure (a k : Nat) : Prop := True
theorem ff_X12_sure_80 {a k : Nat} (hf : Nf_X12_sure  a k) {k16 : Int32 → Int32 → Int32 → Int32 → St → Option (Int32 × St)} (hk_16 : ∀ (v1 : Int32) (v2 : Int32) (v3 : Int32) (v4 : Int32) (z : St)  (Rz : Int32 × St), k16 v1 v2 v3 v4 z = some Rz → SA z Rz.2 a k) {k26 : Int32 → Int32 → Int32 → Int32 → Int32 → St → Option (Int32 × St)} (hk_26 : ∀ (v1 : Int32) (v2 : Int32) (v3 : Int32) (v4 : Int32) (v5 : Int32) (z : St)  (Rz : Int32 × St), k26 v1 v2 v3 v4 v5 z = some Rz → SA z Rz.2 a k) (v1 : Int32) (v2 : Int32) (v3 : Int32) (v4 : Int32) (v5 : Int32) (z : St)  {Rz : Int32 × St} (h : fn_X12_sure_80  k16 k26 v1 v2 v3 v4 v5 z = some Rz) : SA z Rz.2 a k := by
  unfold fn_X12_sure_80 at h
  exact hk_26 v1 v2 v3 v4 (v5 + 1) z  _ h
theorem ff_X12_sure_79 {a k : Nat} (hf : Nf_X12_sure  a k) {k16 : Int32 → Int32 → Int32 → Int32 → St → Option (Int32 × St)} (hk_16 : ∀ (v1 : Int32) (v2 : Int32) (v3 : Int32) (v4 : Int32) (z : St)  (Rz : Int32 × St), k16 v1 v2 v3 v4 z = some Rz → SA z Rz.2 a k) {k26 : Int32 → Int32 → Int32 → Int32 → Int32 → St → Option (Int32 × St)} (hk_26 : ∀ (v1 : Int32) (v2 : Int32) (v3 : Int32) (v4 : Int32) (v5 : Int32) (z : St)  (Rz : Int32 × St), k26 v1 v2 v3 v4 v5 z = some Rz → SA z Rz.2 a k) (v1 : Int32) (v2 : Int32) (v4 : Int32) (v5 : Int32) (tv0 : Int32) (z : St)  {Rz : Int32 × St} (h : fn_X12_sure_79  k16 k26 v1 v2 v4 v5 tv0 z = some Rz) : SA z Rz.2 a k := by
  unfold fn_X12_sure_79 at h
  exact ff_X12_sure_80  hf  hk_16 hk_26 v1 v2 tv0 v4 v5 z  h
theorem ff_X12_sure_72 {a k : Nat} (hf : Nf_X12_sure  a k) {k16 : Int32 → Int32 → Int32 → Int32 → St → Option (Int32 × St)} (hk_16 : ∀ (v1 : Int32) (v2 : Int32) (v3 : Int32) (v4 : Int32) (z : St)  (Rz : Int32 × St), k16 v1 v2 v3 v4 z = some Rz → SA z Rz.2 a k) {k26 : Int32 → Int32 → Int32 → Int32 → Int32 → St → Option (Int32 × St)} (hk_26 : ∀ (v1 : Int32) (v2 : Int32) (v3 : Int32) (v4 : Int32) (v5 : Int32) (z : St)  (Rz : Int32 × St), k26 v1 v2 v3 v4 v5 z = some Rz → SA z Rz.2 a k) (v1 : Int32) (v2 : Int32) (v4 : Int32) (v5 : Int32) (v6 : Int32) (z : St)  {Rz : Int32 × St} (h : fn_X12_sure_72  k16 k26 v1 v2 v4 v5 v6 z = some Rz) : SA z Rz.2 a k := by
  unfold fn_X12_sure_72 at h
  exact ff_X12_sure_79  hf  hk_16 hk_26 v1 v2 v4 v5 v6 z  h
theorem ff_X12_sure_59 {a k : Nat} (hf : Nf_X12_sure  a k) {k16 : Int32 → Int32 → Int32 → Int32 → St → Option (Int32 × St)} (hk_16 : ∀ (v1 : Int32) (v2 : Int32) (v3 : Int32) (v4 : Int32) (z : St)  (Rz : Int32 × St), k16 v1 v2 v3 v4 z = some Rz → SA z Rz.2 a k) {k26 : Int32 → Int32 → Int32 → Int32 → Int32 → St → Option (Int32 × St)} (hk_26 : ∀ (v1 : Int32) (v2 : Int32) (v3 : Int32) (v4 : Int32) (v5 : Int32) (z : St)  (Rz : Int32 × St), k26 v1 v2 v3 v4 v5 z = some Rz → SA z Rz.2 a k) (v1 : Int32) (v2 : Int32) (v3 : Int32) (v4 : Int32) (v5 : Int32) (tv0 : Int32) (z : St)  {Rz : Int32 × St} (h : fn_X12_sure_59  k16 k26 v1 v2 v3 v4 v5 tv0 z = some Rz) : SA z Rz.2 a k := by
  unfold fn_X12_sure_59 at h
  rcases Decidable.em (v3 = (-1)) with c1 | c1
  · rw [if_pos c1] at h
    exact ff_X12_sure_72  hf  hk_16 hk_26 v1 v2 v4 v5 tv0 z  h
  · rw [if_neg c1] at h
    rcases Decidable.em (v3 = tv0) with c2 | c2
    · rw [if_pos c2] at h
      exact ff_X12_sure_72  hf  hk_16 hk_26 v1 v2 v4 v5 tv0 z  h
    · rw [if_neg c2] at h
      exact ff_X12_sure_79  hf  hk_16 hk_26 v1 v2 v4 v5 (-2) z  h
theorem ff_X12_sure_26 {a k : Nat} (hf : Nf_X12_sure  a k) {k16 : Int32 → Int32 → Int32 → Int32 → St → Option (Int32 × St)} (hk_16 : ∀ (v1 : Int32) (v2 : Int32) (v3 : Int32) (v4 : Int32) (z : St)  (Rz : Int32 × St), k16 v1 v2 v3 v4 z = some Rz → SA z Rz.2 a k) : ∀ (n : Nat) (v1 : Int32) (v2 : Int32) (v3 : Int32) (v4 : Int32) (v5 : Int32) (z : St)  (Rz : Int32 × St), fn_X12_sure_26  k16 n v1 v2 v3 v4 v5 z = some Rz → SA z Rz.2 a k := by
  intro n
  induction n with
  | zero => intro v1 v2 v3 v4 v5 z  Rz h; cases h
  | succ n ih =>
    intro v1 v2 v3 v4 v5 z  Rz h
    rw [fn_X12_sure_26] at h
    rcases Decidable.em (8 < v5) with c1 | c1
    · rw [if_pos c1] at h
      exact hk_16 v1 v2 v3 (v4 + 1) z  _ h
    · rw [if_neg c1] at h
      obtain ⟨r3, z4, h2, h⟩ := bd_s h
      refine SA.tr (ff_X12_isFit   trivial h2) ?_
      rcases Decidable.em (r3 = 0) with c5 | c5
      · rw [if_pos c5] at h
        exact ff_X12_sure_80  hf  hk_16 ih v1 v2 v3 v4 v5 z4  h
      · rw [if_neg c5] at h
        rcases Decidable.em (v1 = 0) with c6 | c6
        · rw [if_pos c6] at h
          exact ff_X12_sure_59  hf  hk_16 ih v1 v2 v3 v4 v5 v4 z4  h
        · rw [if_neg c6] at h
          exact ff_X12_sure_59  hf  hk_16 ih v1 v2 v3 v4 v5 v5 z4  h
theorem ff_X12_sure_16 {a k : Nat} (hf : Nf_X12_sure  a k) : ∀ (n : Nat) (v1 : Int32) (v2 : Int32) (v3 : Int32) (v4 : Int32) (z : St)  (Rz : Int32 × St), fn_X12_sure_16   n v1 v2 v3 v4 z = some Rz → SA z Rz.2 a k := by
  intro n
  induction n with
  | zero => intro v1 v2 v3 v4 z  Rz h; cases h
  | succ n ih =>
    intro v1 v2 v3 v4 z  Rz h
    rw [fn_X12_sure_16] at h
    rcases Decidable.em (8 < v4) with c1 | c1
    · rw [if_pos c1] at h
      cases h
      exact SA.rf
    · rw [if_neg c1] at h
      exact ff_X12_sure_26  hf  ih fu v1 v2 v3 v4 1 z  _ h
theorem ff_X12_sure {a k : Nat} {v1 : Int32} {v2 : Int32} {z : St} {Rz : Int32 × St}  (hf : Nf_X12_sure  a k) (h : fn_X12_sure  v1 v2 z = some Rz) : SA z Rz.2 a k := by
  unfold fn_X12_sure at h
  obtain ⟨r2, z3, h1, h⟩ := bd_s h
  refine SA.tr (ff_X12_isIn   trivial h1) ?_
  rcases Decidable.em (r2 = 0) with c4 | c4
  · rw [if_pos c4] at h
    cases h
    exact SA.rf
  · rw [if_neg c4] at h
    exact ff_X12_sure_16  hf   fu v1 v2 (-1) 1 z3  _ h
abbrev Nf_X12_leftBy (a k : Nat) : Prop := True
theorem ff_X12_leftBy_61 {a k : Nat} (hf : Nf_X12_leftBy  a k) {k8 : Int32 → Int32 → Int32 → Int32 → Int32 → St → Option (Int32 × St)} (hk_8 : ∀ (v1 : Int32) (v2 : Int32) (v3 : Int32) (v4 : Int32) (v5 : Int32) (z : St)  (Rz : Int32 × St), k8 v1 v2 v3 v4 v5 z = some Rz → SA z Rz.2 a k) {k18 : Int32 → Int32 → Int32 → Int32 → Int32 → Int32 → St → Option (Int32 × St)} (hk_18 : ∀ (v1 : Int32) (v2 : Int32) (v3 : Int32) (v4 : Int32) (v5 : Int32) (v6 : Int32) (z : St)  (Rz : Int32 × St), k18 v1 v2 v3 v4 v5 v6 z = some Rz → SA z Rz.2 a k) (v1 : Int32) (v2 : Int32) (v3 : Int32) (v4 : Int32) (v5 : Int32) (v6 : Int32) (z : St)  {Rz : Int32 × St} (h : fn_X12_leftBy_61  k8 k18 v1 v2 v3 v4 v5 v6 z = some Rz) : SA z Rz.2 a k := by
  unfold fn_X12_leftBy_61 at h
  exact hk_18 v1 v2 v3 v4 v5 (v6 + 1) z  _ h
theorem ff_X12_leftBy_18 {a k : Nat} (hf : Nf_X12_leftBy  a k) {k8 : Int32 → Int32 → Int32 → Int32 → Int32 → St → Option (Int32 × St)} (hk_8 : ∀ (v1 : Int32) (v2 : Int32) (v3 : Int32) (v4 : Int32) (v5 : Int32) (z : St)  (Rz : Int32 × St), k8 v1 v2 v3 v4 v5 z = some Rz → SA z Rz.2 a k) : ∀ (n : Nat) (v1 : Int32) (v2 : Int32) (v3 : Int32) (v4 : Int32) (v5 : Int32) (v6 : Int32) (z : St)  (Rz : Int32 × St), fn_X12_leftBy_18  k8 n v1 v2 v3 v4 v5 v6 z = some Rz → SA z Rz.2 a k := by
  intro n
  induction n with
  | zero => intro v1 v2 v3 v4 v5 v6 z  Rz h; cases h
  | succ n ih =>
    intro v1 v2 v3 v4 v5 v6 z  Rz h
    rw [fn_X12_leftBy_18] at h
    rcases Decidable.em (8 < v6) with c1 | c1
    · rw [if_pos c1] at h
      exact hk_8 v1 v2 v3 v4 (v5 + 1) z  _ h
    · rw [if_neg c1] at h
      obtain ⟨r3, z4, h2, h⟩ := bd_s h
      refine SA.tr (ff_X12_isFit   trivial h2) ?_
      rcases Decidable.em (r3 = 0) with c5 | c5
      · rw [if_pos c5] at h
        exact ff_X12_leftBy_61  hf  hk_8 ih v1 v2 v3 v4 v5 v6 z4  h
      · rw [if_neg c5] at h
        obtain ⟨r7, z8, h6, h⟩ := bd_s h
        refine SA.tr (ff_X12_hasIcing   trivial h6) ?_
        rcases Decidable.em (r7 = 0) with c9 | c9
        · rw [if_pos c9] at h
          exact ff_X12_leftBy_61  hf  hk_8 ih v1 v2 v3 (v4 + 1) v5 v6 z8  h
        · rw [if_neg c9] at h
          exact ff_X12_leftBy_61  hf  hk_8 ih v1 v2 (v3 + 1) v4 v5 v6 z8  h
theorem ff_X12_leftBy_8 {a k : Nat} (hf : Nf_X12_leftBy  a k) : ∀ (n : Nat) (v1 : Int32) (v2 : Int32) (v3 : Int32) (v4 : Int32) (v5 : Int32) (z : St)  (Rz : Int32 × St), fn_X12_leftBy_8   n v1 v2 v3 v4 v5 z = some Rz → SA z Rz.2 a k := by
  intro n
  induction n with
  | zero => intro v1 v2 v3 v4 v5 z  Rz h; cases h
  | succ n ih =>
    intro v1 v2 v3 v4 v5 z  Rz h
    rw [fn_X12_leftBy_8] at h
    rcases Decidable.em (8 < v5) with c1 | c1
    · rw [if_pos c1] at h
      rcases Decidable.em (v3 ≤ v4) with c2 | c2
      · rw [if_pos c2] at h
        cases h
        exact SA.rf
      · rw [if_neg c2] at h
        cases h
        exact SA.rf
    · rw [if_neg c1] at h
      exact ff_X12_leftBy_18  hf  ih fu v1 v2 v3 v4 v5 1 z  _ h
theorem ff_X12_leftBy {a k : Nat} {v1 : Int32} {v2 : Int32} {z : St} {Rz : Int32 × St}  (hf : Nf_X12_leftBy  a k) (h : fn_X12_leftBy  v1 v2 z = some Rz) : SA z Rz.2 a k := by
  unfold fn_X12_leftBy at h
  exact ff_X12_leftBy_8  hf   fu v1 v2 0 0 1 z  _ h
abbrev Nf_X12_ask (a k : Nat) : Prop := True
theorem ff_X12_ask_53 {a k : Nat} (hf : Nf_X12_ask  a k) {k24 : Int32 → Int32 → Int32 → Int32 → St → Option (Int32 × St)} (hk_24 : ∀ (v1 : Int32) (v2 : Int32) (v3 : Int32) (v4 : Int32) (z : St)  (Rz : Int32 × St), k24 v1 v2 v3 v4 z = some Rz → SA z Rz.2 a k) (v1 : Int32) (v2 : Int32) (v4 : Int32) (tv0 : Int32) (z : St)  {Rz : Int32 × St} (h : fn_X12_ask_53  k24 v1 v2 v4 tv0 z = some Rz) : SA z Rz.2 a k := by
  unfold fn_X12_ask_53 at h
  exact hk_24 v1 v2 tv0 (v4 + 1) z  _ h
theorem ff_X12_ask_24 {a k : Nat} (hf : Nf_X12_ask  a k) : ∀ (n : Nat) (v1 : Int32) (v2 : Int32) (v3 : Int32) (v4 : Int32) (z : St)  (Rz : Int32 × St), fn_X12_ask_24   n v1 v2 v3 v4 z = some Rz → SA z Rz.2 a k := by
  intro n
  induction n with
  | zero => intro v1 v2 v3 v4 z  Rz h; cases h
  | succ n ih =>
    intro v1 v2 v3 v4 z  Rz h
    rw [fn_X12_ask_24] at h
    rcases Decidable.em (32 < v4) with c1 | c1
    · rw [if_pos c1] at h
      rcases Decidable.em (v1 = 0) with c2 | c2
      · rw [if_pos c2] at h
        cases h
        exact SA.rf
      · rw [if_neg c2] at h
        obtain ⟨r4, z5, h3, h⟩ := bd_s h
        refine SA.tr (ff_X12_leftBy   trivial h3) ?_
        cases h
        exact SA.rf
    · rw [if_neg c1] at h
      obtain ⟨r7, z8, h6, h⟩ := bd_s h
      refine SA.tr (ff_X12_leftBy   trivial h6) ?_
      obtain ⟨r10, z11, h9, h⟩ := bd_s h
      refine SA.tr (ff_X12_leftBy   trivial h9) ?_
      rcases Decidable.em (r10 ≤ r7) with c12 | c12
      · rw [if_pos c12] at h
        exact ff_X12_ask_53  hf  ih v1 v2 v4 v3 z11  h
      · rw [if_neg c12] at h
        exact ff_X12_ask_53  hf  ih v1 v2 v4 v4 z11  h
theorem ff_X12_ask {a k : Nat} {v1 : Int32} {v2 : Int32} {z : St} {Rz : Int32 × St}  (hf : Nf_X12_ask  a k) (h : fn_X12_ask  v1 v2 z = some Rz) : SA z Rz.2 a k := by
  unfold fn_X12_ask at h
  obtain ⟨r2, z3, h1, h⟩ := bd_s h
  refine SA.tr (ff_X12_isIn   trivial h1) ?_
  rcases Decidable.em (r2 = 0) with c4 | c4
  · rw [if_pos c4] at h
    cases h
    exact SA.rf
  · rw [if_neg c4] at h
    obtain ⟨r6, z7, h5, h⟩ := bd_s h
    refine SA.tr (ff_X12_fits   trivial h5) ?_
    rcases Decidable.em (r6 = 0) with c8 | c8
    · rw [if_pos c8] at h
      cases h
      exact SA.rf
    · rw [if_neg c8] at h
      exact ff_X12_ask_24  hf   fu v1 v2 0 1 z7  _ h
abbrev Nf_X12_isBox (a k : Nat) : Prop := True
theorem ff_X12_isBox {a k : Nat} {v0 : Int32} {z : St} {Rz : Int32 × St}  (hf : Nf_X12_isBox  a k) (h : fn_X12_isBox  v0 z = some Rz) : SA z Rz.2 a k := by
  unfold fn_X12_isBox at h
  rcases Decidable.em (v0 < 0) with c1 | c1
  · rw [if_pos c1] at h
    cases h
    exact SA.rf
  · rw [if_neg c1] at h
    rcases Decidable.em (3 ≤ v0) with c2 | c2
    · rw [if_pos c2] at h
      cases h
      exact SA.rf
    · rw [if_neg c2] at h
      cases h
      exact SA.rf
abbrev Nf_X12_image (a k : Nat) : Prop := ¬ a = 212 ∧ ¬ a = 211
theorem ff_X12_image_18 {a k : Nat} (hf : Nf_X12_image  a k) : ∀ (n : Nat) (v1 : Int32) (v2 : Int32) (z : St)  (Rz : Int32 × St), fn_X12_image_18   n v1 v2 z = some Rz → SA z Rz.2 a k := by
  intro n
  induction n with
  | zero => intro v1 v2 z  Rz h; cases h
  | succ n ih =>
    intro v1 v2 z  Rz h
    rw [fn_X12_image_18] at h
    rcases Decidable.em (171 ≤ v2) with c1 | c1
    · rw [if_pos c1] at h
      cases h
      exact SA.rf
    · rw [if_neg c1] at h
      obtain ⟨g2, h⟩ := gd_s h
      obtain ⟨g3, h⟩ := gd_s h
      obtain ⟨z4, e_z4, h⟩ := nm_s h
      refine SA.tr (sa_Ia e_z4 hf.1) ?_
      exact ih v1 (v2 + 1) z4  _ h
theorem ff_X12_image {a k : Nat} {v1 : Int32} {z : St} {Rz : Int32 × St}  (hf : Nf_X12_image  a k) (h : fn_X12_image  v1 z = some Rz) : SA z Rz.2 a k := by
  unfold fn_X12_image at h
  obtain ⟨r2, z3, h1, h⟩ := bd_s h
  refine SA.tr (ff_X12_isBox   trivial h1) ?_
  rcases Decidable.em (r2 = 0) with c4 | c4
  · rw [if_pos c4] at h
    cases h
    exact SA.rf
  · rw [if_neg c4] at h
    obtain ⟨g5, h⟩ := gd_s h
    obtain ⟨z6, e_z6, h⟩ := nm_s h
    refine SA.tr (sa_Ia e_z6 hf.2) ?_
    exact ff_X12_image_18  hf   fu v1 0 z6  _ h
abbrev Nf_X12_restore (a k : Nat) : Prop := ¬ (a = 172 ∧ k = 51) ∧ ¬ (a = 172 ∧ k = 52) ∧ ¬ a = 197
theorem ff_X12_restore_20 {a k : Nat} (hf : Nf_X12_restore  a k) : ∀ (n : Nat) (v1 : Int32) (v2 : Int32) (z : St)  (Rz : Int32 × St), fn_X12_restore_20   n v1 v2 z = some Rz → SA z Rz.2 a k := by
  intro n
  induction n with
  | zero => intro v1 v2 z  Rz h; cases h
  | succ n ih =>
    intro v1 v2 z  Rz h
    rw [fn_X12_restore_20] at h
    rcases Decidable.em (171 ≤ v2) with c1 | c1
    · rw [if_pos c1] at h
      obtain ⟨z2, e_z2, h⟩ := nm_s h
      refine SA.tr (sa_I e_z2 hf.1) ?_
      obtain ⟨z3, e_z3, h⟩ := nm_s h
      refine SA.tr (sa_I e_z3 hf.2.1) ?_
      cases h
      exact SA.rf
    · rw [if_neg c1] at h
      obtain ⟨g4, h⟩ := gd_s h
      obtain ⟨g5, h⟩ := gd_s h
      obtain ⟨z6, e_z6, h⟩ := nm_s h
      refine SA.tr (sa_Ia e_z6 hf.2.2) ?_
      exact ih v1 (v2 + 1) z6  _ h
theorem ff_X12_restore {a k : Nat} {v1 : Int32} {z : St} {Rz : Int32 × St}  (hf : Nf_X12_restore  a k) (h : fn_X12_restore  v1 z = some Rz) : SA z Rz.2 a k := by
  unfold fn_X12_restore at h
  obtain ⟨r2, z3, h1, h⟩ := bd_s h
  refine SA.tr (ff_X12_isBox   trivial h1) ?_
  rcases Decidable.em (r2 = 0) with c4 | c4
  · rw [if_pos c4] at h
    cases h
    exact SA.rf
  · rw [if_neg c4] at h
    obtain ⟨g5, h⟩ := gd_s h
    rcases Decidable.em ((z3.1 211 (Int32.toNatClampNeg v1)) = 0) with c6 | c6
    · rw [if_pos c6] at h
      cases h
      exact SA.rf
    · rw [if_neg c6] at h
      exact ff_X12_restore_20  hf   fu v1 0 z3  _ h
abbrev Nf_X12_brokenOnes (a k : Nat) : Prop := True
theorem ff_X12_brokenOnes_4 {a k : Nat} (hf : Nf_X12_brokenOnes  a k) : ∀ (n : Nat) (v1 : Int32) (v2 : Int32) (z : St)  (Rz : Int32 × St), fn_X12_brokenOnes_4   n v1 v2 z = some Rz → SA z Rz.2 a k := by
  intro n
  induction n with
  | zero => intro v1 v2 z  Rz h; cases h
  | succ n ih =>
    intro v1 v2 z  Rz h
    rw [fn_X12_brokenOnes_4] at h
    rcases Decidable.em ((z.1 197 (Int32.toNatClampNeg 168)) ≤ v2) with c1 | c1
    · rw [if_pos c1] at h
      cases h
      exact SA.rf
    · rw [if_neg c1] at h
      obtain ⟨g2, h⟩ := gd_s h
      obtain ⟨v1_3, e_v1_3, h⟩ := nm_s h
      exact ih v1_3 (v2 + 1) z  _ h
theorem ff_X12_brokenOnes {a k : Nat}  {z : St} {Rz : Int32 × St}  (hf : Nf_X12_brokenOnes  a k) (h : fn_X12_brokenOnes   z = some Rz) : SA z Rz.2 a k := by
  unfold fn_X12_brokenOnes at h
  exact ff_X12_brokenOnes_4  hf   fu 0 0 z  _ h
abbrev Nf_X12_about (a k : Nat) : Prop := True
theorem ff_X12_about {a k : Nat} {v1 : Int32} {z : St} {Rz : Int32 × St}  (hf : Nf_X12_about  a k) (h : fn_X12_about  v1 z = some Rz) : SA z Rz.2 a k := by
  unfold fn_X12_about at h
  by_cases c1 : v1 = 0
  · rw [if_pos c1] at h
    cases h
    exact SA.rf
  rw [if_neg c1] at h
  by_cases c2 : v1 = 1
  · rw [if_pos c2] at h
    cases h
    exact SA.rf
  rw [if_neg c2] at h
  by_cases c3 : v1 = 2
  · rw [if_pos c3] at h
    cases h
    exact SA.rf
  rw [if_neg c3] at h
  by_cases c4 : v1 = 3
  · rw [if_pos c4] at h
    cases h
    exact SA.rf
  rw [if_neg c4] at h
  by_cases c5 : v1 = 4
  · rw [if_pos c5] at h
    cases h
    exact SA.rf
  rw [if_neg c5] at h
  by_cases c6 : v1 = 5
  · rw [if_pos c6] at h
    obtain ⟨r8, z9, h7, h⟩ := bd_s h
    refine SA.tr (ff_X12_brokenOnes   trivial h7) ?_
    cases h
    exact SA.rf
  rw [if_neg c6] at h
  by_cases c10 : v1 = 6
  · rw [if_pos c10] at h
    cases h
    exact SA.rf
  rw [if_neg c10] at h
  by_cases c11 : v1 = 7
  · rw [if_pos c11] at h
    cases h
    exact SA.rf
  rw [if_neg c11] at h
  by_cases c12 : v1 = 8
  · rw [if_pos c12] at h
    cases h
    exact SA.rf
  rw [if_neg c12] at h
  by_cases c13 : v1 = 9
  · rw [if_pos c13] at h
    cases h
    exact SA.rf
  rw [if_neg c13] at h
  by_cases c14 : v1 = 10
  · rw [if_pos c14] at h
    cases h
    exact SA.rf
  rw [if_neg c14] at h
  by_cases c15 : v1 = 11
  · rw [if_pos c15] at h
    cases h
    exact SA.rf
  rw [if_neg c15] at h
  by_cases c16 : v1 = 12
  · rw [if_pos c16] at h
    cases h
    exact SA.rf
  rw [if_neg c16] at h
  cases h
  exact SA.rf
