theorem ff_X12_four_3 {a k : Nat} (hf : Nf_X12_four  a k) : ∀ (n : Nat) (v1 : Int32) (v2 : Int32) (z : St)  (Rz : St), fn_X12_four_3   n v1 v2 z = some Rz → SA z Rz a k := by
  intro n
  induction n with
  | zero => intro v1 v2 z  Rz h; cases h
  | succ n ih =>
    intro v1 v2 z  Rz h
    rw [fn_X12_four_3] at h
    rcases Decidable.em (v2 < 0) with c1 | c1
    · rw [if_pos c1] at h
      cases h
      exact SA.rf
    · rw [if_neg c1] at h
      obtain ⟨g2, h⟩ := gd_s h
      obtain ⟨z3, e_z3, h⟩ := nm_s h
      refine SA.tr (sa_Ia e_z3 hf.1) ?_
      obtain ⟨z4, e_z4, h⟩ := nm_s h
      refine SA.tr (sa_I e_z4 hf.2) ?_
      exact ih v1 (v2 + (-8)) z4  _ h
theorem ff_X12_four {a k : Nat} {v1 : Int32} {z : St} {Rz : St}  (hf : Nf_X12_four  a k) (h : fn_X12_four  v1 z = some Rz) : SA z Rz a k := by
  unfold fn_X12_four at h
  exact ff_X12_four_3  hf   fu v1 24 z  _ h
theorem ff_X12_feed {a k : Nat} {v1 : Int32} {v2 : Int32} {v3 : Int32} {v4 : Int32} {v5 : Int32} {z : St} {Rz : Int32 × St}  (hf : Nf_X12_feed  a k) (h : fn_X12_feed  v1 v2 v3 v4 v5 z = some Rz) : SA z Rz.2 a k := by
  unfold fn_X12_feed at h
  rcases Decidable.em (((z.1 172 1) + 20) ≤ 1600) with c1 | c1
  · rw [if_pos c1] at h
    obtain ⟨z3, h2, h⟩ := bv_s h
    refine SA.tr (ff_X12_four   ⟨hf.1, hf.2⟩ h2) ?_
    obtain ⟨z5, h4, h⟩ := bv_s h
    refine SA.tr (ff_X12_four   ⟨hf.1, hf.2⟩ h4) ?_
    obtain ⟨z7, h6, h⟩ := bv_s h
    refine SA.tr (ff_X12_four   ⟨hf.1, hf.2⟩ h6) ?_
    obtain ⟨z9, h8, h⟩ := bv_s h
    refine SA.tr (ff_X12_four   ⟨hf.1, hf.2⟩ h8) ?_
    obtain ⟨z11, h10, h⟩ := bv_s h
    refine SA.tr (ff_X12_four   ⟨hf.1, hf.2⟩ h10) ?_
    cases h
    exact SA.rf
  · rw [if_neg c1] at h
    cases h
    exact SA.rf
theorem ff_X12_end {a k : Nat} {v1 : Int32} {z : St} {Rz : Int32 × St}  (hf : Nf_X12_end  a k) (h : fn_X12_end  v1 z = some Rz) : SA z Rz.2 a k := by
  unfold fn_X12_end at h
  rcases Decidable.em (v1 < 0) with c1 | c1
  · rw [if_pos c1] at h
    cases h
    exact SA.rf
  · rw [if_neg c1] at h
    rcases Decidable.em (v1 ≤ (z.1 172 1)) with c2 | c2
    · rw [if_pos c2] at h
      obtain ⟨z3, e_z3, h⟩ := nm_s h
      refine SA.tr (sa_I e_z3 hf) ?_
      cases h
      exact SA.rf
    · rw [if_neg c2] at h
      cases h
      exact SA.rf
theorem ff_X12_here {a k : Nat} {v1 : Int32} {z : St} {Rz : Int32 × St}  (hf : Nf_X12_here  a k) (h : fn_X12_here  v1 z = some Rz) : SA z Rz.2 a k := by
  unfold fn_X12_here at h
  rcases Decidable.em ((z.1 172 5) ≤ ((z.1 172 4) + v1)) with c1 | c1
  · rw [if_pos c1] at h
    cases h
    exact SA.rf
  · rw [if_neg c1] at h
    obtain ⟨g2, h⟩ := gd_s h
    cases h
    exact SA.rf
theorem ff_X12_isLetter {a k : Nat} {v0 : Int32} {z : St} {Rz : Int32 × St}  (hf : Nf_X12_isLetter  a k) (h : fn_X12_isLetter  v0 z = some Rz) : SA z Rz.2 a k := by
  unfold fn_X12_isLetter at h
  rcases Decidable.em (v0 < 97) with c1 | c1
  · rw [if_pos c1] at h
    cases h
    exact SA.rf
  · rw [if_neg c1] at h
    rcases Decidable.em (122 < v0) with c2 | c2
    · rw [if_pos c2] at h
      cases h
      exact SA.rf
    · rw [if_neg c2] at h
      cases h
      exact SA.rf
theorem ff_X12_isDigit {a k : Nat} {v0 : Int32} {z : St} {Rz : Int32 × St}  (hf : Nf_X12_isDigit  a k) (h : fn_X12_isDigit  v0 z = some Rz) : SA z Rz.2 a k := by
  unfold fn_X12_isDigit at h
  rcases Decidable.em (v0 < 48) with c1 | c1
  · rw [if_pos c1] at h
    cases h
    exact SA.rf
  · rw [if_neg c1] at h
    rcases Decidable.em (57 < v0) with c2 | c2
    · rw [if_pos c2] at h
      cases h
      exact SA.rf
    · rw [if_neg c2] at h
      cases h
      exact SA.rf
theorem ff_X12_isSign {a k : Nat} {v0 : Int32} {z : St} {Rz : Int32 × St}  (hf : Nf_X12_isSign  a k) (h : fn_X12_isSign  v0 z = some Rz) : SA z Rz.2 a k := by
  unfold fn_X12_isSign at h
  rcases Decidable.em (v0 = 59) with c1 | c1
  · rw [if_pos c1] at h
    cases h
    exact SA.rf
  · rw [if_neg c1] at h
    rcases Decidable.em (v0 = 40) with c2 | c2
    · rw [if_pos c2] at h
      cases h
      exact SA.rf
    · rw [if_neg c2] at h
      rcases Decidable.em (v0 = 41) with c3 | c3
      · rw [if_pos c3] at h
        cases h
        exact SA.rf
      · rw [if_neg c3] at h
        rcases Decidable.em (v0 = 60) with c4 | c4
        · rw [if_pos c4] at h
          cases h
          exact SA.rf
        · rw [if_neg c4] at h
          rcases Decidable.em (v0 = 62) with c5 | c5
          · rw [if_pos c5] at h
            cases h
            exact SA.rf
          · rw [if_neg c5] at h
            rcases Decidable.em (v0 = 61) with c6 | c6
            · rw [if_pos c6] at h
              cases h
              exact SA.rf
            · rw [if_neg c6] at h
              rcases Decidable.em (v0 = 43) with c7 | c7
              · rw [if_pos c7] at h
                cases h
                exact SA.rf
              · rw [if_neg c7] at h
                rcases Decidable.em (v0 = 45) with c8 | c8
                · rw [if_pos c8] at h
                  cases h
                  exact SA.rf
                · rw [if_neg c8] at h
                  rcases Decidable.em (v0 = 42) with c9 | c9
                  · rw [if_pos c9] at h
                    cases h
                    exact SA.rf
                  · rw [if_neg c9] at h
                    rcases Decidable.em (v0 = 47) with c10 | c10
                    · rw [if_pos c10] at h
                      cases h
                      exact SA.rf
                    · rw [if_neg c10] at h
                      rcases Decidable.em (v0 = 37) with c11 | c11
                      · rw [if_pos c11] at h
                        cases h
                        exact SA.rf
                      · rw [if_neg c11] at h
                        cases h
                        exact SA.rf
theorem ff_X12_token_20 {a k : Nat} (hf : Nf_X12_token  a k) {k0 : St → Option (St)} (hk_0 : ∀  (z : St)  (Rz : St), k0  z = some Rz → SA z Rz a k)  (z : St)  {Rz : St} (h : fn_X12_token_20  k0  z = some Rz) : SA z Rz a k := by
  unfold fn_X12_token_20 at h
  obtain ⟨z1, e_z1, h⟩ := nm_s h
  refine SA.tr (sa_I e_z1 hf.1) ?_
  exact hk_0  z1  _ h
theorem ff_X12_token_232 {a k : Nat} (hf : Nf_X12_token  a k) (v2 : Int32) (z : St)  {Rz : St} (h : fn_X12_token_232   v2 z = some Rz) : SA z Rz a k := by
  unfold fn_X12_token_232 at h
  rcases Decidable.em ((z.1 172 6) = 3) with c1 | c1
  · rw [if_pos c1] at h
    cases h
    exact SA.rf
  · rw [if_neg c1] at h
    obtain ⟨z2, e_z2, h⟩ := nm_s h
    refine SA.tr (sa_I e_z2 hf.1) ?_
    cases h
    exact SA.rf
theorem ff_X12_token_113 {a k : Nat} (hf : Nf_X12_token  a k) {k78 : Int32 → St → Option (St)} (hk_78 : ∀ (v2 : Int32) (z : St)  (Rz : St), k78 v2 z = some Rz → SA z Rz a k) (v2 : Int32) (z : St)  {Rz : St} (h : fn_X12_token_113  k78 v2 z = some Rz) : SA z Rz a k := by
  unfold fn_X12_token_113 at h
  exact hk_78 (v2 + 1) z  _ h
theorem ff_X12_token_131 {a k : Nat} (hf : Nf_X12_token  a k) (v2 : Int32) (tv1 : Int32) (z : St)  {Rz : St} (h : fn_X12_token_131   v2 tv1 z = some Rz) : SA z Rz a k := by
  unfold fn_X12_token_131 at h
  obtain ⟨z1, e_z1, h⟩ := nm_s h
  refine SA.tr (sa_I e_z1 hf.2.1) ?_
  exact ff_X12_token_232  hf   v2 z1  h
theorem ff_X12_token_78 {a k : Nat} (hf : Nf_X12_token  a k) : ∀ (n : Nat) (v2 : Int32) (z : St)  (Rz : St), fn_X12_token_78   n v2 z = some Rz → SA z Rz a k := by
  intro n
  induction n with
  | zero => intro v2 z  Rz h; cases h
  | succ n ih =>
    intro v2 z  Rz h
    rw [fn_X12_token_78] at h
    obtain ⟨r2, z3, h1, h⟩ := bd_s h
    refine SA.tr (ff_X12_here   trivial h1) ?_
    obtain ⟨r5, z6, h4, h⟩ := bd_s h
    refine SA.tr (ff_X12_isLetter   trivial h4) ?_
    rcases Decidable.em (r5 = 0) with c7 | c7
    · rw [if_pos c7] at h
      rcases Decidable.em (v2 ≤ 8) with c8 | c8
      · rw [if_pos c8] at h
        exact ff_X12_token_131  hf   v2 1 z6  h
      · rw [if_neg c8] at h
        exact ff_X12_token_131  hf   v2 3 z6  h
    · rw [if_neg c7] at h
      rcases Decidable.em (8 ≤ v2) with c9 | c9
      · rw [if_pos c9] at h
        exact ff_X12_token_113  hf  ih v2 z6  h
      · rw [if_neg c9] at h
        obtain ⟨r11, z12, h10, h⟩ := bd_s h
        refine SA.tr (ff_X12_here   trivial h10) ?_
        obtain ⟨z13, e_z13, h⟩ := nm_s h
        refine SA.tr (sa_J e_z13 hf.2.2.1) ?_
        exact ff_X12_token_113  hf  ih v2 z13  h
theorem ff_X12_token_180 {a k : Nat} (hf : Nf_X12_token  a k) {k144 : Int32 → St → Option (St)} (hk_144 : ∀ (v2 : Int32) (z : St)  (Rz : St), k144 v2 z = some Rz → SA z Rz a k) (v2 : Int32) (z : St)  {Rz : St} (h : fn_X12_token_180  k144 v2 z = some Rz) : SA z Rz a k := by
  unfold fn_X12_token_180 at h
  exact hk_144 (v2 + 1) z  _ h
theorem ff_X12_token_208 {a k : Nat} (hf : Nf_X12_token  a k) (v2 : Int32) (tv1 : Int32) (z : St)  {Rz : St} (h : fn_X12_token_208   v2 tv1 z = some Rz) : SA z Rz a k := by
  unfold fn_X12_token_208 at h
  obtain ⟨z1, e_z1, h⟩ := nm_s h
  refine SA.tr (sa_I e_z1 hf.2.1) ?_
  exact ff_X12_token_232  hf   v2 z1  h
theorem ff_X12_token_203 {a k : Nat} (hf : Nf_X12_token  a k) (v2 : Int32) (z : St)  {Rz : St} (h : fn_X12_token_203   v2 z = some Rz) : SA z Rz a k := by
  unfold fn_X12_token_203 at h
  exact ff_X12_token_208  hf   v2 3 z  h
theorem ff_X12_token_144 {a k : Nat} (hf : Nf_X12_token  a k) : ∀ (n : Nat) (v2 : Int32) (z : St)  (Rz : St), fn_X12_token_144   n v2 z = some Rz → SA z Rz a k := by
  intro n
  induction n with
  | zero => intro v2 z  Rz h; cases h
  | succ n ih =>
    intro v2 z  Rz h
    rw [fn_X12_token_144] at h
    obtain ⟨r2, z3, h1, h⟩ := bd_s h
    refine SA.tr (ff_X12_here   trivial h1) ?_
    obtain ⟨r5, z6, h4, h⟩ := bd_s h
    refine SA.tr (ff_X12_isDigit   trivial h4) ?_
    rcases Decidable.em (r5 = 0) with c7 | c7
    · rw [if_pos c7] at h
      rcases Decidable.em (4 < v2) with c8 | c8
      · rw [if_pos c8] at h
        exact ff_X12_token_203  hf   v2 z6  h
      · rw [if_neg c8] at h
        obtain ⟨r10, z11, h9, h⟩ := bd_s h
        refine SA.tr (ff_X12_here   trivial h9) ?_
        obtain ⟨r13, z14, h12, h⟩ := bd_s h
        refine SA.tr (ff_X12_isLetter   trivial h12) ?_
        rcases Decidable.em (r13 = 0) with c15 | c15
        · rw [if_pos c15] at h
          exact ff_X12_token_208  hf   v2 2 z14  h
        · rw [if_neg c15] at h
          exact ff_X12_token_203  hf   v2 z14  h
    · rw [if_neg c7] at h
      rcases Decidable.em (4 ≤ v2) with c16 | c16
      · rw [if_pos c16] at h
        exact ff_X12_token_180  hf  ih v2 z6  h
      · rw [if_neg c16] at h
        obtain ⟨r18, z19, h17, h⟩ := bd_s h
        refine SA.tr (ff_X12_here   trivial h17) ?_
        obtain ⟨z20, e_z20, h⟩ := nm_s h
        refine SA.tr (sa_I e_z20 hf.2.2.2.1) ?_
        exact ff_X12_token_180  hf  ih v2 z20  h
theorem ff_X12_token_229 {a k : Nat} (hf : Nf_X12_token  a k) (v2 : Int32) (tv1 : Int32) (z : St)  {Rz : St} (h : fn_X12_token_229   v2 tv1 z = some Rz) : SA z Rz a k := by
  unfold fn_X12_token_229 at h
  obtain ⟨z1, e_z1, h⟩ := nm_s h
  refine SA.tr (sa_I e_z1 hf.2.1) ?_
  exact ff_X12_token_232  hf   v2 z1  h
theorem ff_X12_token_0 {a k : Nat} (hf : Nf_X12_token  a k) : ∀ (n : Nat)  (z : St)  (Rz : St), fn_X12_token_0   n  z = some Rz → SA z Rz a k := by
  intro n
  induction n with
  | zero => intro  z  Rz h; cases h
  | succ n ih =>
    intro  z  Rz h
    rw [fn_X12_token_0] at h
    obtain ⟨r2, z3, h1, h⟩ := bd_s h
    refine SA.tr (ff_X12_here   trivial h1) ?_
    rcases Decidable.em (r2 = 32) with c4 | c4
    · rw [if_pos c4] at h
      exact ff_X12_token_20  hf  ih  z3  h
    · rw [if_neg c4] at h
      obtain ⟨r6, z7, h5, h⟩ := bd_s h
      refine SA.tr (ff_X12_here   trivial h5) ?_
      rcases Decidable.em (r6 = 10) with c8 | c8
      · rw [if_pos c8] at h
        exact ff_X12_token_20  hf  ih  z7  h
      · rw [if_neg c8] at h
        obtain ⟨z9, e_z9, h⟩ := nm_s h
        refine SA.tr (sa_I e_z9 hf.2.2.2.2) ?_
        obtain ⟨r11, z12, h10, h⟩ := bd_s h
        refine SA.tr (ff_X12_here   trivial h10) ?_
        obtain ⟨z13, e_z13, h⟩ := nm_s h
        refine SA.tr (sa_J e_z13 hf.2.2.1) ?_
        obtain ⟨z14, e_z14, h⟩ := nm_s h
        refine SA.tr (sa_I e_z14 hf.2.2.2.1) ?_
        rcases Decidable.em (0 ≤ r11) with c15 | c15
        · rw [if_pos c15] at h
          obtain ⟨r17, z18, h16, h⟩ := bd_s h
          refine SA.tr (ff_X12_isLetter   trivial h16) ?_
          rcases Decidable.em (r17 = 0) with c19 | c19
          · rw [if_pos c19] at h
            obtain ⟨r21, z22, h20, h⟩ := bd_s h
            refine SA.tr (ff_X12_isDigit   trivial h20) ?_
            rcases Decidable.em (r21 = 0) with c23 | c23
            · rw [if_pos c23] at h
              obtain ⟨r25, z26, h24, h⟩ := bd_s h
              refine SA.tr (ff_X12_isSign   trivial h24) ?_
              rcases Decidable.em (r25 = 0) with c27 | c27
              · rw [if_pos c27] at h
                exact ff_X12_token_229  hf   1 3 z26  h
              · rw [if_neg c27] at h
                exact ff_X12_token_229  hf   1 r11 z26  h
            · rw [if_neg c23] at h
              exact ff_X12_token_144  hf   fu 0 z22  _ h
          · rw [if_neg c19] at h
            exact ff_X12_token_78  hf   fu 0 z18  _ h
        · rw [if_neg c15] at h
          obtain ⟨z28, e_z28, h⟩ := nm_s h
          refine SA.tr (sa_I e_z28 hf.2.1) ?_
          exact ff_X12_token_232  hf   0 z28  h
theorem ff_X12_token {a k : Nat}  {z : St} {Rz : St}  (hf : Nf_X12_token  a k) (h : fn_X12_token   z = some Rz) : SA z Rz a k := by
  unfold fn_X12_token at h
  exact ff_X12_token_0  hf   fu  z  _ h
theorem ff_X12_wrong_22 {a k : Nat} (hf : Nf_X12_wrong  a k) (tv1 : Int32) (z : St)  {Rz : St} (h : fn_X12_wrong_22   tv1 z = some Rz) : SA z Rz a k := by
  unfold fn_X12_wrong_22 at h
  obtain ⟨z1, e_z1, h⟩ := nm_s h
  refine SA.tr (sa_I e_z1 hf.1) ?_
  obtain ⟨z2, e_z2, h⟩ := nm_s h
  refine SA.tr (sa_I e_z2 hf.2) ?_
  cases h
  exact SA.rf
theorem ff_X12_wrong {a k : Nat} {v1 : Int32} {z : St} {Rz : St}  (hf : Nf_X12_wrong  a k) (h : fn_X12_wrong  v1 z = some Rz) : SA z Rz a k := by
  unfold fn_X12_wrong at h
  rcases Decidable.em ((z.1 172 2) ≤ 0) with c1 | c1
  · rw [if_pos c1] at h
    rcases Decidable.em ((z.1 172 6) = 3) with c2 | c2
    · rw [if_pos c2] at h
      exact ff_X12_wrong_22  hf   1 z  h
    · rw [if_neg c2] at h
      exact ff_X12_wrong_22  hf   v1 z  h
  · rw [if_neg c1] at h
    cases h
    exact SA.rf
theorem ff_X12_isWord {a k : Nat} {v1 : Int64} {z : St} {Rz : Int32 × St}  (hf : Nf_X12_isWord  a k) (h : fn_X12_isWord  v1 z = some Rz) : SA z Rz.2 a k := by
  unfold fn_X12_isWord at h
  rcases Decidable.em ((z.1 172 6) = 1) with c1 | c1
  · rw [if_pos c1] at h
    rcases Decidable.em ((lg_cmp (z.2 172 9) v1) = 0) with c2 | c2
    · rw [if_pos c2] at h
      cases h
      exact SA.rf
    · rw [if_neg c2] at h
      cases h
      exact SA.rf
  · rw [if_neg c1] at h
    cases h
    exact SA.rf
theorem ff_X12_isOwn {a k : Nat}  {z : St} {Rz : Int32 × St}  (hf : Nf_X12_isOwn  a k) (h : fn_X12_isOwn   z = some Rz) : SA z Rz.2 a k := by
  unfold fn_X12_isOwn at h
  rcases Decidable.em ((lg_cmp (z.2 172 9) 1953064306) = 0) with c1 | c1
  · rw [if_pos c1] at h
    cases h
    exact SA.rf
  · rw [if_neg c1] at h
    rcases Decidable.em ((lg_cmp (z.2 172 9) 25209) = 0) with c2 | c2
    · rw [if_pos c2] at h
      cases h
      exact SA.rf
    · rw [if_neg c2] at h
      rcases Decidable.em ((lg_cmp (z.2 172 9) 1751738216) = 0) with c3 | c3
      · rw [if_pos c3] at h
        cases h
        exact SA.rf
      · rw [if_neg c3] at h
        rcases Decidable.em ((lg_cmp (z.2 172 9) 444351214452) = 0) with c4 | c4
        · rw [if_pos c4] at h
          cases h
          exact SA.rf
        · rw [if_neg c4] at h
          rcases Decidable.em ((lg_cmp (z.2 172 9) 512735736947) = 0) with c5 | c5
          · rw [if_pos c5] at h
            cases h
            exact SA.rf
          · rw [if_neg c5] at h
            rcases Decidable.em ((lg_cmp (z.2 172 9) 495924372852) = 0) with c6 | c6
            · rw [if_pos c6] at h
              cases h
              exact SA.rf
            · rw [if_neg c6] at h
              rcases Decidable.em ((lg_cmp (z.2 172 9) 427071202675) = 0) with c7 | c7
              · rw [if_pos c7] at h
                cases h
                exact SA.rf
              · rw [if_neg c7] at h
                rcases Decidable.em ((lg_cmp (z.2 172 9) 512970880104) = 0) with c8 | c8
                · rw [if_pos c8] at h
                  cases h
                  exact SA.rf
                · rw [if_neg c8] at h
                  rcases Decidable.em ((lg_cmp (z.2 172 9) 1936484720) = 0) with c9 | c9
                  · rw [if_pos c9] at h
                    cases h
                    exact SA.rf
                  · rw [if_neg c9] at h
                    rcases Decidable.em ((lg_cmp (z.2 172 9) 1885430629) = 0) with c10 | c10
                    · rw [if_pos c10] at h
                      cases h
                      exact SA.rf
                    · rw [if_neg c10] at h
                      rcases Decidable.em ((lg_cmp (z.2 172 9) 1685217655) = 0) with c11 | c11
                      · rw [if_pos c11] at h
                        cases h
                        exact SA.rf
                      · rw [if_neg c11] at h
                        rcases Decidable.em ((lg_cmp (z.2 172 9) 1634887009) = 0) with c12 | c12
                        · rw [if_pos c12] at h
                          cases h
                          exact SA.rf
                        · rw [if_neg c12] at h
                          rcases Decidable.em ((lg_cmp (z.2 172 9) 452639420007) = 0) with c13 | c13
                          · rw [if_pos c13] at h
                            cases h
                            exact SA.rf
                          · rw [if_neg c13] at h
                            rcases Decidable.em ((lg_cmp (z.2 172 9) 108243635103086) = 0) with c14 | c14
                            · rw [if_pos c14] at h
                              cases h
                              exact SA.rf
                            · rw [if_neg c14] at h
                              rcases Decidable.em ((lg_cmp (z.2 172 9) 1819242087) = 0) with c15 | c15
                              · rw [if_pos c15] at h
                                cases h
                                exact SA.rf
                              · rw [if_neg c15] at h
                                rcases Decidable.em ((lg_cmp (z.2 172 9) 120299592184933) = 0) with c16 | c16
                                · rw [if_pos c16] at h
                                  cases h
                                  exact SA.rf
                                · rw [if_neg c16] at h
                                  rcases Decidable.em ((lg_cmp (z.2 172 9) 6385252) = 0) with c17 | c17
                                  · rw [if_pos c17] at h
                                    cases h
                                    exact SA.rf
                                  · rw [if_neg c17] at h
                                    rcases Decidable.em ((lg_cmp (z.2 172 9) 28530) = 0) with c18 | c18
                                    · rw [if_pos c18] at h
                                      cases h
                                      exact SA.rf
                                    · rw [if_neg c18] at h
                                      rcases Decidable.em ((lg_cmp (z.2 172 9) 7237492) = 0) with c19 | c19
                                      · rw [if_pos c19] at h
                                        cases h
                                        exact SA.rf
                                      · rw [if_neg c19] at h
                                        cases h
                                        exact SA.rf
theorem ff_X12_isName {a k : Nat}  {z : St} {Rz : Int32 × St}  (hf : Nf_X12_isName  a k) (h : fn_X12_isName   z = some Rz) : SA z Rz.2 a k := by
  unfold fn_X12_isName at h
  rcases Decidable.em ((z.1 172 6) = 1) with c1 | c1
  · rw [if_pos c1] at h
    obtain ⟨r3, z4, h2, h⟩ := bd_s h
    refine SA.tr (ff_X12_isOwn   trivial h2) ?_
    rcases Decidable.em (r3 = 0) with c5 | c5
    · rw [if_pos c5] at h
      cases h
      exact SA.rf
    · rw [if_neg c5] at h
      cases h
      exact SA.rf
  · rw [if_neg c1] at h
    cases h
    exact SA.rf
theorem ff_X12_want {a k : Nat} {v1 : Int64} {z : St} {Rz : St}  (hf : Nf_X12_want  a k) (h : fn_X12_want  v1 z = some Rz) : SA z Rz a k := by
  unfold fn_X12_want at h
  rcases Decidable.em ((z.1 172 2) ≤ 0) with c1 | c1
  · rw [if_pos c1] at h
    obtain ⟨r3, z4, h2, h⟩ := bd_s h
    refine SA.tr (ff_X12_isWord   trivial h2) ?_
    rcases Decidable.em (r3 = 0) with c5 | c5
    · rw [if_pos c5] at h
      obtain ⟨z9, h8, h⟩ := bv_s h
      refine SA.tr (ff_X12_wrong   ⟨hf.2.2.2.2.2.1, hf.2.2.2.2.2.2⟩ h8) ?_
      cases h
      exact SA.rf
    · rw [if_neg c5] at h
      obtain ⟨z7, h6, h⟩ := bv_s h
      refine SA.tr (ff_X12_token   ⟨hf.1, hf.2.1, hf.2.2.1, hf.2.2.2.1, hf.2.2.2.2.1⟩ h6) ?_
      cases h
      exact SA.rf
  · rw [if_neg c1] at h
    cases h
    exact SA.rf
theorem ff_X12_toldNumber_46 {a k : Nat} (hf : Nf_X12_toldNumber  a k)  (z : St)  {Rz : Int32 × St} (h : fn_X12_toldNumber_46    z = some Rz) : SA z Rz.2 a k := by
  unfold fn_X12_toldNumber_46 at h
  obtain ⟨v3_1, e_v3_1, h⟩ := nm_s h
  rcases Decidable.em ((z.1 172 2) = 0) with c2 | c2
  · rw [if_pos c2] at h
    obtain ⟨z4, h3, h⟩ := bv_s h
    refine SA.tr (ff_X12_token   ⟨hf.1, hf.2.1, hf.2.2.1, hf.2.2.2.1, hf.2.2.2.2.1⟩ h3) ?_
    cases h
    exact SA.rf
  · rw [if_neg c2] at h
    cases h
    exact SA.rf
theorem ff_X12_toldNumber_41 {a k : Nat} (hf : Nf_X12_toldNumber  a k)  (z : St)  {Rz : Int32 × St} (h : fn_X12_toldNumber_41    z = some Rz) : SA z Rz.2 a k := by
  unfold fn_X12_toldNumber_41 at h
  obtain ⟨z2, h1, h⟩ := bv_s h
  refine SA.tr (ff_X12_wrong   ⟨hf.2.2.2.2.2.1, hf.2.2.2.2.2.2⟩ h1) ?_
  exact ff_X12_toldNumber_46  hf    z2  h
theorem ff_X12_toldNumber {a k : Nat} {v1 : Int32} {v2 : Int32} {z : St} {Rz : Int32 × St}  (hf : Nf_X12_toldNumber  a k) (h : fn_X12_toldNumber  v1 v2 z = some Rz) : SA z Rz.2 a k := by
  unfold fn_X12_toldNumber at h
  rcases Decidable.em ((z.1 172 2) ≤ 0) with c1 | c1
  · rw [if_pos c1] at h
    rcases Decidable.em ((z.1 172 6) = 2) with c2 | c2
    · rw [if_pos c2] at h
      rcases Decidable.em ((z.1 172 8) < v1) with c3 | c3
      · rw [if_pos c3] at h
        exact ff_X12_toldNumber_41  hf    z  h
      · rw [if_neg c3] at h
        rcases Decidable.em ((z.1 172 8) ≤ v2) with c4 | c4
        · rw [if_pos c4] at h
          exact ff_X12_toldNumber_46  hf    z  h
        · rw [if_neg c4] at h
          exact ff_X12_toldNumber_41  hf    z  h
    · rw [if_neg c2] at h
      obtain ⟨z6, h5, h⟩ := bv_s h
      refine SA.tr (ff_X12_wrong   ⟨hf.2.2.2.2.2.1, hf.2.2.2.2.2.2⟩ h5) ?_
      exact ff_X12_toldNumber_46  hf    z6  h
  · rw [if_neg c1] at h
    cases h
    exact SA.rf
theorem ff_X12_told {a k : Nat} {v1 : Int64} {v3 : Int32} {v4 : Int32} {z : St} {Rz : Int32 × St}  (hf : Nf_X12_told  a k) (h : fn_X12_told  v1 v3 v4 z = some Rz) : SA z Rz.2 a k := by
  unfold fn_X12_told at h
  obtain ⟨z2, h1, h⟩ := bv_s h
  refine SA.tr (ff_X12_want   ⟨hf.1, hf.2.1, hf.2.2.1, hf.2.2.2.1, hf.2.2.2.2.1, hf.2.2.2.2.2.1, hf.2.2.2.2.2.2⟩ h1) ?_
  obtain ⟨r4, z5, h3, h⟩ := bd_s h
  refine SA.tr (ff_X12_toldNumber   ⟨hf.1, hf.2.1, hf.2.2.1, hf.2.2.2.1, hf.2.2.2.2.1, hf.2.2.2.2.2.1, hf.2.2.2.2.2.2⟩ h3) ?_
  cases h
  exact SA.rf
theorem ff_X12_option {a k : Nat} {v1 : Int64} {v3 : Int32} {v4 : Int32} {z : St} {Rz : Int32 × St}  (hf : Nf_X12_option  a k) (h : fn_X12_option  v1 v3 v4 z = some Rz) : SA z Rz.2 a k := by
  unfold fn_X12_option at h
  rcases Decidable.em ((z.1 172 2) = 0) with c1 | c1
  · rw [if_pos c1] at h
    obtain ⟨r3, z4, h2, h⟩ := bd_s h
    refine SA.tr (ff_X12_isWord   trivial h2) ?_
    rcases Decidable.em (r3 = 0) with c5 | c5
    · rw [if_pos c5] at h
      cases h
      exact SA.rf
    · rw [if_neg c5] at h
      obtain ⟨r7, z8, h6, h⟩ := bd_s h
      refine SA.tr (ff_X12_told   ⟨hf.1, hf.2.1, hf.2.2.1, hf.2.2.2.1, hf.2.2.2.2.1, hf.2.2.2.2.2.1, hf.2.2.2.2.2.2⟩ h6) ?_
      cases h
      exact SA.rf
  · rw [if_neg c1] at h
    cases h
    exact SA.rf
theorem ff_X12_newName_51 {a k : Nat} (hf : Nf_X12_newName  a k) {k18 : Int32 → Int32 → Int32 → St → Option (St)} (hk_18 : ∀ (v1 : Int32) (v2 : Int32) (v3 : Int32) (z : St)  (Rz : St), k18 v1 v2 v3 z = some Rz → SA z Rz a k) (v1 : Int32) (v2 : Int32) (v3 : Int32) (z : St)  {Rz : St} (h : fn_X12_newName_51  k18 v1 v2 v3 z = some Rz) : SA z Rz a k := by
  unfold fn_X12_newName_51 at h
  exact hk_18 v1 v2 (v3 + 1) z  _ h
theorem ff_X12_newName_57 {a k : Nat} (hf : Nf_X12_newName  a k) (v1 : Int32) (v2 : Int32) (z : St)  {Rz : St} (h : fn_X12_newName_57   v1 v2 z = some Rz) : SA z Rz a k := by
  unfold fn_X12_newName_57 at h
  rcases Decidable.em ((z.1 172 2) ≤ 0) with c1 | c1
  · rw [if_pos c1] at h
    obtain ⟨g2, h⟩ := gd_s h
    obtain ⟨z3, e_z3, h⟩ := nm_s h
    refine SA.tr (sa_Ja e_z3 hf.1) ?_
    obtain ⟨z5, h4, h⟩ := bv_s h
    refine SA.tr (ff_X12_token   ⟨hf.2.1, hf.2.2.1, hf.2.2.2.1, hf.2.2.2.2.1, hf.2.2.2.2.2.1⟩ h4) ?_
    cases h
    exact SA.rf
  · rw [if_neg c1] at h
    cases h
    exact SA.rf
theorem ff_X12_newName_18 {a k : Nat} (hf : Nf_X12_newName  a k) : ∀ (n : Nat) (v1 : Int32) (v2 : Int32) (v3 : Int32) (z : St)  (Rz : St), fn_X12_newName_18   n v1 v2 v3 z = some Rz → SA z Rz a k := by
  intro n
  induction n with
  | zero => intro v1 v2 v3 z  Rz h; cases h
  | succ n ih =>
    intro v1 v2 v3 z  Rz h
    rw [fn_X12_newName_18] at h
    rcases Decidable.em (v2 ≤ v3) with c1 | c1
    · rw [if_pos c1] at h
      exact ff_X12_newName_57  hf   v1 v2 z  h
    · rw [if_neg c1] at h
      rcases Decidable.em ((z.1 172 2) = 0) with c2 | c2
      · rw [if_pos c2] at h
        obtain ⟨g3, h⟩ := gd_s h
        rcases Decidable.em ((lg_cmp (z.2 174 (Int32.toNatClampNeg (v1 + v3))) (z.2 172 9)) = 0) with c4 | c4
        · rw [if_pos c4] at h
          obtain ⟨z6, h5, h⟩ := bv_s h
          refine SA.tr (ff_X12_wrong   ⟨hf.2.2.2.2.2.2.1, hf.2.2.2.2.2.2.2⟩ h5) ?_
          exact ff_X12_newName_51  hf  ih v1 v2 v3 z6  h
        · rw [if_neg c4] at h
          exact ff_X12_newName_51  hf  ih v1 v2 v3 z  h
      · rw [if_neg c2] at h
        exact ff_X12_newName_57  hf   v1 v2 z  h
theorem ff_X12_newName_16 {a k : Nat} (hf : Nf_X12_newName  a k) (v1 : Int32) (v2 : Int32) (z : St)  {Rz : St} (h : fn_X12_newName_16   v1 v2 z = some Rz) : SA z Rz a k := by
  unfold fn_X12_newName_16 at h
  exact ff_X12_newName_18  hf   fu v1 v2 0 z  _ h
theorem ff_X12_newName {a k : Nat} {v1 : Int32} {v2 : Int32} {z : St} {Rz : St}  (hf : Nf_X12_newName  a k) (h : fn_X12_newName  v1 v2 z = some Rz) : SA z Rz a k := by
  unfold fn_X12_newName at h
  obtain ⟨z2, h1, h⟩ := bv_s h
  refine SA.tr (ff_X12_token   ⟨hf.2.1, hf.2.2.1, hf.2.2.2.1, hf.2.2.2.2.1, hf.2.2.2.2.2.1⟩ h1) ?_
  obtain ⟨r4, z5, h3, h⟩ := bd_s h
  refine SA.tr (ff_X12_isName   trivial h3) ?_
  rcases Decidable.em (r4 = 0) with c6 | c6
  · rw [if_pos c6] at h
    obtain ⟨z8, h7, h⟩ := bv_s h
    refine SA.tr (ff_X12_wrong   ⟨hf.2.2.2.2.2.2.1, hf.2.2.2.2.2.2.2⟩ h7) ?_
    exact ff_X12_newName_16  hf   v1 v2 z8  h
  · rw [if_neg c6] at h
    exact ff_X12_newName_16  hf   v1 v2 z5  h
theorem ff_X12_add {a k : Nat} {v1 : Int32} {v2 : Int32} {z : St} {Rz : St}  (hf : Nf_X12_add  a k) (h : fn_X12_add  v1 v2 z = some Rz) : SA z Rz a k := by
  unfold fn_X12_add at h
  obtain ⟨g1, h⟩ := gd_s h
  obtain ⟨g2, h⟩ := gd_s h
  obtain ⟨z3, e_z3, h⟩ := nm_s h
  refine SA.tr (sa_Ia e_z3 hf.1) ?_
  obtain ⟨g4, h⟩ := gd_s h
  obtain ⟨g5, h⟩ := gd_s h
  obtain ⟨z6, e_z6, h⟩ := nm_s h
  refine SA.tr (sa_Ia e_z6 hf.2.1) ?_
  obtain ⟨g7, h⟩ := gd_s h
  obtain ⟨g8, h⟩ := gd_s h
  obtain ⟨z9, e_z9, h⟩ := nm_s h
  refine SA.tr (sa_Ia e_z9 hf.2.2) ?_
  cases h
  exact SA.rf
theorem ff_X12_tight {a k : Nat} {v0 : Int32} {z : St} {Rz : Int32 × St}  (hf : Nf_X12_tight  a k) (h : fn_X12_tight  v0 z = some Rz) : SA z Rz.2 a k := by
  unfold fn_X12_tight at h
  by_cases c1 : v0 = 21
  · rw [if_pos c1] at h
    cases h
    exact SA.rf
  rw [if_neg c1] at h
  by_cases c2 : v0 = 38
  · rw [if_pos c2] at h
    cases h
    exact SA.rf
  rw [if_neg c2] at h
  by_cases c3 : v0 = 43
  · rw [if_pos c3] at h
    cases h
    exact SA.rf
  rw [if_neg c3] at h
  by_cases c4 : v0 = 45
  · rw [if_pos c4] at h
    cases h
    exact SA.rf
  rw [if_neg c4] at h
  by_cases c5 : v0 = 60
  · rw [if_pos c5] at h
    cases h
    exact SA.rf
  rw [if_neg c5] at h
  by_cases c6 : v0 = 61
  · rw [if_pos c6] at h
    cases h
    exact SA.rf
  rw [if_neg c6] at h
  by_cases c7 : v0 = 62
  · rw [if_pos c7] at h
    cases h
    exact SA.rf
  rw [if_neg c7] at h
  by_cases c8 : v0 = 124
  · rw [if_pos c8] at h
    cases h
    exact SA.rf
  rw [if_neg c8] at h
  cases h
  exact SA.rf
theorem ff_X12_close_0 {a k : Nat} (hf : Nf_X12_close  a k) : ∀ (n : Nat) (v1 : Int32) (z : St)  (Rz : St), fn_X12_close_0   n v1 z = some Rz → SA z Rz a k := by
  intro n
  induction n with
  | zero => intro v1 z  Rz h; cases h
  | succ n ih =>
    intro v1 z  Rz h
    rw [fn_X12_close_0] at h
    rcases Decidable.em ((z.1 172 21) ≤ 0) with c1 | c1
    · rw [if_pos c1] at h
      cases h
      exact SA.rf
    · rw [if_neg c1] at h
      obtain ⟨g2, h⟩ := gd_s h
      rcases Decidable.em ((z.1 181 (Int32.toNatClampNeg ((z.1 172 21) - 1))) = 20) with c3 | c3
      · rw [if_pos c3] at h
        cases h
        exact SA.rf
      · rw [if_neg c3] at h
        obtain ⟨g4, h⟩ := gd_s h
        obtain ⟨r6, z7, h5, h⟩ := bd_s h
        refine SA.tr (ff_X12_tight   trivial h5) ?_
        rcases Decidable.em (r6 < v1) with c8 | c8
        · rw [if_pos c8] at h
          cases h
          exact SA.rf
        · rw [if_neg c8] at h
          obtain ⟨z9, e_z9, h⟩ := nm_s h
          refine SA.tr (sa_I e_z9 hf.1) ?_
          obtain ⟨g10, h⟩ := gd_s h
          rcases Decidable.em ((z9.1 181 (Int32.toNatClampNeg (z9.1 172 21))) = 21) with c11 | c11
          · rw [if_pos c11] at h
            obtain ⟨z16, h15, h⟩ := bv_s h
            refine SA.tr (ff_X12_add   ⟨hf.2.1, hf.2.2.1, hf.2.2.2.1⟩ h15) ?_
            obtain ⟨z17, e_z17, h⟩ := nm_s h
            refine SA.tr (sa_I e_z17 hf.2.2.2.2) ?_
            exact ih v1 z17  _ h
          · rw [if_neg c11] at h
            obtain ⟨g12, h⟩ := gd_s h
            obtain ⟨z14, h13, h⟩ := bv_s h
            refine SA.tr (ff_X12_add   ⟨hf.2.1, hf.2.2.1, hf.2.2.2.1⟩ h13) ?_
            exact ih v1 z14  _ h
theorem ff_X12_close {a k : Nat} {v1 : Int32} {z : St} {Rz : St}  (hf : Nf_X12_close  a k) (h : fn_X12_close  v1 z = some Rz) : SA z Rz a k := by
  unfold fn_X12_close at h
  exact ff_X12_close_0  hf   fu v1 z  _ h
theorem ff_X12_hasRelation_41 {a k : Nat} (hf : Nf_X12_hasRelation  a k) (v1 : Int32) (z : St)  {Rz : Int32 × St} (h : fn_X12_hasRelation_41   v1 z = some Rz) : SA z Rz.2 a k := by
  unfold fn_X12_hasRelation_41 at h
  rcases Decidable.em (v1 < 0) with c1 | c1
  · rw [if_pos c1] at h
    cases h
    exact SA.rf
  · rw [if_neg c1] at h
    obtain ⟨g2, h⟩ := gd_s h
    rcases Decidable.em ((z.1 181 (Int32.toNatClampNeg v1)) = 20) with c3 | c3
    · rw [if_pos c3] at h
      cases h
      exact SA.rf
    · rw [if_neg c3] at h
      obtain ⟨g4, h⟩ := gd_s h
      obtain ⟨r6, z7, h5, h⟩ := bd_s h
      refine SA.tr (ff_X12_tight   trivial h5) ?_
      rcases Decidable.em (r6 = 4) with c8 | c8
      · rw [if_pos c8] at h
        cases h
        exact SA.rf
      · rw [if_neg c8] at h
        cases h
        exact SA.rf
theorem ff_X12_hasRelation_7 {a k : Nat} (hf : Nf_X12_hasRelation  a k) : ∀ (n : Nat) (v1 : Int32) (z : St)  (Rz : Int32 × St), fn_X12_hasRelation_7   n v1 z = some Rz → SA z Rz.2 a k := by
  intro n
  induction n with
  | zero => intro v1 z  Rz h; cases h
  | succ n ih =>
    intro v1 z  Rz h
    rw [fn_X12_hasRelation_7] at h
    rcases Decidable.em (v1 < 0) with c1 | c1
    · rw [if_pos c1] at h
      exact ff_X12_hasRelation_41  hf   v1 z  h
    · rw [if_neg c1] at h
      obtain ⟨g2, h⟩ := gd_s h
      rcases Decidable.em ((z.1 181 (Int32.toNatClampNeg v1)) = 20) with c3 | c3
      · rw [if_pos c3] at h
        exact ff_X12_hasRelation_41  hf   v1 z  h
      · rw [if_neg c3] at h
        obtain ⟨g4, h⟩ := gd_s h
        obtain ⟨r6, z7, h5, h⟩ := bd_s h
        refine SA.tr (ff_X12_tight   trivial h5) ?_
        rcases Decidable.em (r6 ≤ 4) with c8 | c8
        · rw [if_pos c8] at h
          exact ff_X12_hasRelation_41  hf   v1 z7  h
        · rw [if_neg c8] at h
          exact ih (v1 + (-1)) z7  _ h
theorem ff_X12_hasRelation {a k : Nat}  {z : St} {Rz : Int32 × St}  (hf : Nf_X12_hasRelation  a k) (h : fn_X12_hasRelation   z = some Rz) : SA z Rz.2 a k := by
  unfold fn_X12_hasRelation at h
  obtain ⟨v1_1, e_v1_1, h⟩ := nm_s h
  exact ff_X12_hasRelation_7  hf   fu v1_1 z  _ h
theorem ff_X12_mayNot {a k : Nat}  {z : St} {Rz : Int32 × St}  (hf : Nf_X12_mayNot  a k) (h : fn_X12_mayNot   z = some Rz) : SA z Rz.2 a k := by
  unfold fn_X12_mayNot at h
  rcases Decidable.em ((z.1 172 21) = 0) with c1 | c1
  · rw [if_pos c1] at h
    cases h
    exact SA.rf
  · rw [if_neg c1] at h
    obtain ⟨g2, h⟩ := gd_s h
    rcases Decidable.em ((z.1 181 (Int32.toNatClampNeg ((z.1 172 21) - 1))) = 20) with c3 | c3
    · rw [if_pos c3] at h
      cases h
      exact SA.rf
    · rw [if_neg c3] at h
      obtain ⟨g4, h⟩ := gd_s h
      obtain ⟨r6, z7, h5, h⟩ := bd_s h
      refine SA.tr (ff_X12_tight   trivial h5) ?_
      rcases Decidable.em (4 ≤ r6) with c8 | c8
      · rw [if_pos c8] at h
        cases h
        exact SA.rf
      · rw [if_neg c8] at h
        cases h
        exact SA.rf
theorem ff_X12_asked {a k : Nat}  {z : St} {Rz : Int32 × St}  (hf : Nf_X12_asked  a k) (h : fn_X12_asked   z = some Rz) : SA z Rz.2 a k := by
  unfold fn_X12_asked at h
  rcases Decidable.em ((z.1 172 6) = 1) with c1 | c1
  · rw [if_pos c1] at h
    rcases Decidable.em ((lg_cmp (z.2 172 9) 1634887009) = 0) with c2 | c2
    · rw [if_pos c2] at h
      cases h
      exact SA.rf
    · rw [if_neg c2] at h
      rcases Decidable.em ((lg_cmp (z.2 172 9) 452639420007) = 0) with c3 | c3
      · rw [if_pos c3] at h
        cases h
        exact SA.rf
      · rw [if_neg c3] at h
        rcases Decidable.em ((lg_cmp (z.2 172 9) 495924372852) = 0) with c4 | c4
        · rw [if_pos c4] at h
          cases h
          exact SA.rf
        · rw [if_neg c4] at h
          rcases Decidable.em ((lg_cmp (z.2 172 9) 108243635103086) = 0) with c5 | c5
          · rw [if_pos c5] at h
            cases h
            exact SA.rf
          · rw [if_neg c5] at h
            rcases Decidable.em ((lg_cmp (z.2 172 9) 1819242087) = 0) with c6 | c6
            · rw [if_pos c6] at h
              cases h
              exact SA.rf
            · rw [if_neg c6] at h
              rcases Decidable.em ((lg_cmp (z.2 172 9) 120299592184933) = 0) with c7 | c7
              · rw [if_pos c7] at h
                cases h
                exact SA.rf
              · rw [if_neg c7] at h
                cases h
                exact SA.rf
  · rw [if_neg c1] at h
    cases h
    exact SA.rf
theorem ff_X12_isFull {a k : Nat}  {z : St} {Rz : Int32 × St}  (hf : Nf_X12_isFull  a k) (h : fn_X12_isFull   z = some Rz) : SA z Rz.2 a k := by
  unfold fn_X12_isFull at h
  rcases Decidable.em ((z.1 172 22) = 60) with c1 | c1
  · rw [if_pos c1] at h
    cases h
    exact SA.rf
  · rw [if_neg c1] at h
    rcases Decidable.em ((z.1 172 24) = 30) with c2 | c2
    · rw [if_pos c2] at h
      cases h
      exact SA.rf
    · rw [if_neg c2] at h
      cases h
      exact SA.rf
theorem ff_X12_countUnit {a k : Nat}  {z : St} {Rz : St}  (hf : Nf_X12_countUnit  a k) (h : fn_X12_countUnit   z = some Rz) : SA z Rz a k := by
  unfold fn_X12_countUnit at h
  obtain ⟨z1, e_z1, h⟩ := nm_s h
  refine SA.tr (sa_I e_z1 hf.1) ?_
  obtain ⟨z2, e_z2, h⟩ := nm_s h
  refine SA.tr (sa_I e_z2 hf.2) ?_
  cases h
  exact SA.rf
theorem ff_X12_openUp {a k : Nat} {v1 : Int32} {z : St} {Rz : St}  (hf : Nf_X12_openUp  a k) (h : fn_X12_openUp  v1 z = some Rz) : SA z Rz a k := by
  unfold fn_X12_openUp at h
  obtain ⟨g1, h⟩ := gd_s h
  obtain ⟨z2, e_z2, h⟩ := nm_s h
  refine SA.tr (sa_Ia e_z2 hf.1) ?_
  obtain ⟨z3, e_z3, h⟩ := nm_s h
  refine SA.tr (sa_I e_z3 hf.2.1) ?_
  obtain ⟨z4, e_z4, h⟩ := nm_s h
  refine SA.tr (sa_I e_z4 hf.2.2.1) ?_
  rcases Decidable.em ((z4.1 172 2) = 0) with c5 | c5
  · rw [if_pos c5] at h
    obtain ⟨z7, h6, h⟩ := bv_s h
    refine SA.tr (ff_X12_token   ⟨hf.2.2.2.1, hf.2.2.2.2.1, hf.2.2.2.2.2.1, hf.2.2.2.2.2.2.1, hf.2.2.2.2.2.2.2⟩ h6) ?_
    cases h
    exact SA.rf
  · rw [if_neg c5] at h
    cases h
    exact SA.rf
theorem ff_X12_unit_44 {a k : Nat} (hf : Nf_X12_unit  a k) {k2 : Int32 → St → Option (St)} (hk_2 : ∀ (v1 : Int32) (z : St)  (Rz : St), k2 v1 z = some Rz → SA z Rz a k) (v1 : Int32) (z : St)  {Rz : St} (h : fn_X12_unit_44  k2 v1 z = some Rz) : SA z Rz a k := by
  unfold fn_X12_unit_44 at h
  obtain ⟨z2, h1, h⟩ := bv_s h
  refine SA.tr (ff_X12_openUp   ⟨hf.1, hf.2.1, hf.2.2.1, hf.2.2.2.1, hf.2.2.2.2.1, hf.2.2.2.2.2.1, hf.2.2.2.2.2.2.1, hf.2.2.2.2.2.2.2.1⟩ h1) ?_
  exact hk_2 v1 z2  _ h
theorem ff_X12_unit_83 {a k : Nat} (hf : Nf_X12_unit  a k) {k2 : Int32 → St → Option (St)} (hk_2 : ∀ (v1 : Int32) (z : St)  (Rz : St), k2 v1 z = some Rz → SA z Rz a k) (v1 : Int32) (z : St)  {Rz : St} (h : fn_X12_unit_83  k2 v1 z = some Rz) : SA z Rz a k := by
  unfold fn_X12_unit_83 at h
  obtain ⟨z2, h1, h⟩ := bv_s h
  refine SA.tr (ff_X12_countUnit   ⟨hf.2.2.2.2.2.2.2.2.1, hf.2.2.2.2.2.2.2.2.2.1⟩ h1) ?_
  obtain ⟨z4, h3, h⟩ := bv_s h
  refine SA.tr (ff_X12_openUp   ⟨hf.1, hf.2.1, hf.2.2.1, hf.2.2.2.1, hf.2.2.2.2.1, hf.2.2.2.2.2.1, hf.2.2.2.2.2.2.1, hf.2.2.2.2.2.2.2.1⟩ h3) ?_
  exact hk_2 v1 z4  _ h
theorem ff_X12_unit_78 {a k : Nat} (hf : Nf_X12_unit  a k) {k2 : Int32 → St → Option (St)} (hk_2 : ∀ (v1 : Int32) (z : St)  (Rz : St), k2 v1 z = some Rz → SA z Rz a k) (v1 : Int32) (z : St)  {Rz : St} (h : fn_X12_unit_78  k2 v1 z = some Rz) : SA z Rz a k := by
  unfold fn_X12_unit_78 at h
  obtain ⟨z2, h1, h⟩ := bv_s h
  refine SA.tr (ff_X12_wrong   ⟨hf.2.2.2.2.2.2.2.2.2.2.1, hf.2.2.2.2.2.2.2.2.2.2.2.1⟩ h1) ?_
  exact ff_X12_unit_83  hf  hk_2 v1 z2  h
theorem ff_X12_unit_53 {a k : Nat} (hf : Nf_X12_unit  a k) {k2 : Int32 → St → Option (St)} (hk_2 : ∀ (v1 : Int32) (z : St)  (Rz : St), k2 v1 z = some Rz → SA z Rz a k) (v1 : Int32) (z : St)  {Rz : St} (h : fn_X12_unit_53  k2 v1 z = some Rz) : SA z Rz a k := by
  unfold fn_X12_unit_53 at h
  rcases Decidable.em ((z.1 172 6) = 40) with c1 | c1
  · rw [if_pos c1] at h
    obtain ⟨r3, z4, h2, h⟩ := bd_s h
    refine SA.tr (ff_X12_isFull   trivial h2) ?_
    rcases Decidable.em (r3 = 0) with c5 | c5
    · rw [if_pos c5] at h
      rcases Decidable.em ((z4.1 172 25) ≤ 6) with c6 | c6
      · rw [if_pos c6] at h
        exact ff_X12_unit_83  hf  hk_2 v1 z4  h
      · rw [if_neg c6] at h
        exact ff_X12_unit_78  hf  hk_2 v1 z4  h
    · rw [if_neg c5] at h
      exact ff_X12_unit_78  hf  hk_2 v1 z4  h
  · rw [if_neg c1] at h
    exact hk_2 0 z  _ h
theorem ff_X12_unit_172 {a k : Nat} (hf : Nf_X12_unit  a k) (tv1 : Int32) (tv2 : Int32) (z : St)  {Rz : St} (h : fn_X12_unit_172   tv1 tv2 z = some Rz) : SA z Rz a k := by
  unfold fn_X12_unit_172 at h
  obtain ⟨z2, h1, h⟩ := bv_s h
  refine SA.tr (ff_X12_add   ⟨hf.2.2.2.2.2.2.2.2.2.2.2.2.1, hf.2.2.2.2.2.2.2.2.2.2.2.2.2.1, hf.2.2.2.2.2.2.2.2.2.2.2.2.2.2⟩ h1) ?_
  obtain ⟨z4, h3, h⟩ := bv_s h
  refine SA.tr (ff_X12_token   ⟨hf.2.2.2.1, hf.2.2.2.2.1, hf.2.2.2.2.2.1, hf.2.2.2.2.2.2.1, hf.2.2.2.2.2.2.2.1⟩ h3) ?_
  cases h
  exact SA.rf
theorem ff_X12_unit_160 {a k : Nat} (hf : Nf_X12_unit  a k) (v2 : Int32) (tv1 : Int32) (z : St)  {Rz : St} (h : fn_X12_unit_160   v2 tv1 z = some Rz) : SA z Rz a k := by
  unfold fn_X12_unit_160 at h
  rcases Decidable.em (0 ≤ v2) with c1 | c1
  · rw [if_pos c1] at h
    exact ff_X12_unit_172  hf   tv1 v2 z  h
  · rw [if_neg c1] at h
    exact ff_X12_unit_172  hf   tv1 (z.1 172 8) z  h
theorem ff_X12_unit_138 {a k : Nat} (hf : Nf_X12_unit  a k) (v2 : Int32) (z : St)  {Rz : St} (h : fn_X12_unit_138   v2 z = some Rz) : SA z Rz a k := by
  unfold fn_X12_unit_138 at h
  rcases Decidable.em ((z.1 172 2) ≤ 0) with c1 | c1
  · rw [if_pos c1] at h
    obtain ⟨z3, h2, h⟩ := bv_s h
    refine SA.tr (ff_X12_countUnit   ⟨hf.2.2.2.2.2.2.2.2.1, hf.2.2.2.2.2.2.2.2.2.1⟩ h2) ?_
    rcases Decidable.em (0 ≤ v2) with c4 | c4
    · rw [if_pos c4] at h
      exact ff_X12_unit_160  hf   v2 1 z3  h
    · rw [if_neg c4] at h
      exact ff_X12_unit_160  hf   v2 0 z3  h
  · rw [if_neg c1] at h
    cases h
    exact SA.rf
theorem ff_X12_unit_133 {a k : Nat} (hf : Nf_X12_unit  a k) (v2 : Int32) (z : St)  {Rz : St} (h : fn_X12_unit_133   v2 z = some Rz) : SA z Rz a k := by
  unfold fn_X12_unit_133 at h
  obtain ⟨z2, h1, h⟩ := bv_s h
  refine SA.tr (ff_X12_wrong   ⟨hf.2.2.2.2.2.2.2.2.2.2.1, hf.2.2.2.2.2.2.2.2.2.2.2.1⟩ h1) ?_
  exact ff_X12_unit_138  hf   v2 z2  h
theorem ff_X12_unit_126 {a k : Nat} (hf : Nf_X12_unit  a k) (v2 : Int32) (z : St)  {Rz : St} (h : fn_X12_unit_126   v2 z = some Rz) : SA z Rz a k := by
  unfold fn_X12_unit_126 at h
  obtain ⟨r2, z3, h1, h⟩ := bd_s h
  refine SA.tr (ff_X12_isFull   trivial h1) ?_
  rcases Decidable.em (r2 = 0) with c4 | c4
  · rw [if_pos c4] at h
    exact ff_X12_unit_138  hf   v2 z3  h
  · rw [if_neg c4] at h
    exact ff_X12_unit_133  hf   v2 z3  h
theorem ff_X12_unit_101 {a k : Nat} (hf : Nf_X12_unit  a k)  (z : St)  {Rz : St} (h : fn_X12_unit_101    z = some Rz) : SA z Rz a k := by
  unfold fn_X12_unit_101 at h
  rcases Decidable.em ((z.1 172 2) ≤ 0) with c1 | c1
  · rw [if_pos c1] at h
    obtain ⟨r3, z4, h2, h⟩ := bd_s h
    refine SA.tr (ff_X12_asked   trivial h2) ?_
    rcases Decidable.em ((z4.1 172 6) = 2) with c5 | c5
    · rw [if_pos c5] at h
      exact ff_X12_unit_126  hf   r3 z4  h
    · rw [if_neg c5] at h
      rcases Decidable.em (r3 < 0) with c6 | c6
      · rw [if_pos c6] at h
        exact ff_X12_unit_133  hf   r3 z4  h
      · rw [if_neg c6] at h
        exact ff_X12_unit_126  hf   r3 z4  h
  · rw [if_neg c1] at h
    cases h
    exact SA.rf
theorem ff_X12_unit_2 {a k : Nat} (hf : Nf_X12_unit  a k) : ∀ (n : Nat) (v1 : Int32) (z : St)  (Rz : St), fn_X12_unit_2   n v1 z = some Rz → SA z Rz a k := by
  intro n
  induction n with
  | zero => intro v1 z  Rz h; cases h
  | succ n ih =>
    intro v1 z  Rz h
    rw [fn_X12_unit_2] at h
    rcases Decidable.em (v1 = 0) with c1 | c1
    · rw [if_pos c1] at h
      exact ff_X12_unit_101  hf    z  h
    · rw [if_neg c1] at h
      rcases Decidable.em ((z.1 172 2) = 0) with c2 | c2
      · rw [if_pos c2] at h
        obtain ⟨r4, z5, h3, h⟩ := bd_s h
        refine SA.tr (ff_X12_isWord   trivial h3) ?_
        rcases Decidable.em (r4 = 0) with c6 | c6
        · rw [if_pos c6] at h
          exact ff_X12_unit_53  hf  ih v1 z5  h
        · rw [if_neg c6] at h
          obtain ⟨r8, z9, h7, h⟩ := bd_s h
          refine SA.tr (ff_X12_mayNot   trivial h7) ?_
          rcases Decidable.em (r8 = 0) with c10 | c10
          · rw [if_pos c10] at h
            exact ff_X12_unit_53  hf  ih v1 z9  h
          · rw [if_neg c10] at h
            rcases Decidable.em ((z9.1 172 25) ≤ 6) with c11 | c11
            · rw [if_pos c11] at h
              exact ff_X12_unit_44  hf  ih v1 z9  h
            · rw [if_neg c11] at h
              obtain ⟨z13, h12, h⟩ := bv_s h
              refine SA.tr (ff_X12_wrong   ⟨hf.2.2.2.2.2.2.2.2.2.2.1, hf.2.2.2.2.2.2.2.2.2.2.2.1⟩ h12) ?_
              exact ff_X12_unit_44  hf  ih v1 z13  h
      · rw [if_neg c2] at h
        exact ff_X12_unit_101  hf    z  h
theorem ff_X12_unit {a k : Nat}  {z : St} {Rz : St}  (hf : Nf_X12_unit  a k) (h : fn_X12_unit   z = some Rz) : SA z Rz a k := by
  unfold fn_X12_unit at h
  exact ff_X12_unit_2  hf   fu 1 z  _ h
theorem ff_X12_sign {a k : Nat}  {z : St} {Rz : Int32 × St}  (hf : Nf_X12_sign  a k) (h : fn_X12_sign   z = some Rz) : SA z Rz.2 a k := by
  unfold fn_X12_sign at h
  obtain ⟨r2, z3, h1, h⟩ := bd_s h
  refine SA.tr (ff_X12_isWord   trivial h1) ?_
  rcases Decidable.em (r2 = 0) with c4 | c4
  · rw [if_pos c4] at h
    obtain ⟨r6, z7, h5, h⟩ := bd_s h
    refine SA.tr (ff_X12_isWord   trivial h5) ?_
    rcases Decidable.em (r6 = 0) with c8 | c8
    · rw [if_pos c8] at h
      rcases Decidable.em ((z7.1 172 6) = 60) with c9 | c9
      · rw [if_pos c9] at h
        cases h
        exact SA.rf
      · rw [if_neg c9] at h
        rcases Decidable.em ((z7.1 172 6) = 62) with c10 | c10
        · rw [if_pos c10] at h
          cases h
          exact SA.rf
        · rw [if_neg c10] at h
          rcases Decidable.em ((z7.1 172 6) = 61) with c11 | c11
          · rw [if_pos c11] at h
            cases h
            exact SA.rf
          · rw [if_neg c11] at h
            rcases Decidable.em ((z7.1 172 6) = 43) with c12 | c12
            · rw [if_pos c12] at h
              cases h
              exact SA.rf
            · rw [if_neg c12] at h
              rcases Decidable.em ((z7.1 172 6) = 45) with c13 | c13
              · rw [if_pos c13] at h
                cases h
                exact SA.rf
              · rw [if_neg c13] at h
                rcases Decidable.em ((z7.1 172 6) = 42) with c14 | c14
                · rw [if_pos c14] at h
                  cases h
                  exact SA.rf
                · rw [if_neg c14] at h
                  rcases Decidable.em ((z7.1 172 6) = 47) with c15 | c15
                  · rw [if_pos c15] at h
                    cases h
                    exact SA.rf
                  · rw [if_neg c15] at h
                    rcases Decidable.em ((z7.1 172 6) = 37) with c16 | c16
                    · rw [if_pos c16] at h
                      cases h
                      exact SA.rf
                    · rw [if_neg c16] at h
                      cases h
                      exact SA.rf
    · rw [if_neg c8] at h
      cases h
      exact SA.rf
  · rw [if_neg c4] at h
    cases h
    exact SA.rf
theorem ff_X12_hasBracket_32 {a k : Nat} (hf : Nf_X12_hasBracket  a k) {k4 : Int32 → Int32 → St → Option (Int32 × St)} (hk_4 : ∀ (v1 : Int32) (v2 : Int32) (z : St)  (Rz : Int32 × St), k4 v1 v2 z = some Rz → SA z Rz.2 a k) (v2 : Int32) (tv0 : Int32) (z : St)  {Rz : Int32 × St} (h : fn_X12_hasBracket_32  k4 v2 tv0 z = some Rz) : SA z Rz.2 a k := by
  unfold fn_X12_hasBracket_32 at h
  exact hk_4 tv0 (v2 + 1) z  _ h
theorem ff_X12_hasBracket_27 {a k : Nat} (hf : Nf_X12_hasBracket  a k) {k4 : Int32 → Int32 → St → Option (Int32 × St)} (hk_4 : ∀ (v1 : Int32) (v2 : Int32) (z : St)  (Rz : Int32 × St), k4 v1 v2 z = some Rz → SA z Rz.2 a k) (v2 : Int32) (z : St)  {Rz : Int32 × St} (h : fn_X12_hasBracket_27  k4 v2 z = some Rz) : SA z Rz.2 a k := by
  unfold fn_X12_hasBracket_27 at h
  exact ff_X12_hasBracket_32  hf  hk_4 v2 1 z  h
theorem ff_X12_hasBracket_4 {a k : Nat} (hf : Nf_X12_hasBracket  a k) : ∀ (n : Nat) (v1 : Int32) (v2 : Int32) (z : St)  (Rz : Int32 × St), fn_X12_hasBracket_4   n v1 v2 z = some Rz → SA z Rz.2 a k := by
  intro n
  induction n with
  | zero => intro v1 v2 z  Rz h; cases h
  | succ n ih =>
    intro v1 v2 z  Rz h
    rw [fn_X12_hasBracket_4] at h
    rcases Decidable.em ((z.1 172 21) ≤ v2) with c1 | c1
    · rw [if_pos c1] at h
      obtain ⟨g2, h⟩ := gd_s h
      cases h
      exact SA.rf
    · rw [if_neg c1] at h
      rcases Decidable.em (v1 = 0) with c3 | c3
      · rw [if_pos c3] at h
        obtain ⟨g4, h⟩ := gd_s h
        rcases Decidable.em ((z.1 181 (Int32.toNatClampNeg v2)) = 20) with c5 | c5
        · rw [if_pos c5] at h
          exact ff_X12_hasBracket_27  hf  ih v2 z  h
        · rw [if_neg c5] at h
          exact ff_X12_hasBracket_32  hf  ih v2 0 z  h
      · rw [if_neg c3] at h
        exact ff_X12_hasBracket_27  hf  ih v2 z  h
theorem ff_X12_hasBracket {a k : Nat}  {z : St} {Rz : Int32 × St}  (hf : Nf_X12_hasBracket  a k) (h : fn_X12_hasBracket   z = some Rz) : SA z Rz.2 a k := by
  unfold fn_X12_hasBracket at h
  exact ff_X12_hasBracket_4  hf   fu 0 0 z  _ h
theorem ff_X12_formula_174 {a k : Nat} (hf : Nf_X12_formula  a k) {k50 : Int32 → St → Option (St)} (hk_50 : ∀ (v2 : Int32) (z : St)  (Rz : St), k50 v2 z = some Rz → SA z Rz a k) (v2 : Int32) (z : St)  {Rz : St} (h : fn_X12_formula_174  k50 v2 z = some Rz) : SA z Rz a k := by
  unfold fn_X12_formula_174 at h
  exact hk_50 v2 z  _ h
theorem ff_X12_formula_133 {a k : Nat} (hf : Nf_X12_formula  a k) {k50 : Int32 → St → Option (St)} (hk_50 : ∀ (v2 : Int32) (z : St)  (Rz : St), k50 v2 z = some Rz → SA z Rz a k) (v2 : Int32) (v3 : Int32) (z : St)  {Rz : St} (h : fn_X12_formula_133  k50 v2 v3 z = some Rz) : SA z Rz a k := by
  unfold fn_X12_formula_133 at h
  obtain ⟨r2, z3, h1, h⟩ := bd_s h
  refine SA.tr (ff_X12_tight   trivial h1) ?_
  obtain ⟨z5, h4, h⟩ := bv_s h
  refine SA.tr (ff_X12_close   ⟨hf.1, hf.2.1, hf.2.2.1, hf.2.2.2.1, hf.2.2.2.2.1⟩ h4) ?_
  obtain ⟨g6, h⟩ := gd_s h
  obtain ⟨z7, e_z7, h⟩ := nm_s h
  refine SA.tr (sa_Ia e_z7 hf.2.2.2.2.2.1) ?_
  obtain ⟨z8, e_z8, h⟩ := nm_s h
  refine SA.tr (sa_I e_z8 hf.1) ?_
  obtain ⟨z10, h9, h⟩ := bv_s h
  refine SA.tr (ff_X12_token   ⟨hf.2.2.2.2.2.2.1, hf.2.2.2.2.2.2.2.1, hf.2.2.2.2.2.2.2.2.1, hf.2.2.2.2.2.2.2.2.2.1, hf.2.2.2.2.2.2.2.2.2.2.1⟩ h9) ?_
  obtain ⟨z12, h11, h⟩ := bv_s h
  refine SA.tr (ff_X12_unit   ⟨hf.2.2.2.2.2.1, hf.1, hf.2.2.2.2.1, hf.2.2.2.2.2.2.1, hf.2.2.2.2.2.2.2.1, hf.2.2.2.2.2.2.2.2.1, hf.2.2.2.2.2.2.2.2.2.1, hf.2.2.2.2.2.2.2.2.2.2.1, hf.2.2.2.2.2.2.2.2.2.2.2.1, hf.2.2.2.2.2.2.2.2.2.2.2.2.1, hf.2.2.2.2.2.2.2.2.2.2.2.2.2.1, hf.2.2.2.2.2.2.2.2.2.2.2.2.2.2.1, hf.2.1, hf.2.2.1, hf.2.2.2.1⟩ h11) ?_
  exact ff_X12_formula_174  hf  hk_50 v2 z12  h
theorem ff_X12_formula_172 {a k : Nat} (hf : Nf_X12_formula  a k) {k50 : Int32 → St → Option (St)} (hk_50 : ∀ (v2 : Int32) (z : St)  (Rz : St), k50 v2 z = some Rz → SA z Rz a k)  (z : St)  {Rz : St} (h : fn_X12_formula_172  k50  z = some Rz) : SA z Rz a k := by
  unfold fn_X12_formula_172 at h
  exact ff_X12_formula_174  hf  hk_50 0 z  h
theorem ff_X12_formula_114 {a k : Nat} (hf : Nf_X12_formula  a k) {k50 : Int32 → St → Option (St)} (hk_50 : ∀ (v2 : Int32) (z : St)  (Rz : St), k50 v2 z = some Rz → SA z Rz a k) (v2 : Int32) (v3 : Int32) (z : St)  {Rz : St} (h : fn_X12_formula_114  k50 v2 v3 z = some Rz) : SA z Rz a k := by
  unfold fn_X12_formula_114 at h
  rcases Decidable.em (v3 = 0) with c1 | c1
  · rw [if_pos c1] at h
    exact ff_X12_formula_172  hf  hk_50  z  h
  · rw [if_neg c1] at h
    obtain ⟨r3, z4, h2, h⟩ := bd_s h
    refine SA.tr (ff_X12_tight   trivial h2) ?_
    rcases Decidable.em (r3 = 4) with c5 | c5
    · rw [if_pos c5] at h
      obtain ⟨r7, z8, h6, h⟩ := bd_s h
      refine SA.tr (ff_X12_hasRelation   trivial h6) ?_
      rcases Decidable.em (r7 = 0) with c9 | c9
      · rw [if_pos c9] at h
        exact ff_X12_formula_133  hf  hk_50 v2 v3 z8  h
      · rw [if_neg c9] at h
        exact ff_X12_formula_172  hf  hk_50  z8  h
    · rw [if_neg c5] at h
      exact ff_X12_formula_133  hf  hk_50 v2 v3 z4  h
theorem ff_X12_formula_196 {a k : Nat} (hf : Nf_X12_formula  a k)  (z : St)  {Rz : St} (h : fn_X12_formula_196    z = some Rz) : SA z Rz a k := by
  unfold fn_X12_formula_196 at h
  rcases Decidable.em ((z.1 172 2) = 0) with c1 | c1
  · rw [if_pos c1] at h
    obtain ⟨z3, h2, h⟩ := bv_s h
    refine SA.tr (ff_X12_close   ⟨hf.1, hf.2.1, hf.2.2.1, hf.2.2.2.1, hf.2.2.2.2.1⟩ h2) ?_
    cases h
    exact SA.rf
  · rw [if_neg c1] at h
    cases h
    exact SA.rf
theorem ff_X12_formula_177 {a k : Nat} (hf : Nf_X12_formula  a k)  (z : St)  {Rz : St} (h : fn_X12_formula_177    z = some Rz) : SA z Rz a k := by
  unfold fn_X12_formula_177 at h
  rcases Decidable.em ((z.1 172 2) = 0) with c1 | c1
  · rw [if_pos c1] at h
    obtain ⟨r3, z4, h2, h⟩ := bd_s h
    refine SA.tr (ff_X12_hasBracket   trivial h2) ?_
    rcases Decidable.em (r3 = 0) with c5 | c5
    · rw [if_pos c5] at h
      exact ff_X12_formula_196  hf    z4  h
    · rw [if_neg c5] at h
      obtain ⟨z7, h6, h⟩ := bv_s h
      refine SA.tr (ff_X12_wrong   ⟨hf.2.2.2.2.2.2.2.2.2.2.2.2.2.1, hf.2.2.2.2.2.2.2.2.2.2.2.2.2.2.1⟩ h6) ?_
      exact ff_X12_formula_196  hf    z7  h
  · rw [if_neg c1] at h
    exact ff_X12_formula_196  hf    z  h
theorem ff_X12_formula_50 {a k : Nat} (hf : Nf_X12_formula  a k) : ∀ (n : Nat) (v2 : Int32) (z : St)  (Rz : St), fn_X12_formula_50   n v2 z = some Rz → SA z Rz a k := by
  intro n
  induction n with
  | zero => intro v2 z  Rz h; cases h
  | succ n ih =>
    intro v2 z  Rz h
    rw [fn_X12_formula_50] at h
    rcases Decidable.em (v2 = 0) with c1 | c1
    · rw [if_pos c1] at h
      exact ff_X12_formula_177  hf    z  h
    · rw [if_neg c1] at h
      rcases Decidable.em ((z.1 172 2) = 0) with c2 | c2
      · rw [if_pos c2] at h
        obtain ⟨r4, z5, h3, h⟩ := bd_s h
        refine SA.tr (ff_X12_sign   trivial h3) ?_
        rcases Decidable.em ((z5.1 172 6) = 41) with c6 | c6
        · rw [if_pos c6] at h
          obtain ⟨r8, z9, h7, h⟩ := bd_s h
          refine SA.tr (ff_X12_hasBracket   trivial h7) ?_
          rcases Decidable.em (r8 = 0) with c10 | c10
          · rw [if_pos c10] at h
            exact ff_X12_formula_114  hf  ih v2 r4 z9  h
          · rw [if_neg c10] at h
            obtain ⟨z12, h11, h⟩ := bv_s h
            refine SA.tr (ff_X12_close   ⟨hf.1, hf.2.1, hf.2.2.1, hf.2.2.2.1, hf.2.2.2.2.1⟩ h11) ?_
            obtain ⟨z13, e_z13, h⟩ := nm_s h
            refine SA.tr (sa_I e_z13 hf.1) ?_
            obtain ⟨z14, e_z14, h⟩ := nm_s h
            refine SA.tr (sa_I e_z14 hf.2.2.2.2.1) ?_
            obtain ⟨z16, h15, h⟩ := bv_s h
            refine SA.tr (ff_X12_token   ⟨hf.2.2.2.2.2.2.1, hf.2.2.2.2.2.2.2.1, hf.2.2.2.2.2.2.2.2.1, hf.2.2.2.2.2.2.2.2.2.1, hf.2.2.2.2.2.2.2.2.2.2.1⟩ h15) ?_
            exact ff_X12_formula_174  hf  ih v2 z16  h
        · rw [if_neg c6] at h
          exact ff_X12_formula_114  hf  ih v2 r4 z5  h
      · rw [if_neg c2] at h
        exact ff_X12_formula_177  hf    z  h
theorem ff_X12_formula {a k : Nat} {v1 : Int32} {z : St} {Rz : St}  (hf : Nf_X12_formula  a k) (h : fn_X12_formula  v1 z = some Rz) : SA z Rz a k := by
  unfold fn_X12_formula at h
  obtain ⟨z2, h1, h⟩ := bv_s h
  refine SA.tr (ff_X12_token   ⟨hf.2.2.2.2.2.2.1, hf.2.2.2.2.2.2.2.1, hf.2.2.2.2.2.2.2.2.1, hf.2.2.2.2.2.2.2.2.2.1, hf.2.2.2.2.2.2.2.2.2.2.1⟩ h1) ?_
  obtain ⟨z3, e_z3, h⟩ := nm_s h
  refine SA.tr (sa_I e_z3 hf.2.2.2.2.2.2.2.2.2.2.2.2.2.2.2.1) ?_
  obtain ⟨g4, h⟩ := gd_s h
  obtain ⟨z5, e_z5, h⟩ := nm_s h
  refine SA.tr (sa_Ia e_z5 hf.2.2.2.2.2.2.2.2.2.2.2.2.2.2.2.2) ?_
  obtain ⟨g6, h⟩ := gd_s h
  obtain ⟨z7, e_z7, h⟩ := nm_s h
  refine SA.tr (sa_Ia e_z7 hf.2.2.2.1) ?_
  obtain ⟨z8, e_z8, h⟩ := nm_s h
  refine SA.tr (sa_I e_z8 hf.1) ?_
  obtain ⟨z9, e_z9, h⟩ := nm_s h
  refine SA.tr (sa_I e_z9 hf.2.2.2.2.1) ?_
  obtain ⟨z10, e_z10, h⟩ := nm_s h
  refine SA.tr (sa_I e_z10 hf.2.2.2.2.2.2.2.2.2.2.2.2.1) ?_
  obtain ⟨z12, h11, h⟩ := bv_s h
  refine SA.tr (ff_X12_unit   ⟨hf.2.2.2.2.2.1, hf.1, hf.2.2.2.2.1, hf.2.2.2.2.2.2.1, hf.2.2.2.2.2.2.2.1, hf.2.2.2.2.2.2.2.2.1, hf.2.2.2.2.2.2.2.2.2.1, hf.2.2.2.2.2.2.2.2.2.2.1, hf.2.2.2.2.2.2.2.2.2.2.2.1, hf.2.2.2.2.2.2.2.2.2.2.2.2.1, hf.2.2.2.2.2.2.2.2.2.2.2.2.2.1, hf.2.2.2.2.2.2.2.2.2.2.2.2.2.2.1, hf.2.1, hf.2.2.1, hf.2.2.2.1⟩ h11) ?_
  exact ff_X12_formula_50  hf   fu 1 z12  _ h
theorem ff_X12_truth {a k : Nat} {v0 : Int32} {z : St} {Rz : Int32 × St}  (hf : Nf_X12_truth  a k) (h : fn_X12_truth  v0 z = some Rz) : SA z Rz.2 a k := by
  unfold fn_X12_truth at h
  rcases Decidable.em (v0 = 0) with c1 | c1
  · rw [if_pos c1] at h
    cases h
    exact SA.rf
  · rw [if_neg c1] at h
    cases h
    exact SA.rf
theorem ff_X12_done_166 {a k : Nat} (hf : Nf_X12_done  a k) (tv0 : Int32) (z : St)  {Rz : Int32 × St} (h : fn_X12_done_166   tv0 z = some Rz) : SA z Rz.2 a k := by
  unfold fn_X12_done_166 at h
  obtain ⟨r2, z3, h1, h⟩ := bd_s h
  refine SA.tr (ff_X12_truth   trivial h1) ?_
  cases h
  exact SA.rf
theorem ff_X12_done_180 {a k : Nat} (hf : Nf_X12_done  a k) (tv0 : Int32) (z : St)  {Rz : Int32 × St} (h : fn_X12_done_180   tv0 z = some Rz) : SA z Rz.2 a k := by
  unfold fn_X12_done_180 at h
  obtain ⟨r2, z3, h1, h⟩ := bd_s h
  refine SA.tr (ff_X12_truth   trivial h1) ?_
  cases h
  exact SA.rf
theorem ff_X12_done_194 {a k : Nat} (hf : Nf_X12_done  a k) (tv0 : Int32) (z : St)  {Rz : Int32 × St} (h : fn_X12_done_194   tv0 z = some Rz) : SA z Rz.2 a k := by
  unfold fn_X12_done_194 at h
  obtain ⟨r2, z3, h1, h⟩ := bd_s h
  refine SA.tr (ff_X12_truth   trivial h1) ?_
  cases h
  exact SA.rf
theorem ff_X12_done_211 {a k : Nat} (hf : Nf_X12_done  a k) (tv0 : Int32) (z : St)  {Rz : Int32 × St} (h : fn_X12_done_211   tv0 z = some Rz) : SA z Rz.2 a k := by
  unfold fn_X12_done_211 at h
  obtain ⟨r2, z3, h1, h⟩ := bd_s h
  refine SA.tr (ff_X12_truth   trivial h1) ?_
  cases h
  exact SA.rf
theorem ff_X12_done_210 {a k : Nat} (hf : Nf_X12_done  a k)  (z : St)  {Rz : Int32 × St} (h : fn_X12_done_210    z = some Rz) : SA z Rz.2 a k := by
  unfold fn_X12_done_210 at h
  exact ff_X12_done_211  hf   0 z  h
theorem ff_X12_done_228 {a k : Nat} (hf : Nf_X12_done  a k) (tv0 : Int32) (z : St)  {Rz : Int32 × St} (h : fn_X12_done_228   tv0 z = some Rz) : SA z Rz.2 a k := by
  unfold fn_X12_done_228 at h
  obtain ⟨r2, z3, h1, h⟩ := bd_s h
  refine SA.tr (ff_X12_truth   trivial h1) ?_
  cases h
  exact SA.rf
theorem ff_X12_done_223 {a k : Nat} (hf : Nf_X12_done  a k)  (z : St)  {Rz : Int32 × St} (h : fn_X12_done_223    z = some Rz) : SA z Rz.2 a k := by
  unfold fn_X12_done_223 at h
  exact ff_X12_done_228  hf   1 z  h
theorem ff_X12_done {a k : Nat} {v0 : Int32} {v1 : Int32} {v2 : Int32} {z : St} {Rz : Int32 × St}  (hf : Nf_X12_done  a k) (h : fn_X12_done  v0 v1 v2 z = some Rz) : SA z Rz.2 a k := by
  unfold fn_X12_done at h
  by_cases c1 : v0 = 37
  · rw [if_pos c1] at h
    rcases Decidable.em (v2 = 0) with c2 | c2
    · rw [if_pos c2] at h
      cases h
      exact SA.rf
    · rw [if_neg c2] at h
      obtain ⟨g3, h⟩ := gd_s h
      cases h
      exact SA.rf
  rw [if_neg c1] at h
  by_cases c4 : v0 = 38
  · rw [if_pos c4] at h
    rcases Decidable.em (v1 = 0) with c5 | c5
    · rw [if_pos c5] at h
      exact ff_X12_done_210  hf    z  h
    · rw [if_neg c5] at h
      rcases Decidable.em (v2 = 0) with c6 | c6
      · rw [if_pos c6] at h
        exact ff_X12_done_210  hf    z  h
      · rw [if_neg c6] at h
        exact ff_X12_done_211  hf   1 z  h
  rw [if_neg c4] at h
  by_cases c7 : v0 = 39
  · rw [if_pos c7] at h
    rcases Decidable.em (v1 = 0) with c8 | c8
    · rw [if_pos c8] at h
      rcases Decidable.em (v2 = 0) with c9 | c9
      · rw [if_pos c9] at h
        exact ff_X12_done_228  hf   0 z  h
      · rw [if_neg c9] at h
        exact ff_X12_done_223  hf    z  h
    · rw [if_neg c8] at h
      exact ff_X12_done_223  hf    z  h
  rw [if_neg c7] at h
  by_cases c10 : v0 = 40
  · rw [if_pos c10] at h
    rcases Decidable.em (v1 = 0) with c11 | c11
    · rw [if_pos c11] at h
      rcases Decidable.em (v2 = 0) with c12 | c12
      · rw [if_pos c12] at h
        exact ff_X12_done_228  hf   0 z  h
      · rw [if_neg c12] at h
        exact ff_X12_done_223  hf    z  h
    · rw [if_neg c11] at h
      exact ff_X12_done_223  hf    z  h
  rw [if_neg c10] at h
  by_cases c13 : v0 = 41
  · rw [if_pos c13] at h
    rcases Decidable.em (v1 = 0) with c14 | c14
    · rw [if_pos c14] at h
      rcases Decidable.em (v2 = 0) with c15 | c15
      · rw [if_pos c15] at h
        exact ff_X12_done_228  hf   0 z  h
      · rw [if_neg c15] at h
        exact ff_X12_done_223  hf    z  h
    · rw [if_neg c14] at h
      exact ff_X12_done_223  hf    z  h
  rw [if_neg c13] at h
  by_cases c16 : v0 = 42
  · rw [if_pos c16] at h
    cases h
    exact SA.rf
  rw [if_neg c16] at h
  by_cases c17 : v0 = 43
  · rw [if_pos c17] at h
    cases h
    exact SA.rf
  rw [if_neg c17] at h
  by_cases c18 : v0 = 44
  · rw [if_pos c18] at h
    rcases Decidable.em (v1 = 0) with c19 | c19
    · rw [if_pos c19] at h
      rcases Decidable.em (v2 = 0) with c20 | c20
      · rw [if_pos c20] at h
        exact ff_X12_done_228  hf   0 z  h
      · rw [if_neg c20] at h
        exact ff_X12_done_223  hf    z  h
    · rw [if_neg c19] at h
      exact ff_X12_done_223  hf    z  h
  rw [if_neg c18] at h
  by_cases c21 : v0 = 45
  · rw [if_pos c21] at h
    cases h
    exact SA.rf
  rw [if_neg c21] at h
  by_cases c22 : v0 = 46
  · rw [if_pos c22] at h
    rcases Decidable.em (v1 = 0) with c23 | c23
    · rw [if_pos c23] at h
      rcases Decidable.em (v2 = 0) with c24 | c24
      · rw [if_pos c24] at h
        exact ff_X12_done_228  hf   0 z  h
      · rw [if_neg c24] at h
        exact ff_X12_done_223  hf    z  h
    · rw [if_neg c23] at h
      exact ff_X12_done_223  hf    z  h
  rw [if_neg c22] at h
  by_cases c25 : v0 = 47
  · rw [if_pos c25] at h
    rcases Decidable.em (v2 = 0) with c26 | c26
    · rw [if_pos c26] at h
      cases h
      exact SA.rf
    · rw [if_neg c26] at h
      obtain ⟨g27, h⟩ := gd_s h
      cases h
      exact SA.rf
  rw [if_neg c25] at h
  by_cases c28 : v0 = 48
  · rw [if_pos c28] at h
    rcases Decidable.em (v1 = 0) with c29 | c29
    · rw [if_pos c29] at h
      rcases Decidable.em (v2 = 0) with c30 | c30
      · rw [if_pos c30] at h
        exact ff_X12_done_228  hf   0 z  h
      · rw [if_neg c30] at h
        exact ff_X12_done_223  hf    z  h
    · rw [if_neg c29] at h
      exact ff_X12_done_223  hf    z  h
  rw [if_neg c28] at h
  by_cases c31 : v0 = 49
  · rw [if_pos c31] at h
    rcases Decidable.em (v1 = 0) with c32 | c32
    · rw [if_pos c32] at h
      rcases Decidable.em (v2 = 0) with c33 | c33
      · rw [if_pos c33] at h
        exact ff_X12_done_228  hf   0 z  h
      · rw [if_neg c33] at h
        exact ff_X12_done_223  hf    z  h
    · rw [if_neg c32] at h
      exact ff_X12_done_223  hf    z  h
  rw [if_neg c31] at h
  by_cases c34 : v0 = 50
  · rw [if_pos c34] at h
    rcases Decidable.em (v1 = 0) with c35 | c35
    · rw [if_pos c35] at h
      rcases Decidable.em (v2 = 0) with c36 | c36
      · rw [if_pos c36] at h
        exact ff_X12_done_228  hf   0 z  h
      · rw [if_neg c36] at h
        exact ff_X12_done_223  hf    z  h
    · rw [if_neg c35] at h
      exact ff_X12_done_223  hf    z  h
  rw [if_neg c34] at h
  by_cases c37 : v0 = 51
  · rw [if_pos c37] at h
    rcases Decidable.em (v1 = 0) with c38 | c38
    · rw [if_pos c38] at h
      rcases Decidable.em (v2 = 0) with c39 | c39
      · rw [if_pos c39] at h
        exact ff_X12_done_228  hf   0 z  h
      · rw [if_neg c39] at h
        exact ff_X12_done_223  hf    z  h
    · rw [if_neg c38] at h
      exact ff_X12_done_223  hf    z  h
  rw [if_neg c37] at h
  by_cases c40 : v0 = 52
  · rw [if_pos c40] at h
    rcases Decidable.em (v1 = 0) with c41 | c41
    · rw [if_pos c41] at h
      rcases Decidable.em (v2 = 0) with c42 | c42
      · rw [if_pos c42] at h
        exact ff_X12_done_228  hf   0 z  h
      · rw [if_neg c42] at h
        exact ff_X12_done_223  hf    z  h
    · rw [if_neg c41] at h
      exact ff_X12_done_223  hf    z  h
  rw [if_neg c40] at h
  by_cases c43 : v0 = 53
  · rw [if_pos c43] at h
    rcases Decidable.em (v1 = 0) with c44 | c44
    · rw [if_pos c44] at h
      rcases Decidable.em (v2 = 0) with c45 | c45
      · rw [if_pos c45] at h
        exact ff_X12_done_228  hf   0 z  h
      · rw [if_neg c45] at h
        exact ff_X12_done_223  hf    z  h
    · rw [if_neg c44] at h
      exact ff_X12_done_223  hf    z  h
  rw [if_neg c43] at h
  by_cases c46 : v0 = 54
  · rw [if_pos c46] at h
    rcases Decidable.em (v1 = 0) with c47 | c47
    · rw [if_pos c47] at h
      rcases Decidable.em (v2 = 0) with c48 | c48
      · rw [if_pos c48] at h
        exact ff_X12_done_228  hf   0 z  h
      · rw [if_neg c48] at h
        exact ff_X12_done_223  hf    z  h
    · rw [if_neg c47] at h
      exact ff_X12_done_223  hf    z  h
  rw [if_neg c46] at h
  by_cases c49 : v0 = 55
  · rw [if_pos c49] at h
    rcases Decidable.em (v1 = 0) with c50 | c50
    · rw [if_pos c50] at h
      rcases Decidable.em (v2 = 0) with c51 | c51
      · rw [if_pos c51] at h
        exact ff_X12_done_228  hf   0 z  h
      · rw [if_neg c51] at h
        exact ff_X12_done_223  hf    z  h
    · rw [if_neg c50] at h
      exact ff_X12_done_223  hf    z  h
  rw [if_neg c49] at h
  by_cases c52 : v0 = 56
  · rw [if_pos c52] at h
    rcases Decidable.em (v1 = 0) with c53 | c53
    · rw [if_pos c53] at h
      rcases Decidable.em (v2 = 0) with c54 | c54
      · rw [if_pos c54] at h
        exact ff_X12_done_228  hf   0 z  h
      · rw [if_neg c54] at h
        exact ff_X12_done_223  hf    z  h
    · rw [if_neg c53] at h
      exact ff_X12_done_223  hf    z  h
  rw [if_neg c52] at h
  by_cases c55 : v0 = 57
  · rw [if_pos c55] at h
    rcases Decidable.em (v1 = 0) with c56 | c56
    · rw [if_pos c56] at h
      rcases Decidable.em (v2 = 0) with c57 | c57
      · rw [if_pos c57] at h
        exact ff_X12_done_228  hf   0 z  h
      · rw [if_neg c57] at h
        exact ff_X12_done_223  hf    z  h
    · rw [if_neg c56] at h
      exact ff_X12_done_223  hf    z  h
  rw [if_neg c55] at h
  by_cases c58 : v0 = 58
  · rw [if_pos c58] at h
    rcases Decidable.em (v1 = 0) with c59 | c59
    · rw [if_pos c59] at h
      rcases Decidable.em (v2 = 0) with c60 | c60
      · rw [if_pos c60] at h
        exact ff_X12_done_228  hf   0 z  h
      · rw [if_neg c60] at h
        exact ff_X12_done_223  hf    z  h
    · rw [if_neg c59] at h
      exact ff_X12_done_223  hf    z  h
  rw [if_neg c58] at h
  by_cases c61 : v0 = 59
  · rw [if_pos c61] at h
    rcases Decidable.em (v1 = 0) with c62 | c62
    · rw [if_pos c62] at h
      rcases Decidable.em (v2 = 0) with c63 | c63
      · rw [if_pos c63] at h
        exact ff_X12_done_228  hf   0 z  h
      · rw [if_neg c63] at h
        exact ff_X12_done_223  hf    z  h
    · rw [if_neg c62] at h
      exact ff_X12_done_223  hf    z  h
  rw [if_neg c61] at h
  by_cases c64 : v0 = 60
  · rw [if_pos c64] at h
    rcases Decidable.em (v2 ≤ v1) with c65 | c65
    · rw [if_pos c65] at h
      exact ff_X12_done_166  hf   0 z  h
    · rw [if_neg c65] at h
      exact ff_X12_done_166  hf   1 z  h
  rw [if_neg c64] at h
  by_cases c66 : v0 = 61
  · rw [if_pos c66] at h
    rcases Decidable.em (v1 = v2) with c67 | c67
    · rw [if_pos c67] at h
      exact ff_X12_done_194  hf   1 z  h
    · rw [if_neg c67] at h
      exact ff_X12_done_194  hf   0 z  h
  rw [if_neg c66] at h
  by_cases c68 : v0 = 62
  · rw [if_pos c68] at h
    rcases Decidable.em (v1 ≤ v2) with c69 | c69
    · rw [if_pos c69] at h
      exact ff_X12_done_180  hf   0 z  h
    · rw [if_neg c69] at h
      exact ff_X12_done_180  hf   1 z  h
  rw [if_neg c68] at h
  rcases Decidable.em (v1 = 0) with c70 | c70
  · rw [if_pos c70] at h
    rcases Decidable.em (v2 = 0) with c71 | c71
    · rw [if_pos c71] at h
      exact ff_X12_done_228  hf   0 z  h
    · rw [if_neg c71] at h
      exact ff_X12_done_223  hf    z  h
  · rw [if_neg c70] at h
    exact ff_X12_done_223  hf    z  h
theorem ff_X12_worked_174 {a k : Nat} (hf : Nf_X12_worked  a k) {k16 : Int32 → Int32 → Int32 → St → Option (Int32 × St)} (hk_16 : ∀ (v1 : Int32) (v3 : Int32) (v4 : Int32) (z : St)  (Rz : Int32 × St), k16 v1 v3 v4 z = some Rz → SA z Rz.2 a k) (v1 : Int32) (v3 : Int32) (v4 : Int32) (z : St)  {Rz : Int32 × St} (h : fn_X12_worked_174  k16 v1 v3 v4 z = some Rz) : SA z Rz.2 a k := by
  unfold fn_X12_worked_174 at h
  exact hk_16 v1 v3 (v4 + 1) z  _ h
theorem ff_X12_worked_91 {a k : Nat} (hf : Nf_X12_worked  a k) {k16 : Int32 → Int32 → Int32 → St → Option (Int32 × St)} (hk_16 : ∀ (v1 : Int32) (v3 : Int32) (v4 : Int32) (z : St)  (Rz : Int32 × St), k16 v1 v3 v4 z = some Rz → SA z Rz.2 a k) (v1 : Int32) (v3 : Int32) (v4 : Int32) (tv1 : Int32) (tv2 : Int32) (z : St)  {Rz : Int32 × St} (h : fn_X12_worked_91  k16 v1 v3 v4 tv1 tv2 z = some Rz) : SA z Rz.2 a k := by
  unfold fn_X12_worked_91 at h
  obtain ⟨g1, h⟩ := gd_s h
  obtain ⟨z2, e_z2, h⟩ := nm_s h
  refine SA.tr (sa_Ia e_z2 hf) ?_
  exact ff_X12_worked_174  hf  hk_16 v1 (v3 + 1) v4 z2  h
theorem ff_X12_worked_54 {a k : Nat} (hf : Nf_X12_worked  a k) {k16 : Int32 → Int32 → Int32 → St → Option (Int32 × St)} (hk_16 : ∀ (v1 : Int32) (v3 : Int32) (v4 : Int32) (z : St)  (Rz : Int32 × St), k16 v1 v3 v4 z = some Rz → SA z Rz.2 a k) (v1 : Int32) (v3 : Int32) (v4 : Int32) (z : St)  {Rz : Int32 × St} (h : fn_X12_worked_54  k16 v1 v3 v4 z = some Rz) : SA z Rz.2 a k := by
  unfold fn_X12_worked_54 at h
  obtain ⟨g1, h⟩ := gd_s h
  rcases Decidable.em ((z.1 178 (Int32.toNatClampNeg v4)) = 0) with c2 | c2
  · rw [if_pos c2] at h
    obtain ⟨g5, h⟩ := gd_s h
    exact ff_X12_worked_91  hf  hk_16 v1 v3 v4 v3 (z.1 179 (Int32.toNatClampNeg v4)) z  h
  · rw [if_neg c2] at h
    obtain ⟨g3, h⟩ := gd_s h
    obtain ⟨g4, h⟩ := gd_s h
    exact ff_X12_worked_91  hf  hk_16 v1 v3 v4 v3 (z.1 184 (Int32.toNatClampNeg (z.1 179 (Int32.toNatClampNeg v4)))) z  h
theorem ff_X12_worked_132 {a k : Nat} (hf : Nf_X12_worked  a k) {k16 : Int32 → Int32 → Int32 → St → Option (Int32 × St)} (hk_16 : ∀ (v1 : Int32) (v3 : Int32) (v4 : Int32) (z : St)  (Rz : Int32 × St), k16 v1 v3 v4 z = some Rz → SA z Rz.2 a k) (v1 : Int32) (v3 : Int32) (v4 : Int32) (tv1 : Int32) (tv2 : Int32) (z : St)  {Rz : Int32 × St} (h : fn_X12_worked_132  k16 v1 v3 v4 tv1 tv2 z = some Rz) : SA z Rz.2 a k := by
  unfold fn_X12_worked_132 at h
  obtain ⟨r2, z3, h1, h⟩ := bd_s h
  refine SA.tr (ff_X12_truth   trivial h1) ?_
  obtain ⟨g4, h⟩ := gd_s h
  obtain ⟨z5, e_z5, h⟩ := nm_s h
  refine SA.tr (sa_Ia e_z5 hf) ?_
  exact ff_X12_worked_174  hf  hk_16 v1 v3 v4 z5  h
theorem ff_X12_worked_16 {a k : Nat} (hf : Nf_X12_worked  a k) : ∀ (n : Nat) (v1 : Int32) (v3 : Int32) (v4 : Int32) (z : St)  (Rz : Int32 × St), fn_X12_worked_16   n v1 v3 v4 z = some Rz → SA z Rz.2 a k := by
  intro n
  induction n with
  | zero => intro v1 v3 v4 z  Rz h; cases h
  | succ n ih =>
    intro v1 v3 v4 z  Rz h
    rw [fn_X12_worked_16] at h
    obtain ⟨g1, h⟩ := gd_s h
    rcases Decidable.em (((320 * v1) + (z.1 180 (Int32.toNatClampNeg v1))) ≤ v4) with c2 | c2
    · rw [if_pos c2] at h
      cases h
      exact SA.rf
    · rw [if_neg c2] at h
      obtain ⟨g3, h⟩ := gd_s h
      rcases Decidable.em ((z.1 178 (Int32.toNatClampNeg v4)) = 0) with c4 | c4
      · rw [if_pos c4] at h
        exact ff_X12_worked_54  hf  ih v1 v3 v4 z  h
      · rw [if_neg c4] at h
        obtain ⟨g5, h⟩ := gd_s h
        rcases Decidable.em ((z.1 178 (Int32.toNatClampNeg v4)) = 1) with c6 | c6
        · rw [if_pos c6] at h
          exact ff_X12_worked_54  hf  ih v1 v3 v4 z  h
        · rw [if_neg c6] at h
          obtain ⟨g7, h⟩ := gd_s h
          rcases Decidable.em ((z.1 178 (Int32.toNatClampNeg v4)) = 2) with c8 | c8
          · rw [if_pos c8] at h
            obtain ⟨g17, h⟩ := gd_s h
            rcases Decidable.em ((z.1 182 (Int32.toNatClampNeg (v3 - 1))) = 0) with c18 | c18
            · rw [if_pos c18] at h
              exact ff_X12_worked_132  hf  ih v1 v3 v4 (v3 - 1) 1 z  h
            · rw [if_neg c18] at h
              exact ff_X12_worked_132  hf  ih v1 v3 v4 (v3 - 1) 0 z  h
          · rw [if_neg c8] at h
            obtain ⟨g9, h⟩ := gd_s h
            obtain ⟨g10, h⟩ := gd_s h
            obtain ⟨g11, h⟩ := gd_s h
            obtain ⟨r13, z14, h12, h⟩ := bd_s h
            refine SA.tr (ff_X12_done   trivial h12) ?_
            obtain ⟨g15, h⟩ := gd_s h
            obtain ⟨z16, e_z16, h⟩ := nm_s h
            refine SA.tr (sa_Ia e_z16 hf) ?_
            exact ff_X12_worked_174  hf  ih v1 (v3 + (-1)) v4 z16  h
theorem ff_X12_worked {a k : Nat} {v1 : Int32} {v2 : Int32} {z : St} {Rz : Int32 × St}  (hf : Nf_X12_worked  a k) (h : fn_X12_worked  v1 v2 z = some Rz) : SA z Rz.2 a k := by
  unfold fn_X12_worked at h
  obtain ⟨z1, e_z1, h⟩ := nm_s h
  refine SA.tr (sa_Ia e_z1 hf) ?_
  obtain ⟨v4_2, e_v4_2, h⟩ := nm_s h
  exact ff_X12_worked_16  hf   fu v1 0 v4_2 z1  _ h
theorem ff_X12_readTier {a k : Nat}  {z : St} {Rz : St}  (hf : Nf_X12_readTier  a k) (h : fn_X12_readTier   z = some Rz) : SA z Rz a k := by
  unfold fn_X12_readTier at h
  obtain ⟨z2, h1, h⟩ := bv_s h
  refine SA.tr (ff_X12_newName   ⟨hf.1, hf.2.1, hf.2.2.1, hf.2.2.2.1, hf.2.2.2.2.1, hf.2.2.2.2.2.1, hf.2.2.2.2.2.2.1, hf.2.2.2.2.2.2.2.1⟩ h1) ?_
  obtain ⟨v1_3, e_v1_3, h⟩ := nm_s h
  obtain ⟨r5, z6, h4, h⟩ := bd_s h
  refine SA.tr (ff_X12_toldNumber   ⟨hf.2.1, hf.2.2.1, hf.2.2.2.1, hf.2.2.2.2.1, hf.2.2.2.2.2.1, hf.2.2.2.2.2.2.1, hf.2.2.2.2.2.2.2.1⟩ h4) ?_
  obtain ⟨g7, h⟩ := gd_s h
  obtain ⟨z8, e_z8, h⟩ := nm_s h
  refine SA.tr (sa_Ia e_z8 hf.2.2.2.2.2.2.2.2.1) ?_
  obtain ⟨r10, z11, h9, h⟩ := bd_s h
  refine SA.tr (ff_X12_told   ⟨hf.2.1, hf.2.2.1, hf.2.2.2.1, hf.2.2.2.2.1, hf.2.2.2.2.2.1, hf.2.2.2.2.2.2.1, hf.2.2.2.2.2.2.2.1⟩ h9) ?_
  obtain ⟨g12, h⟩ := gd_s h
  obtain ⟨z13, e_z13, h⟩ := nm_s h
  refine SA.tr (sa_Ia e_z13 hf.2.2.2.2.2.2.2.2.2.1) ?_
  obtain ⟨r15, z16, h14, h⟩ := bd_s h
  refine SA.tr (ff_X12_told   ⟨hf.2.1, hf.2.2.1, hf.2.2.2.1, hf.2.2.2.2.1, hf.2.2.2.2.2.1, hf.2.2.2.2.2.2.1, hf.2.2.2.2.2.2.2.1⟩ h14) ?_
  obtain ⟨g17, h⟩ := gd_s h
  obtain ⟨z18, e_z18, h⟩ := nm_s h
  refine SA.tr (sa_Ia e_z18 hf.2.2.2.2.2.2.2.2.2.2.1) ?_
  rcases Decidable.em ((z18.1 172 2) = 0) with c19 | c19
  · rw [if_pos c19] at h
    obtain ⟨z20, e_z20, h⟩ := nm_s h
    refine SA.tr (sa_I e_z20 hf.2.2.2.2.2.2.2.2.2.2.2) ?_
    cases h
    exact SA.rf
  · rw [if_neg c19] at h
    cases h
    exact SA.rf
theorem ff_X12_readGuest {a k : Nat}  {z : St} {Rz : St}  (hf : Nf_X12_readGuest  a k) (h : fn_X12_readGuest   z = some Rz) : SA z Rz a k := by
  unfold fn_X12_readGuest at h
  obtain ⟨z2, h1, h⟩ := bv_s h
  refine SA.tr (ff_X12_newName   ⟨hf.1, hf.2.1, hf.2.2.1, hf.2.2.2.1, hf.2.2.2.2.1, hf.2.2.2.2.2.1, hf.2.2.2.2.2.2.1, hf.2.2.2.2.2.2.2.1⟩ h1) ?_
  obtain ⟨v1_3, e_v1_3, h⟩ := nm_s h
  obtain ⟨r5, z6, h4, h⟩ := bd_s h
  refine SA.tr (ff_X12_told   ⟨hf.2.1, hf.2.2.1, hf.2.2.2.1, hf.2.2.2.2.1, hf.2.2.2.2.2.1, hf.2.2.2.2.2.2.1, hf.2.2.2.2.2.2.2.1⟩ h4) ?_
  obtain ⟨g7, h⟩ := gd_s h
  obtain ⟨z8, e_z8, h⟩ := nm_s h
  refine SA.tr (sa_Ia e_z8 hf.2.2.2.2.2.2.2.2.1) ?_
  obtain ⟨r10, z11, h9, h⟩ := bd_s h
  refine SA.tr (ff_X12_option   ⟨hf.2.1, hf.2.2.1, hf.2.2.2.1, hf.2.2.2.2.1, hf.2.2.2.2.2.1, hf.2.2.2.2.2.2.1, hf.2.2.2.2.2.2.2.1⟩ h9) ?_
  obtain ⟨g12, h⟩ := gd_s h
  obtain ⟨z13, e_z13, h⟩ := nm_s h
  refine SA.tr (sa_Ia e_z13 hf.2.2.2.2.2.2.2.2.2.1) ?_
  obtain ⟨r15, z16, h14, h⟩ := bd_s h
  refine SA.tr (ff_X12_option   ⟨hf.2.1, hf.2.2.1, hf.2.2.2.1, hf.2.2.2.2.1, hf.2.2.2.2.2.1, hf.2.2.2.2.2.2.1, hf.2.2.2.2.2.2.2.1⟩ h14) ?_
  obtain ⟨g17, h⟩ := gd_s h
  obtain ⟨z18, e_z18, h⟩ := nm_s h
  refine SA.tr (sa_Ia e_z18 hf.2.2.2.2.2.2.2.2.2.2.1) ?_
  rcases Decidable.em ((z18.1 172 2) = 0) with c19 | c19
  · rw [if_pos c19] at h
    obtain ⟨z20, e_z20, h⟩ := nm_s h
    refine SA.tr (sa_I e_z20 hf.2.2.2.2.2.2.2.2.2.2.2) ?_
    cases h
    exact SA.rf
  · rw [if_neg c19] at h
    cases h
    exact SA.rf
theorem ff_X12_readLine_210 {a k : Nat} (hf : Nf_X12_readLine  a k)  (z : St)  {Rz : St} (h : fn_X12_readLine_210    z = some Rz) : SA z Rz a k := by
  unfold fn_X12_readLine_210 at h
  rcases Decidable.em ((z.1 172 2) = 0) with c1 | c1
  · rw [if_pos c1] at h
    obtain ⟨z3, h2, h⟩ := bv_s h
    refine SA.tr (ff_X12_token   ⟨hf.1, hf.2.1, hf.2.2.1, hf.2.2.2.1, hf.2.2.2.2.1⟩ h2) ?_
    cases h
    exact SA.rf
  · rw [if_neg c1] at h
    cases h
    exact SA.rf
theorem ff_X12_readLine_189 {a k : Nat} (hf : Nf_X12_readLine  a k)  (z : St)  {Rz : St} (h : fn_X12_readLine_189    z = some Rz) : SA z Rz a k := by
  unfold fn_X12_readLine_189 at h
  rcases Decidable.em ((z.1 172 2) = 0) with c1 | c1
  · rw [if_pos c1] at h
    rcases Decidable.em ((z.1 172 6) = 59) with c2 | c2
    · rw [if_pos c2] at h
      exact ff_X12_readLine_210  hf    z  h
    · rw [if_neg c2] at h
      obtain ⟨z4, h3, h⟩ := bv_s h
      refine SA.tr (ff_X12_wrong   ⟨hf.2.2.2.2.2.1, hf.2.2.2.2.2.2.1⟩ h3) ?_
      exact ff_X12_readLine_210  hf    z4  h
  · rw [if_neg c1] at h
    exact ff_X12_readLine_210  hf    z  h
theorem ff_X12_readLine_184 {a k : Nat} (hf : Nf_X12_readLine  a k)  (z : St)  {Rz : St} (h : fn_X12_readLine_184    z = some Rz) : SA z Rz a k := by
  unfold fn_X12_readLine_184 at h
  obtain ⟨z2, h1, h⟩ := bv_s h
  refine SA.tr (ff_X12_wrong   ⟨hf.2.2.2.2.2.1, hf.2.2.2.2.2.2.1⟩ h1) ?_
  exact ff_X12_readLine_189  hf    z2  h
theorem ff_X12_readLine_144 {a k : Nat} (hf : Nf_X12_readLine  a k)  (z : St)  {Rz : St} (h : fn_X12_readLine_144    z = some Rz) : SA z Rz a k := by
  unfold fn_X12_readLine_144 at h
  obtain ⟨r2, z3, h1, h⟩ := bd_s h
  refine SA.tr (ff_X12_isWord   trivial h1) ?_
  rcases Decidable.em (r2 = 0) with c4 | c4
  · rw [if_pos c4] at h
    exact ff_X12_readLine_184  hf    z3  h
  · rw [if_neg c4] at h
    rcases Decidable.em ((z3.1 172 47) = 0) with c5 | c5
    · rw [if_pos c5] at h
      obtain ⟨z6, e_z6, h⟩ := nm_s h
      refine SA.tr (sa_I e_z6 hf.2.2.2.2.2.2.2.1) ?_
      obtain ⟨r8, z9, h7, h⟩ := bd_s h
      refine SA.tr (ff_X12_told   ⟨hf.1, hf.2.1, hf.2.2.1, hf.2.2.2.1, hf.2.2.2.2.1, hf.2.2.2.2.2.1, hf.2.2.2.2.2.2.1⟩ h7) ?_
      obtain ⟨z10, e_z10, h⟩ := nm_s h
      refine SA.tr (sa_I e_z10 hf.2.2.2.2.2.2.2.2.1) ?_
      exact ff_X12_readLine_189  hf    z10  h
    · rw [if_neg c5] at h
      exact ff_X12_readLine_184  hf    z3  h
theorem ff_X12_readLine_105 {a k : Nat} (hf : Nf_X12_readLine  a k)  (z : St)  {Rz : St} (h : fn_X12_readLine_105    z = some Rz) : SA z Rz a k := by
  unfold fn_X12_readLine_105 at h
  obtain ⟨r2, z3, h1, h⟩ := bd_s h
  refine SA.tr (ff_X12_isWord   trivial h1) ?_
  rcases Decidable.em (r2 = 0) with c4 | c4
  · rw [if_pos c4] at h
    exact ff_X12_readLine_144  hf    z3  h
  · rw [if_neg c4] at h
    rcases Decidable.em ((z3.1 172 46) = 0) with c5 | c5
    · rw [if_pos c5] at h
      obtain ⟨z6, e_z6, h⟩ := nm_s h
      refine SA.tr (sa_I e_z6 hf.2.2.2.2.2.2.2.2.2.1) ?_
      obtain ⟨r8, z9, h7, h⟩ := bd_s h
      refine SA.tr (ff_X12_told   ⟨hf.1, hf.2.1, hf.2.2.1, hf.2.2.2.1, hf.2.2.2.2.1, hf.2.2.2.2.2.1, hf.2.2.2.2.2.2.1⟩ h7) ?_
      obtain ⟨z10, e_z10, h⟩ := nm_s h
      refine SA.tr (sa_I e_z10 hf.2.2.2.2.2.2.2.2.2.2.1) ?_
      exact ff_X12_readLine_189  hf    z10  h
    · rw [if_neg c5] at h
      exact ff_X12_readLine_144  hf    z3  h
theorem ff_X12_readLine_78 {a k : Nat} (hf : Nf_X12_readLine  a k)  (z : St)  {Rz : St} (h : fn_X12_readLine_78    z = some Rz) : SA z Rz a k := by
  unfold fn_X12_readLine_78 at h
  obtain ⟨r2, z3, h1, h⟩ := bd_s h
  refine SA.tr (ff_X12_isWord   trivial h1) ?_
  rcases Decidable.em (r2 = 0) with c4 | c4
  · rw [if_pos c4] at h
    exact ff_X12_readLine_105  hf    z3  h
  · rw [if_neg c4] at h
    rcases Decidable.em ((z3.1 183 (Int32.toNatClampNeg 1)) = 0) with c5 | c5
    · rw [if_pos c5] at h
      obtain ⟨z7, h6, h⟩ := bv_s h
      refine SA.tr (ff_X12_formula   ⟨hf.2.2.2.2.2.2.2.2.2.2.2.1, hf.2.2.2.2.2.2.2.2.2.2.2.2.1, hf.2.2.2.2.2.2.2.2.2.2.2.2.2.1, hf.2.2.2.2.2.2.2.2.2.2.2.2.2.2.1, hf.2.2.2.2.2.2.2.2.2.2.2.2.2.2.2.1, hf.2.2.2.2.2.2.2.2.2.2.2.2.2.2.2.2.1, hf.1, hf.2.1, hf.2.2.1, hf.2.2.2.1, hf.2.2.2.2.1, hf.2.2.2.2.2.2.2.2.2.2.2.2.2.2.2.2.2.1, hf.2.2.2.2.2.2.2.2.2.2.2.2.2.2.2.2.2.2.1, hf.2.2.2.2.2.1, hf.2.2.2.2.2.2.1, hf.2.2.2.2.2.2.2.2.2.2.2.2.2.2.2.2.2.2.2.1, hf.2.2.2.2.2.2.2.2.2.2.2.2.2.2.2.2.2.2.2.2.1⟩ h6) ?_
      exact ff_X12_readLine_189  hf    z7  h
    · rw [if_neg c5] at h
      exact ff_X12_readLine_105  hf    z3  h
theorem ff_X12_readLine_51 {a k : Nat} (hf : Nf_X12_readLine  a k)  (z : St)  {Rz : St} (h : fn_X12_readLine_51    z = some Rz) : SA z Rz a k := by
  unfold fn_X12_readLine_51 at h
  obtain ⟨r2, z3, h1, h⟩ := bd_s h
  refine SA.tr (ff_X12_isWord   trivial h1) ?_
  rcases Decidable.em (r2 = 0) with c4 | c4
  · rw [if_pos c4] at h
    exact ff_X12_readLine_78  hf    z3  h
  · rw [if_neg c4] at h
    rcases Decidable.em ((z3.1 183 (Int32.toNatClampNeg 0)) = 0) with c5 | c5
    · rw [if_pos c5] at h
      obtain ⟨z7, h6, h⟩ := bv_s h
      refine SA.tr (ff_X12_formula   ⟨hf.2.2.2.2.2.2.2.2.2.2.2.1, hf.2.2.2.2.2.2.2.2.2.2.2.2.1, hf.2.2.2.2.2.2.2.2.2.2.2.2.2.1, hf.2.2.2.2.2.2.2.2.2.2.2.2.2.2.1, hf.2.2.2.2.2.2.2.2.2.2.2.2.2.2.2.1, hf.2.2.2.2.2.2.2.2.2.2.2.2.2.2.2.2.1, hf.1, hf.2.1, hf.2.2.1, hf.2.2.2.1, hf.2.2.2.2.1, hf.2.2.2.2.2.2.2.2.2.2.2.2.2.2.2.2.2.1, hf.2.2.2.2.2.2.2.2.2.2.2.2.2.2.2.2.2.2.1, hf.2.2.2.2.2.1, hf.2.2.2.2.2.2.1, hf.2.2.2.2.2.2.2.2.2.2.2.2.2.2.2.2.2.2.2.1, hf.2.2.2.2.2.2.2.2.2.2.2.2.2.2.2.2.2.2.2.2.1⟩ h6) ?_
      exact ff_X12_readLine_189  hf    z7  h
    · rw [if_neg c5] at h
      exact ff_X12_readLine_78  hf    z3  h
theorem ff_X12_readLine_25 {a k : Nat} (hf : Nf_X12_readLine  a k)  (z : St)  {Rz : St} (h : fn_X12_readLine_25    z = some Rz) : SA z Rz a k := by
  unfold fn_X12_readLine_25 at h
  obtain ⟨r2, z3, h1, h⟩ := bd_s h
  refine SA.tr (ff_X12_isWord   trivial h1) ?_
  rcases Decidable.em (r2 = 0) with c4 | c4
  · rw [if_pos c4] at h
    exact ff_X12_readLine_51  hf    z3  h
  · rw [if_neg c4] at h
    rcases Decidable.em (6 ≤ (z3.1 172 40)) with c5 | c5
    · rw [if_pos c5] at h
      exact ff_X12_readLine_51  hf    z3  h
    · rw [if_neg c5] at h
      obtain ⟨z7, h6, h⟩ := bv_s h
      refine SA.tr (ff_X12_readGuest   ⟨hf.2.2.2.2.2.2.2.2.2.2.2.2.2.2.2.2.2.2.2.2.2.1, hf.1, hf.2.1, hf.2.2.1, hf.2.2.2.1, hf.2.2.2.2.1, hf.2.2.2.2.2.1, hf.2.2.2.2.2.2.1, hf.2.2.2.2.2.2.2.2.2.2.2.2.2.2.2.2.2.2.2.2.2.2.1, hf.2.2.2.2.2.2.2.2.2.2.2.2.2.2.2.2.2.2.2.2.2.2.2.1, hf.2.2.2.2.2.2.2.2.2.2.2.2.2.2.2.2.2.2.2.2.2.2.2.2.1, hf.2.2.2.2.2.2.2.2.2.2.2.2.2.2.2.2.2.2.2.2.2.2.2.2.2.1⟩ h6) ?_
      exact ff_X12_readLine_189  hf    z7  h
theorem ff_X12_readLine {a k : Nat}  {z : St} {Rz : St}  (hf : Nf_X12_readLine  a k) (h : fn_X12_readLine   z = some Rz) : SA z Rz a k := by
  unfold fn_X12_readLine at h
  obtain ⟨r2, z3, h1, h⟩ := bd_s h
  refine SA.tr (ff_X12_isWord   trivial h1) ?_
  rcases Decidable.em (r2 = 0) with c4 | c4
  · rw [if_pos c4] at h
    exact ff_X12_readLine_25  hf    z3  h
  · rw [if_neg c4] at h
    rcases Decidable.em (3 ≤ (z3.1 172 39)) with c5 | c5
    · rw [if_pos c5] at h
      exact ff_X12_readLine_25  hf    z3  h
    · rw [if_neg c5] at h
      obtain ⟨z7, h6, h⟩ := bv_s h
      refine SA.tr (ff_X12_readTier   ⟨hf.2.2.2.2.2.2.2.2.2.2.2.2.2.2.2.2.2.2.2.2.2.1, hf.1, hf.2.1, hf.2.2.1, hf.2.2.2.1, hf.2.2.2.2.1, hf.2.2.2.2.2.1, hf.2.2.2.2.2.2.1, hf.2.2.2.2.2.2.2.2.2.2.2.2.2.2.2.2.2.2.2.2.2.2.2.2.2.2.1, hf.2.2.2.2.2.2.2.2.2.2.2.2.2.2.2.2.2.2.2.2.2.2.2.2.2.2.2.1, hf.2.2.2.2.2.2.2.2.2.2.2.2.2.2.2.2.2.2.2.2.2.2.2.2.2.2.2.2.1, hf.2.2.2.2.2.2.2.2.2.2.2.2.2.2.2.2.2.2.2.2.2.2.2.2.2.2.2.2.2⟩ h6) ?_
      exact ff_X12_readLine_189  hf    z7  h
theorem ff_X12_readAll_81 {a k : Nat} (hf : Nf_X12_readAll  a k) : ∀ (n : Nat)  (z : St)  (Rz : St), fn_X12_readAll_81   n  z = some Rz → SA z Rz a k := by
  intro n
  induction n with
  | zero => intro  z  Rz h; cases h
  | succ n ih =>
    intro  z  Rz h
    rw [fn_X12_readAll_81] at h
    rcases Decidable.em ((z.1 172 2) = 0) with c1 | c1
    · rw [if_pos c1] at h
      rcases Decidable.em ((z.1 172 6) = 0) with c2 | c2
      · rw [if_pos c2] at h
        cases h
        exact SA.rf
      · rw [if_neg c2] at h
        obtain ⟨z4, h3, h⟩ := bv_s h
        refine SA.tr (ff_X12_readLine   ⟨hf.1, hf.2.1, hf.2.2.1, hf.2.2.2.1, hf.2.2.2.2.1, hf.2.2.2.2.2.1, hf.2.2.2.2.2.2.1, hf.2.2.2.2.2.2.2.1, hf.2.2.2.2.2.2.2.2.1, hf.2.2.2.2.2.2.2.2.2.1, hf.2.2.2.2.2.2.2.2.2.2.1, hf.2.2.2.2.2.2.2.2.2.2.2.1, hf.2.2.2.2.2.2.2.2.2.2.2.2.1, hf.2.2.2.2.2.2.2.2.2.2.2.2.2.1, hf.2.2.2.2.2.2.2.2.2.2.2.2.2.2.1, hf.2.2.2.2.2.2.2.2.2.2.2.2.2.2.2.1, hf.2.2.2.2.2.2.2.2.2.2.2.2.2.2.2.2.1, hf.2.2.2.2.2.2.2.2.2.2.2.2.2.2.2.2.2.1, hf.2.2.2.2.2.2.2.2.2.2.2.2.2.2.2.2.2.2.1, hf.2.2.2.2.2.2.2.2.2.2.2.2.2.2.2.2.2.2.2.1, hf.2.2.2.2.2.2.2.2.2.2.2.2.2.2.2.2.2.2.2.2.1, hf.2.2.2.2.2.2.2.2.2.2.2.2.2.2.2.2.2.2.2.2.2.1, hf.2.2.2.2.2.2.2.2.2.2.2.2.2.2.2.2.2.2.2.2.2.2.1, hf.2.2.2.2.2.2.2.2.2.2.2.2.2.2.2.2.2.2.2.2.2.2.2.1, hf.2.2.2.2.2.2.2.2.2.2.2.2.2.2.2.2.2.2.2.2.2.2.2.2.1, hf.2.2.2.2.2.2.2.2.2.2.2.2.2.2.2.2.2.2.2.2.2.2.2.2.2.1, hf.2.2.2.2.2.2.2.2.2.2.2.2.2.2.2.2.2.2.2.2.2.2.2.2.2.2.1, hf.2.2.2.2.2.2.2.2.2.2.2.2.2.2.2.2.2.2.2.2.2.2.2.2.2.2.2.1, hf.2.2.2.2.2.2.2.2.2.2.2.2.2.2.2.2.2.2.2.2.2.2.2.2.2.2.2.2.1, hf.2.2.2.2.2.2.2.2.2.2.2.2.2.2.2.2.2.2.2.2.2.2.2.2.2.2.2.2.2.1⟩ h3) ?_
        exact ih  z4  _ h
    · rw [if_neg c1] at h
      cases h
      exact SA.rf
theorem ff_X12_readAll {a k : Nat}  {z : St} {Rz : St}  (hf : Nf_X12_readAll  a k) (h : fn_X12_readAll   z = some Rz) : SA z Rz a k := by
  unfold fn_X12_readAll at h
  obtain ⟨z1, e_z1, h⟩ := nm_s h
  refine SA.tr (sa_I e_z1 hf.2.2.2.2.2.2.2.2.2.2.2.2.2.2.2.2.2.2.2.2.2.2.2.2.2.2.2.2.2.2.1) ?_
  obtain ⟨z2, e_z2, h⟩ := nm_s h
  refine SA.tr (sa_I e_z2 hf.2.2.2.2.2.2.2.2.2.2.2.2.2.2.2.2.2.2.2.2.2.2.2.2.2.2.2.2.2.2.2) ?_
  obtain ⟨z3, e_z3, h⟩ := nm_s h
  refine SA.tr (sa_I e_z3 hf.1) ?_
  obtain ⟨z4, e_z4, h⟩ := nm_s h
  refine SA.tr (sa_I e_z4 hf.2.2.2.2.2.1) ?_
  obtain ⟨z5, e_z5, h⟩ := nm_s h
  refine SA.tr (sa_I e_z5 hf.2.2.2.2.2.2.1) ?_
  obtain ⟨z6, e_z6, h⟩ := nm_s h
  refine SA.tr (sa_I e_z6 hf.2.2.2.2.2.2.2.2.2.2.2.2.2.2.2.2.2.2.2.2.2.2.2.2.2.2.2.2.2.1) ?_
  obtain ⟨z7, e_z7, h⟩ := nm_s h
  refine SA.tr (sa_I e_z7 hf.2.2.2.2.2.2.2.2.2.2.2.2.2.2.2.2.2.2.2.2.2.2.2.2.2.1) ?_
  obtain ⟨z8, e_z8, h⟩ := nm_s h
  refine SA.tr (sa_I e_z8 hf.2.2.2.2.2.2.2.2.2.2.1) ?_
  obtain ⟨z9, e_z9, h⟩ := nm_s h
  refine SA.tr (sa_I e_z9 hf.2.2.2.2.2.2.2.2.1) ?_
  obtain ⟨z10, e_z10, h⟩ := nm_s h
  refine SA.tr (sa_I e_z10 hf.2.2.2.2.2.2.2.2.2.1) ?_
  obtain ⟨z11, e_z11, h⟩ := nm_s h
  refine SA.tr (sa_I e_z11 hf.2.2.2.2.2.2.2.1) ?_
  obtain ⟨z12, e_z12, h⟩ := nm_s h
  refine SA.tr (sa_Ia e_z12 hf.2.2.2.2.2.2.2.2.2.2.2.2.2.2.2.2.2.2.2.2.1) ?_
  obtain ⟨z13, e_z13, h⟩ := nm_s h
  refine SA.tr (sa_Ia e_z13 hf.2.2.2.2.2.2.2.2.2.2.2.2.2.2.2.2.2.2.2.2.1) ?_
  obtain ⟨z14, e_z14, h⟩ := nm_s h
  refine SA.tr (sa_I e_z14 hf.2.2.2.2.2.2.2.2.2.2.2.2.2.2.2.2.2.1) ?_
  obtain ⟨z16, h15, h⟩ := bv_s h
  refine SA.tr (ff_X12_token   ⟨hf.1, hf.2.1, hf.2.2.1, hf.2.2.2.1, hf.2.2.2.2.1⟩ h15) ?_
  exact ff_X12_readAll_81  hf   fu  z16  _ h
theorem ff_X12_cake_83 {a k : Nat} (hf : Nf_X12_cake  a k) {k47 : Int32 → St → Option (Int32 × St)} (hk_47 : ∀ (v1 : Int32) (z : St)  (Rz : Int32 × St), k47 v1 z = some Rz → SA z Rz.2 a k) : ∀ (n : Nat) (v1 : Int32) (v2 : Int32) (z : St)  (Rz : Int32 × St), fn_X12_cake_83  k47 n v1 v2 z = some Rz → SA z Rz.2 a k := by
  intro n
  induction n with
  | zero => intro v1 v2 z  Rz h; cases h
  | succ n ih =>
    intro v1 v2 z  Rz h
    rw [fn_X12_cake_83] at h
    obtain ⟨g1, h⟩ := gd_s h
    rcases Decidable.em (((320 * v1) + (z.1 180 (Int32.toNatClampNeg v1))) ≤ v2) with c2 | c2
    · rw [if_pos c2] at h
      exact hk_47 (v1 + 1) z  _ h
    · rw [if_neg c2] at h
      obtain ⟨g3, h⟩ := gd_s h
      obtain ⟨g4, h⟩ := gd_s h
      obtain ⟨z5, e_z5, h⟩ := nm_s h
      refine SA.tr (sa_Ia e_z5 hf.1) ?_
      obtain ⟨g6, h⟩ := gd_s h
      obtain ⟨g7, h⟩ := gd_s h
      obtain ⟨z8, e_z8, h⟩ := nm_s h
      refine SA.tr (sa_Ia e_z8 hf.2.1) ?_
      exact ih v1 (v2 + 1) z8  _ h
theorem ff_X12_cake_76 {a k : Nat} (hf : Nf_X12_cake  a k) {k47 : Int32 → St → Option (Int32 × St)} (hk_47 : ∀ (v1 : Int32) (z : St)  (Rz : Int32 × St), k47 v1 z = some Rz → SA z Rz.2 a k) (v1 : Int32) (tv1 : Int32) (tv2 : Int32) (z : St)  {Rz : Int32 × St} (h : fn_X12_cake_76  k47 v1 tv1 tv2 z = some Rz) : SA z Rz.2 a k := by
  unfold fn_X12_cake_76 at h
  obtain ⟨g1, h⟩ := gd_s h
  obtain ⟨z2, e_z2, h⟩ := nm_s h
  refine SA.tr (sa_Ia e_z2 hf.2.2.1) ?_
  obtain ⟨v2_3, e_v2_3, h⟩ := nm_s h
  exact ff_X12_cake_83  hf  hk_47 fu v1 v2_3 z2  _ h
theorem ff_X12_cake_364 {a k : Nat} (hf : Nf_X12_cake  a k) : ∀ (n : Nat) (v1 : Int32) (z : St)  (Rz : Int32 × St), fn_X12_cake_364   n v1 z = some Rz → SA z Rz.2 a k := by
  intro n
  induction n with
  | zero => intro v1 z  Rz h; cases h
  | succ n ih =>
    intro v1 z  Rz h
    rw [fn_X12_cake_364] at h
    rcases Decidable.em (3 ≤ v1) with c1 | c1
    · rw [if_pos c1] at h
      cases h
      exact SA.rf
    · rw [if_neg c1] at h
      obtain ⟨g2, h⟩ := gd_s h
      obtain ⟨z3, e_z3, h⟩ := nm_s h
      refine SA.tr (sa_Ia e_z3 hf.2.2.2.1) ?_
      exact ih (v1 + 1) z3  _ h
theorem ff_X12_cake_268 {a k : Nat} (hf : Nf_X12_cake  a k) : ∀ (n : Nat) (v1 : Int32) (z : St)  (Rz : Int32 × St), fn_X12_cake_268   n v1 z = some Rz → SA z Rz.2 a k := by
  intro n
  induction n with
  | zero => intro v1 z  Rz h; cases h
  | succ n ih =>
    intro v1 z  Rz h
    rw [fn_X12_cake_268] at h
    rcases Decidable.em ((z.1 172 44) ≤ v1) with c1 | c1
    · rw [if_pos c1] at h
      obtain ⟨z2, e_z2, h⟩ := nm_s h
      refine SA.tr (sa_Ia e_z2 hf.2.2.2.2.1) ?_
      obtain ⟨z3, e_z3, h⟩ := nm_s h
      refine SA.tr (sa_Ia e_z3 hf.2.2.2.2.1) ?_
      obtain ⟨z4, e_z4, h⟩ := nm_s h
      refine SA.tr (sa_I e_z4 hf.2.2.2.2.2.1) ?_
      obtain ⟨z5, e_z5, h⟩ := nm_s h
      refine SA.tr (sa_I e_z5 hf.2.2.2.2.2.2.1) ?_
      obtain ⟨z6, e_z6, h⟩ := nm_s h
      refine SA.tr (sa_I e_z6 hf.2.2.2.2.2.2.2.1) ?_
      obtain ⟨z7, e_z7, h⟩ := nm_s h
      refine SA.tr (sa_I e_z7 hf.2.2.2.2.2.2.2.2.1) ?_
      exact ff_X12_cake_364  hf   fu 0 z7  _ h
    · rw [if_neg c1] at h
      obtain ⟨g8, h⟩ := gd_s h
      obtain ⟨g9, h⟩ := gd_s h
      obtain ⟨z10, e_z10, h⟩ := nm_s h
      refine SA.tr (sa_Ia e_z10 hf.2.2.2.2.2.2.2.2.2.1) ?_
      obtain ⟨g11, h⟩ := gd_s h
      obtain ⟨g12, h⟩ := gd_s h
      obtain ⟨z13, e_z13, h⟩ := nm_s h
      refine SA.tr (sa_Ia e_z13 hf.2.2.2.2.2.2.2.2.2.2.1) ?_
      obtain ⟨g14, h⟩ := gd_s h
      obtain ⟨g15, h⟩ := gd_s h
      obtain ⟨z16, e_z16, h⟩ := nm_s h
      refine SA.tr (sa_Ia e_z16 hf.2.2.2.2.2.2.2.2.2.2.2.1) ?_
      exact ih (v1 + 1) z16  _ h
theorem ff_X12_cake_159 {a k : Nat} (hf : Nf_X12_cake  a k) : ∀ (n : Nat) (v1 : Int32) (z : St)  (Rz : Int32 × St), fn_X12_cake_159   n v1 z = some Rz → SA z Rz.2 a k := by
  intro n
  induction n with
  | zero => intro v1 z  Rz h; cases h
  | succ n ih =>
    intro v1 z  Rz h
    rw [fn_X12_cake_159] at h
    rcases Decidable.em ((z.1 172 43) ≤ v1) with c1 | c1
    · rw [if_pos c1] at h
      exact ff_X12_cake_268  hf   fu 0 z  _ h
    · rw [if_neg c1] at h
      obtain ⟨g2, h⟩ := gd_s h
      obtain ⟨g3, h⟩ := gd_s h
      obtain ⟨z4, e_z4, h⟩ := nm_s h
      refine SA.tr (sa_Ia e_z4 hf.2.2.2.2.2.2.2.2.2.2.2.2.1) ?_
      obtain ⟨g5, h⟩ := gd_s h
      obtain ⟨g6, h⟩ := gd_s h
      obtain ⟨z7, e_z7, h⟩ := nm_s h
      refine SA.tr (sa_Ia e_z7 hf.2.2.2.2.2.2.2.2.2.2.2.2.2.1) ?_
      obtain ⟨g8, h⟩ := gd_s h
      obtain ⟨g9, h⟩ := gd_s h
      obtain ⟨z10, e_z10, h⟩ := nm_s h
      refine SA.tr (sa_Ia e_z10 hf.2.2.2.2.2.2.2.2.2.2.2.2.2.2.1) ?_
      obtain ⟨g11, h⟩ := gd_s h
      obtain ⟨z12, e_z12, h⟩ := nm_s h
      refine SA.tr (sa_Ia e_z12 hf.2.2.2.2.1) ?_
      obtain ⟨g13, h⟩ := gd_s h
      obtain ⟨g14, h⟩ := gd_s h
      obtain ⟨z15, e_z15, h⟩ := nm_s h
      refine SA.tr (sa_Ia e_z15 hf.2.2.2.2.1) ?_
      obtain ⟨g16, h⟩ := gd_s h
      obtain ⟨g17, h⟩ := gd_s h
      obtain ⟨z18, e_z18, h⟩ := nm_s h
      refine SA.tr (sa_Ia e_z18 hf.2.2.2.2.1) ?_
      obtain ⟨g19, h⟩ := gd_s h
      obtain ⟨z20, e_z20, h⟩ := nm_s h
      refine SA.tr (sa_Ia e_z20 hf.2.2.2.2.1) ?_
      exact ih (v1 + 1) z20  _ h
theorem ff_X12_cake_137 {a k : Nat} (hf : Nf_X12_cake  a k) : ∀ (n : Nat) (v1 : Int32) (z : St)  (Rz : Int32 × St), fn_X12_cake_137   n v1 z = some Rz → SA z Rz.2 a k := by
  intro n
  induction n with
  | zero => intro v1 z  Rz h; cases h
  | succ n ih =>
    intro v1 z  Rz h
    rw [fn_X12_cake_137] at h
    rcases Decidable.em (171 ≤ v1) with c1 | c1
    · rw [if_pos c1] at h
      exact ff_X12_cake_159  hf   fu 0 z  _ h
    · rw [if_neg c1] at h
      obtain ⟨g2, h⟩ := gd_s h
      obtain ⟨z3, e_z3, h⟩ := nm_s h
      refine SA.tr (sa_Ia e_z3 hf.2.2.2.2.1) ?_
      exact ih (v1 + 1) z3  _ h
theorem ff_X12_cake_47 {a k : Nat} (hf : Nf_X12_cake  a k) : ∀ (n : Nat) (v1 : Int32) (z : St)  (Rz : Int32 × St), fn_X12_cake_47   n v1 z = some Rz → SA z Rz.2 a k := by
  intro n
  induction n with
  | zero => intro v1 z  Rz h; cases h
  | succ n ih =>
    intro v1 z  Rz h
    rw [fn_X12_cake_47] at h
    rcases Decidable.em (2 ≤ v1) with c1 | c1
    · rw [if_pos c1] at h
      exact ff_X12_cake_137  hf   fu 0 z  _ h
    · rw [if_neg c1] at h
      obtain ⟨g2, h⟩ := gd_s h
      rcases Decidable.em ((z.1 183 (Int32.toNatClampNeg v1)) = 0) with c3 | c3
      · rw [if_pos c3] at h
        exact ff_X12_cake_76  hf  ih v1 v1 0 z  h
      · rw [if_neg c3] at h
        obtain ⟨g4, h⟩ := gd_s h
        exact ff_X12_cake_76  hf  ih v1 v1 (z.1 177 (Int32.toNatClampNeg v1)) z  h
theorem ff_X12_cake {a k : Nat}  {z : St} {Rz : Int32 × St}  (hf : Nf_X12_cake  a k) (h : fn_X12_cake   z = some Rz) : SA z Rz.2 a k := by
  unfold fn_X12_cake at h
  obtain ⟨z2, h1, h⟩ := bv_s h
  refine SA.tr (ff_X12_readAll   ⟨hf.2.2.2.2.2.2.2.2.2.2.2.2.2.2.2.1, hf.2.2.2.2.2.2.2.2.2.2.2.2.2.2.2.2.1, hf.2.2.2.2.2.2.2.2.2.2.2.2.2.2.2.2.2.1, hf.2.2.2.2.2.2.2.2.2.2.2.2.2.2.2.2.2.2.1, hf.2.2.2.2.2.2.2.2.2.2.2.2.2.2.2.2.2.2.2.1, hf.2.2.2.2.2.2.2.2.2.2.2.2.2.2.2.2.2.2.2.2.1, hf.2.2.2.2.2.2.2.2.2.2.2.2.2.2.2.2.2.2.2.2.2.1, hf.2.2.2.2.2.2.2.2.2.2.2.2.2.2.2.2.2.2.2.2.2.2.1, hf.2.2.2.2.2.2.2.2.2.2.2.2.2.2.2.2.2.2.2.2.2.2.2.1, hf.2.2.2.2.2.2.2.2.2.2.2.2.2.2.2.2.2.2.2.2.2.2.2.2.1, hf.2.2.2.2.2.2.2.2.2.2.2.2.2.2.2.2.2.2.2.2.2.2.2.2.2.1, hf.2.2.2.2.2.2.2.2.2.2.2.2.2.2.2.2.2.2.2.2.2.2.2.2.2.2.1, hf.2.2.2.2.2.2.2.2.2.2.2.2.2.2.2.2.2.2.2.2.2.2.2.2.2.2.2.1, hf.2.2.2.2.2.2.2.2.2.2.2.2.2.2.2.2.2.2.2.2.2.2.2.2.2.2.2.2.1, hf.2.2.2.2.2.2.2.2.2.2.2.2.2.2.2.2.2.2.2.2.2.2.2.2.2.2.2.2.2.1, hf.2.2.2.2.2.2.2.2.2.2.2.2.2.2.2.2.2.2.2.2.2.2.2.2.2.2.2.2.2.2.1, hf.2.2.2.2.2.2.2.2.2.2.2.2.2.2.2.2.2.2.2.2.2.2.2.2.2.2.2.2.2.2.2.1, hf.2.2.2.2.2.2.2.2.2.2.2.2.2.2.2.2.2.2.2.2.2.2.2.2.2.2.2.2.2.2.2.2.1, hf.2.2.2.2.2.2.2.2.2.2.2.2.2.2.2.2.2.2.2.2.2.2.2.2.2.2.2.2.2.2.2.2.2.1, hf.2.2.2.2.2.2.2.2.2.2.2.2.2.2.2.2.2.2.2.2.2.2.2.2.2.2.2.2.2.2.2.2.2.2.1, hf.2.2.2.2.2.2.2.2.2.2.2.2.2.2.2.2.2.2.2.2.2.2.2.2.2.2.2.2.2.2.2.2.2.2.2.1, hf.2.2.2.2.2.2.2.2.2.2.2.2.2.2.2.2.2.2.2.2.2.2.2.2.2.2.2.2.2.2.2.2.2.2.2.2.1, hf.2.2.2.2.2.2.2.2.2.2.2.2.2.2.2.2.2.2.2.2.2.2.2.2.2.2.2.2.2.2.2.2.2.2.2.2.2.1, hf.2.2.2.2.2.2.2.2.2.2.2.2.2.2.2.2.2.2.2.2.2.2.2.2.2.2.2.2.2.2.2.2.2.2.2.2.2.2.1, hf.2.2.2.2.2.2.2.2.2.2.2.2.2.2.2.2.2.2.2.2.2.2.2.2.2.2.2.2.2.2.2.2.2.2.2.2.2.2.2.1, hf.2.2.2.2.2.2.2.2.2.2.2.2.2.2.2.2.2.2.2.2.2.2.2.2.2.2.2.2.2.2.2.2.2.2.2.2.2.2.2.2.1, hf.2.2.2.2.2.2.2.2.2.2.2.2.2.2.2.2.2.2.2.2.2.2.2.2.2.2.2.2.2.2.2.2.2.2.2.2.2.2.2.2.2.1, hf.2.2.2.2.2.2.2.2.2.2.2.2.2.2.2.2.2.2.2.2.2.2.2.2.2.2.2.2.2.2.2.2.2.2.2.2.2.2.2.2.2.2.1, hf.2.2.2.2.2.2.2.2.2.2.2.2.2.2.2.2.2.2.2.2.2.2.2.2.2.2.2.2.2.2.2.2.2.2.2.2.2.2.2.2.2.2.2.1, hf.2.2.2.2.2.2.2.2.2.2.2.2.2.2.2.2.2.2.2.2.2.2.2.2.2.2.2.2.2.2.2.2.2.2.2.2.2.2.2.2.2.2.2.2.1, hf.2.2.2.2.2.2.2.2.2.2.2.2.2.2.2.2.2.2.2.2.2.2.2.2.2.2.2.2.2.2.2.2.2.2.2.2.2.2.2.2.2.2.2.2.2.1, hf.2.2.2.2.2.2.2.2.2.2.2.2.2.2.2.2.2.2.2.2.2.2.2.2.2.2.2.2.2.2.2.2.2.2.2.2.2.2.2.2.2.2.2.2.2.2.1⟩ h1) ?_
  rcases Decidable.em ((z2.1 172 2) ≤ 0) with c3 | c3
  · rw [if_pos c3] at h
    obtain ⟨z4, e_z4, h⟩ := nm_s h
    refine SA.tr (sa_I e_z4 hf.2.2.2.2.2.2.2.2.2.2.2.2.2.2.2.2.2.2.2.2.2.2.2.2.2.2.2.2.2.2.2.2.2.2.2.2.2.2.2.2.2.2.2.2.2.2.2.1) ?_
    obtain ⟨z5, e_z5, h⟩ := nm_s h
    refine SA.tr (sa_I e_z5 hf.2.2.2.2.2.2.2.2.2.2.2.2.2.2.2.2.2.2.2.2.2.2.2.2.2.2.2.2.2.2.2.2.2.2.2.2.2.2.2.2.2.2.2.2.2.2.2.2.1) ?_
    obtain ⟨z6, e_z6, h⟩ := nm_s h
    refine SA.tr (sa_I e_z6 hf.2.2.2.2.2.2.2.2.2.2.2.2.2.2.2.2.2.2.2.2.2.2.2.2.2.2.2.2.2.2.2.2.2.2.2.2.2.2.2.2.2.2.2.2.2.2.2.2.2.1) ?_
    obtain ⟨z7, e_z7, h⟩ := nm_s h
    refine SA.tr (sa_I e_z7 hf.2.2.2.2.2.2.2.2.2.2.2.2.2.2.2.2.2.2.2.2.2.2.2.2.2.2.2.2.2.2.2.2.2.2.2.2.2.2.2.2.2.2.2.2.2.2.2.2.2.2) ?_
    exact ff_X12_cake_47  hf   fu 0 z7  _ h
  · rw [if_neg c3] at h
    cases h
    exact SA.rf
theorem ff_X12_fault {a k : Nat} {v1 : Int32} {z : St} {Rz : Int32 × St}  (hf : Nf_X12_fault  a k) (h : fn_X12_fault  v1 z = some Rz) : SA z Rz.2 a k := by
  unfold fn_X12_fault at h
  rcases Decidable.em (v1 = 0) with c1 | c1
  · rw [if_pos c1] at h
    cases h
    exact SA.rf
  · rw [if_neg c1] at h
    rcases Decidable.em (v1 = 1) with c2 | c2
    · rw [if_pos c2] at h
      cases h
      exact SA.rf
    · rw [if_neg c2] at h
      cases h
      exact SA.rf
theorem ff_X12_isIn {a k : Nat} {v0 : Int32} {v1 : Int32} {v2 : Int32} {z : St} {Rz : Int32 × St}  (hf : Nf_X12_isIn  a k) (h : fn_X12_isIn  v0 v1 v2 z = some Rz) : SA z Rz.2 a k := by
  unfold fn_X12_isIn at h
  rcases Decidable.em (v0 < v1) with c1 | c1
  · rw [if_pos c1] at h
    cases h
    exact SA.rf
  · rw [if_neg c1] at h
    rcases Decidable.em (v2 < v0) with c2 | c2
    · rw [if_pos c2] at h
      cases h
      exact SA.rf
    · rw [if_neg c2] at h
      cases h
      exact SA.rf
theorem ff_X12_isTier {a k : Nat} {v1 : Int32} {z : St} {Rz : Int32 × St}  (hf : Nf_X12_isTier  a k) (h : fn_X12_isTier  v1 z = some Rz) : SA z Rz.2 a k := by
  unfold fn_X12_isTier at h
  obtain ⟨r2, z3, h1, h⟩ := bd_s h
  refine SA.tr (ff_X12_isIn   trivial h1) ?_
  obtain ⟨g4, h⟩ := gd_s h
  cases h
  exact SA.rf
theorem ff_X12_isGuest {a k : Nat} {v1 : Int32} {z : St} {Rz : Int32 × St}  (hf : Nf_X12_isGuest  a k) (h : fn_X12_isGuest  v1 z = some Rz) : SA z Rz.2 a k := by
  unfold fn_X12_isGuest at h
  obtain ⟨r2, z3, h1, h⟩ := bd_s h
  refine SA.tr (ff_X12_isIn   trivial h1) ?_
  obtain ⟨g4, h⟩ := gd_s h
  cases h
  exact SA.rf
theorem ff_X12_isPiece {a k : Nat} {v1 : Int32} {z : St} {Rz : Int32 × St}  (hf : Nf_X12_isPiece  a k) (h : fn_X12_isPiece  v1 z = some Rz) : SA z Rz.2 a k := by
  unfold fn_X12_isPiece at h
  obtain ⟨r2, z3, h1, h⟩ := bd_s h
  refine SA.tr (ff_X12_isIn   trivial h1) ?_
  obtain ⟨g4, h⟩ := gd_s h
  cases h
  exact SA.rf
theorem ff_X12_load_2 {a k : Nat} (hf : Nf_X12_load  a k) : ∀ (n : Nat) (v1 : Int32) (z : St)  (Rz : St), fn_X12_load_2   n v1 z = some Rz → SA z Rz a k := by
  intro n
  induction n with
  | zero => intro v1 z  Rz h; cases h
  | succ n ih =>
    intro v1 z  Rz h
    rw [fn_X12_load_2] at h
    rcases Decidable.em (171 ≤ v1) with c1 | c1
    · rw [if_pos c1] at h
      cases h
      exact SA.rf
    · rw [if_neg c1] at h
      obtain ⟨g2, h⟩ := gd_s h
      obtain ⟨g3, h⟩ := gd_s h
      obtain ⟨z4, e_z4, h⟩ := nm_s h
      refine SA.tr (sa_Ia e_z4 hf) ?_
      exact ih (v1 + 1) z4  _ h
theorem ff_X12_load {a k : Nat}  {z : St} {Rz : St}  (hf : Nf_X12_load  a k) (h : fn_X12_load   z = some Rz) : SA z Rz a k := by
  unfold fn_X12_load at h
  exact ff_X12_load_2  hf   fu 0 z  _ h
theorem ff_X12_areaOf {a k : Nat} {v1 : Int32} {z : St} {Rz : Int32 × St}  (hf : Nf_X12_areaOf  a k) (h : fn_X12_areaOf  v1 z = some Rz) : SA z Rz.2 a k := by
  unfold fn_X12_areaOf at h
  obtain ⟨g1, h⟩ := gd_s h
  obtain ⟨g2, h⟩ := gd_s h
  obtain ⟨g3, h⟩ := gd_s h
  obtain ⟨g4, h⟩ := gd_s h
  cases h
  exact SA.rf
theorem ff_X12_icingOf_132 {a k : Nat} (hf : Nf_X12_icingOf  a k) (tv0 : Int32) (tv1 : Int32) (tv2 : Int32) (tv3 : Int32) (z : St)  {Rz : Int32 × St} (h : fn_X12_icingOf_132   tv0 tv1 tv2 tv3 z = some Rz) : SA z Rz.2 a k := by
  unfold fn_X12_icingOf_132 at h
  obtain ⟨r2, z3, h1, h⟩ := bd_s h
  refine SA.tr (ff_X12_truth   trivial h1) ?_
  cases h
  exact SA.rf
theorem ff_X12_icingOf_111 {a k : Nat} (hf : Nf_X12_icingOf  a k) (v2 : Int32) (v3 : Int32) (v5 : Int32) (tv0 : Int32) (tv1 : Int32) (tv2 : Int32) (z : St)  {Rz : Int32 × St} (h : fn_X12_icingOf_111   v2 v3 v5 tv0 tv1 tv2 z = some Rz) : SA z Rz.2 a k := by
  unfold fn_X12_icingOf_111 at h
  obtain ⟨r2, z3, h1, h⟩ := bd_s h
  refine SA.tr (ff_X12_truth   trivial h1) ?_
  obtain ⟨g4, h⟩ := gd_s h
  rcases Decidable.em ((v3 + v5) = (z3.1 188 (Int32.toNatClampNeg v2))) with c5 | c5
  · rw [if_pos c5] at h
    exact ff_X12_icingOf_132  hf   tv0 tv1 r2 1 z3  h
  · rw [if_neg c5] at h
    exact ff_X12_icingOf_132  hf   tv0 tv1 r2 0 z3  h
theorem ff_X12_icingOf_95 {a k : Nat} (hf : Nf_X12_icingOf  a k) (v2 : Int32) (v3 : Int32) (v5 : Int32) (v6 : Int32) (tv0 : Int32) (tv1 : Int32) (tv2 : Int32) (z : St)  {Rz : Int32 × St} (h : fn_X12_icingOf_95   v2 v3 v5 v6 tv0 tv1 tv2 z = some Rz) : SA z Rz.2 a k := by
  unfold fn_X12_icingOf_95 at h
  obtain ⟨r2, z3, h1, h⟩ := bd_s h
  refine SA.tr (ff_X12_truth   trivial h1) ?_
  rcases Decidable.em (v3 = 0) with c4 | c4
  · rw [if_pos c4] at h
    exact ff_X12_icingOf_111  hf   v2 v3 v5 (tv0 * (tv1 + r2)) v6 1 z3  h
  · rw [if_neg c4] at h
    exact ff_X12_icingOf_111  hf   v2 v3 v5 (tv0 * (tv1 + r2)) v6 0 z3  h
theorem ff_X12_icingOf_73 {a k : Nat} (hf : Nf_X12_icingOf  a k) (v2 : Int32) (v3 : Int32) (v4 : Int32) (v5 : Int32) (v6 : Int32) (tv0 : Int32) (tv1 : Int32) (z : St)  {Rz : Int32 × St} (h : fn_X12_icingOf_73   v2 v3 v4 v5 v6 tv0 tv1 z = some Rz) : SA z Rz.2 a k := by
  unfold fn_X12_icingOf_73 at h
  obtain ⟨r2, z3, h1, h⟩ := bd_s h
  refine SA.tr (ff_X12_truth   trivial h1) ?_
  obtain ⟨g4, h⟩ := gd_s h
  rcases Decidable.em ((v4 + v6) = (z3.1 189 (Int32.toNatClampNeg v2))) with c5 | c5
  · rw [if_pos c5] at h
    exact ff_X12_icingOf_95  hf   v2 v3 v5 v6 tv0 r2 1 z3  h
  · rw [if_neg c5] at h
    exact ff_X12_icingOf_95  hf   v2 v3 v5 v6 tv0 r2 0 z3  h
theorem ff_X12_icingOf {a k : Nat} {v1 : Int32} {z : St} {Rz : Int32 × St}  (hf : Nf_X12_icingOf  a k) (h : fn_X12_icingOf  v1 z = some Rz) : SA z Rz.2 a k := by
  unfold fn_X12_icingOf at h
  obtain ⟨g1, h⟩ := gd_s h
  obtain ⟨v2_2, e_v2_2, h⟩ := nm_s h
  obtain ⟨g3, h⟩ := gd_s h
  obtain ⟨v3_4, e_v3_4, h⟩ := nm_s h
  obtain ⟨g5, h⟩ := gd_s h
  obtain ⟨v4_6, e_v4_6, h⟩ := nm_s h
  obtain ⟨g7, h⟩ := gd_s h
  obtain ⟨v5_8, e_v5_8, h⟩ := nm_s h
  obtain ⟨g9, h⟩ := gd_s h
  obtain ⟨v6_10, e_v6_10, h⟩ := nm_s h
  rcases Decidable.em (v4_6 = 0) with c11 | c11
  · rw [if_pos c11] at h
    exact ff_X12_icingOf_73  hf   v2_2 v3_4 v4_6 v5_8 v6_10 v5_8 1 z  h
  · rw [if_neg c11] at h
    exact ff_X12_icingOf_73  hf   v2_2 v3_4 v4_6 v5_8 v6_10 v5_8 0 z  h
theorem ff_X12_askOf {a k : Nat} {v1 : Int32} {v2 : Int32} {v3 : Int32} {z : St} {Rz : St}  (hf : Nf_X12_askOf  a k) (h : fn_X12_askOf  v1 v2 v3 z = some Rz) : SA z Rz a k := by
  unfold fn_X12_askOf at h
  obtain ⟨r2, z3, h1, h⟩ := bd_s h
  refine SA.tr (ff_X12_areaOf   trivial h1) ?_
  obtain ⟨z4, e_z4, h⟩ := nm_s h
  refine SA.tr (sa_Ia e_z4 hf) ?_
  obtain ⟨r6, z7, h5, h⟩ := bd_s h
  refine SA.tr (ff_X12_icingOf   trivial h5) ?_
  obtain ⟨z8, e_z8, h⟩ := nm_s h
  refine SA.tr (sa_Ia e_z8 hf) ?_
  obtain ⟨z9, e_z9, h⟩ := nm_s h
  refine SA.tr (sa_Ia e_z9 hf) ?_
  obtain ⟨g10, h⟩ := gd_s h
  obtain ⟨z11, e_z11, h⟩ := nm_s h
  refine SA.tr (sa_Ia e_z11 hf) ?_
  obtain ⟨z12, e_z12, h⟩ := nm_s h
  refine SA.tr (sa_Ia e_z12 hf) ?_
  obtain ⟨z13, e_z13, h⟩ := nm_s h
  refine SA.tr (sa_Ia e_z13 hf) ?_
  cases h
  exact SA.rf
theorem ff_X12_worthOf {a k : Nat} {v1 : Int32} {v2 : Int32} {z : St} {Rz : Int32 × St}  (hf : Nf_X12_worthOf  a k) (h : fn_X12_worthOf  v1 v2 z = some Rz) : SA z Rz.2 a k := by
  unfold fn_X12_worthOf at h
  obtain ⟨g1, h⟩ := gd_s h
  obtain ⟨z3, h2, h⟩ := bv_s h
  refine SA.tr (ff_X12_askOf   hf.1 h2) ?_
  obtain ⟨r5, z6, h4, h⟩ := bd_s h
  refine SA.tr (ff_X12_worked   hf.2 h4) ?_
  cases h
  exact SA.rf
theorem ff_X12_isFree {a k : Nat} {v1 : Int32} {z : St} {Rz : Int32 × St}  (hf : Nf_X12_isFree  a k) (h : fn_X12_isFree  v1 z = some Rz) : SA z Rz.2 a k := by
  unfold fn_X12_isFree at h
  obtain ⟨g1, h⟩ := gd_s h
  rcases Decidable.em ((z.1 198 (Int32.toNatClampNeg ((7 * v1) + 6))) = (-1)) with c2 | c2
  · rw [if_pos c2] at h
    cases h
    exact SA.rf
  · rw [if_neg c2] at h
    cases h
    exact SA.rf
theorem ff_X12_pieceOf_34 {a k : Nat} (hf : Nf_X12_pieceOf  a k) {k4 : Int32 → Int32 → Int32 → St → Option (Int32 × St)} (hk_4 : ∀ (v1 : Int32) (v2 : Int32) (v3 : Int32) (z : St)  (Rz : Int32 × St), k4 v1 v2 v3 z = some Rz → SA z Rz.2 a k) (v1 : Int32) (v2 : Int32) (v3 : Int32) (z : St)  {Rz : Int32 × St} (h : fn_X12_pieceOf_34  k4 v1 v2 v3 z = some Rz) : SA z Rz.2 a k := by
  unfold fn_X12_pieceOf_34 at h
  exact hk_4 v1 v2 (v3 + 1) z  _ h
theorem ff_X12_pieceOf_4 {a k : Nat} (hf : Nf_X12_pieceOf  a k) : ∀ (n : Nat) (v1 : Int32) (v2 : Int32) (v3 : Int32) (z : St)  (Rz : Int32 × St), fn_X12_pieceOf_4   n v1 v2 v3 z = some Rz → SA z Rz.2 a k := by
  intro n
  induction n with
  | zero => intro v1 v2 v3 z  Rz h; cases h
  | succ n ih =>
    intro v1 v2 v3 z  Rz h
    rw [fn_X12_pieceOf_4] at h
    rcases Decidable.em ((z.1 198 (Int32.toNatClampNeg 168)) ≤ v3) with c1 | c1
    · rw [if_pos c1] at h
      cases h
      exact SA.rf
    · rw [if_neg c1] at h
      obtain ⟨g2, h⟩ := gd_s h
      rcases Decidable.em ((z.1 198 (Int32.toNatClampNeg ((7 * v3) + 6))) = v1) with c3 | c3
      · rw [if_pos c3] at h
        exact ff_X12_pieceOf_34  hf  ih v1 v3 v3 z  h
      · rw [if_neg c3] at h
        exact ff_X12_pieceOf_34  hf  ih v1 v2 v3 z  h
theorem ff_X12_pieceOf {a k : Nat} {v1 : Int32} {z : St} {Rz : Int32 × St}  (hf : Nf_X12_pieceOf  a k) (h : fn_X12_pieceOf  v1 z = some Rz) : SA z Rz.2 a k := by
  unfold fn_X12_pieceOf at h
  exact ff_X12_pieceOf_4  hf   fu v1 (-1) 0 z  _ h
theorem ff_X12_canCut_65 {a k : Nat} (hf : Nf_X12_canCut  a k) (tv0 : Int32) (tv1 : Int32) (tv3 : Int32) (tv4 : Int32) (z : St)  {Rz : Int32 × St} (h : fn_X12_canCut_65   tv0 tv1 tv3 tv4 z = some Rz) : SA z Rz.2 a k := by
  unfold fn_X12_canCut_65 at h
  obtain ⟨g1, h⟩ := gd_s h
  obtain ⟨r3, z4, h2, h⟩ := bd_s h
  refine SA.tr (ff_X12_isIn   trivial h2) ?_
  rcases Decidable.em (r3 = 0) with c5 | c5
  · rw [if_pos c5] at h
    cases h
    exact SA.rf
  · rw [if_neg c5] at h
    cases h
    exact SA.rf
theorem ff_X12_canCut {a k : Nat} {v1 : Int32} {v2 : Int32} {v3 : Int32} {z : St} {Rz : Int32 × St}  (hf : Nf_X12_canCut  a k) (h : fn_X12_canCut  v1 v2 v3 z = some Rz) : SA z Rz.2 a k := by
  unfold fn_X12_canCut at h
  rcases Decidable.em (v1 < 0) with c1 | c1
  · rw [if_pos c1] at h
    cases h
    exact SA.rf
  · rw [if_neg c1] at h
    rcases Decidable.em ((z.1 198 (Int32.toNatClampNeg 168)) ≤ v1) with c2 | c2
    · rw [if_pos c2] at h
      cases h
      exact SA.rf
    · rw [if_neg c2] at h
      rcases Decidable.em (24 ≤ (z.1 198 (Int32.toNatClampNeg 168))) with c3 | c3
      · rw [if_pos c3] at h
        cases h
        exact SA.rf
      · rw [if_neg c3] at h
        obtain ⟨r5, z6, h4, h⟩ := bd_s h
        refine SA.tr (ff_X12_isIn   trivial h4) ?_
        rcases Decidable.em (r5 = 0) with c7 | c7
        · rw [if_pos c7] at h
          cases h
          exact SA.rf
        · rw [if_neg c7] at h
          obtain ⟨r9, z10, h8, h⟩ := bd_s h
          refine SA.tr (ff_X12_isFree   trivial h8) ?_
          rcases Decidable.em (r9 = 0) with c11 | c11
          · rw [if_pos c11] at h
            cases h
            exact SA.rf
          · rw [if_neg c11] at h
            rcases Decidable.em (v2 = 0) with c12 | c12
            · rw [if_pos c12] at h
              exact ff_X12_canCut_65  hf   v3 1 (7 * v1) 3 z10  h
            · rw [if_neg c12] at h
              exact ff_X12_canCut_65  hf   v3 1 (7 * v1) 4 z10  h
theorem ff_X12_goCut_71 {a k : Nat} (hf : Nf_X12_goCut  a k) (v1 : Int32) (v3 : Int32) (v4 : Int32) (v5 : Int32) (tv0 : Int32) (z : St)  {Rz : Int32 × St} (h : fn_X12_goCut_71   v1 v3 v4 v5 tv0 z = some Rz) : SA z Rz.2 a k := by
  unfold fn_X12_goCut_71 at h
  obtain ⟨g1, h⟩ := gd_s h
  obtain ⟨g2, h⟩ := gd_s h
  obtain ⟨z3, e_z3, h⟩ := nm_s h
  refine SA.tr (sa_Ia e_z3 hf) ?_
  obtain ⟨g4, h⟩ := gd_s h
  obtain ⟨g5, h⟩ := gd_s h
  obtain ⟨z6, e_z6, h⟩ := nm_s h
  refine SA.tr (sa_Ia e_z6 hf) ?_
  obtain ⟨g7, h⟩ := gd_s h
  obtain ⟨z8, e_z8, h⟩ := nm_s h
  refine SA.tr (sa_Ia e_z8 hf) ?_
  obtain ⟨z9, e_z9, h⟩ := nm_s h
  refine SA.tr (sa_Ia e_z9 hf) ?_
  cases h
  exact SA.rf
theorem ff_X12_goCut_60 {a k : Nat} (hf : Nf_X12_goCut  a k) (v1 : Int32) (v2 : Int32) (v3 : Int32) (v4 : Int32) (tv0 : Int32) (z : St)  {Rz : Int32 × St} (h : fn_X12_goCut_60   v1 v2 v3 v4 tv0 z = some Rz) : SA z Rz.2 a k := by
  unfold fn_X12_goCut_60 at h
  rcases Decidable.em (v2 = 0) with c1 | c1
  · rw [if_pos c1] at h
    exact ff_X12_goCut_71  hf   v1 v3 v4 tv0 1 z  h
  · rw [if_neg c1] at h
    exact ff_X12_goCut_71  hf   v1 v3 v4 tv0 2 z  h
theorem ff_X12_goCut_13 {a k : Nat} (hf : Nf_X12_goCut  a k) : ∀ (n : Nat) (v1 : Int32) (v2 : Int32) (v3 : Int32) (v4 : Int32) (v5 : Int32) (z : St)  (Rz : Int32 × St), fn_X12_goCut_13   n v1 v2 v3 v4 v5 z = some Rz → SA z Rz.2 a k := by
  intro n
  induction n with
  | zero => intro v1 v2 v3 v4 v5 z  Rz h; cases h
  | succ n ih =>
    intro v1 v2 v3 v4 v5 z  Rz h
    rw [fn_X12_goCut_13] at h
    rcases Decidable.em (7 ≤ v5) with c1 | c1
    · rw [if_pos c1] at h
      rcases Decidable.em (v2 = 0) with c2 | c2
      · rw [if_pos c2] at h
        exact ff_X12_goCut_60  hf   v1 v2 v3 v4 3 z  h
      · rw [if_neg c2] at h
        exact ff_X12_goCut_60  hf   v1 v2 v3 v4 4 z  h
    · rw [if_neg c1] at h
      obtain ⟨g3, h⟩ := gd_s h
      obtain ⟨g4, h⟩ := gd_s h
      obtain ⟨z5, e_z5, h⟩ := nm_s h
      refine SA.tr (sa_Ia e_z5 hf) ?_
      exact ih v1 v2 v3 v4 (v5 + 1) z5  _ h
theorem ff_X12_goCut {a k : Nat} {v1 : Int32} {v2 : Int32} {v3 : Int32} {z : St} {Rz : Int32 × St}  (hf : Nf_X12_goCut  a k) (h : fn_X12_goCut  v1 v2 v3 z = some Rz) : SA z Rz.2 a k := by
  unfold fn_X12_goCut at h
  obtain ⟨v4_1, e_v4_1, h⟩ := nm_s h
  exact ff_X12_goCut_13  hf   fu v1 v2 v3 v4_1 0 z  _ h
theorem ff_X12_slipOf_20 {a k : Nat} (hf : Nf_X12_slipOf  a k) (tv1 : Int32) (tv2 : Int32) (tv4 : Int32) (tv5 : Int32) (z : St)  {Rz : Int32 × St} (h : fn_X12_slipOf_20   tv1 tv2 tv4 tv5 z = some Rz) : SA z Rz.2 a k := by
  unfold fn_X12_slipOf_20 at h
  obtain ⟨g1, h⟩ := gd_s h
  obtain ⟨z3, h2, h⟩ := bv_s h
  refine SA.tr (ff_X12_askOf   hf.1 h2) ?_
  obtain ⟨r5, z6, h4, h⟩ := bd_s h
  refine SA.tr (ff_X12_worked   hf.2 h4) ?_
  rcases Decidable.em (0 ≤ r5) with c7 | c7
  · rw [if_pos c7] at h
    rcases Decidable.em (r5 ≤ 100) with c8 | c8
    · rw [if_pos c8] at h
      cases h
      exact SA.rf
    · rw [if_neg c8] at h
      cases h
      exact SA.rf
  · rw [if_neg c7] at h
    cases h
    exact SA.rf
theorem ff_X12_slipOf {a k : Nat} {v1 : Int32} {v2 : Int32} {z : St} {Rz : Int32 × St}  (hf : Nf_X12_slipOf  a k) (h : fn_X12_slipOf  v1 v2 z = some Rz) : SA z Rz.2 a k := by
  unfold fn_X12_slipOf at h
  rcases Decidable.em (v2 = 0) with c1 | c1
  · rw [if_pos c1] at h
    exact ff_X12_slipOf_20  hf   v1 0 (7 * v1) 4 z  h
  · rw [if_neg c1] at h
    exact ff_X12_slipOf_20  hf   v1 0 (7 * v1) 3 z  h
theorem ff_X12_piece {a k : Nat} {v1 : Int32} {v2 : Int32} {z : St} {Rz : Int32 × St}  (hf : Nf_X12_piece  a k) (h : fn_X12_piece  v1 v2 z = some Rz) : SA z Rz.2 a k := by
  unfold fn_X12_piece at h
  obtain ⟨r2, z3, h1, h⟩ := bd_s h
  refine SA.tr (ff_X12_isPiece   trivial h1) ?_
  rcases Decidable.em (r2 = 0) with c4 | c4
  · rw [if_pos c4] at h
    cases h
    exact SA.rf
  · rw [if_neg c4] at h
    obtain ⟨z6, h5, h⟩ := bv_s h
    refine SA.tr (ff_X12_load   hf h5) ?_
    by_cases c7 : v2 = 0
    · rw [if_pos c7] at h
      obtain ⟨g8, h⟩ := gd_s h
      cases h
      exact SA.rf
    rw [if_neg c7] at h
    by_cases c9 : v2 = 1
    · rw [if_pos c9] at h
      obtain ⟨g10, h⟩ := gd_s h
      cases h
      exact SA.rf
    rw [if_neg c9] at h
    by_cases c11 : v2 = 2
    · rw [if_pos c11] at h
      obtain ⟨g12, h⟩ := gd_s h
      cases h
      exact SA.rf
    rw [if_neg c11] at h
    by_cases c13 : v2 = 3
    · rw [if_pos c13] at h
      obtain ⟨g14, h⟩ := gd_s h
      cases h
      exact SA.rf
    rw [if_neg c13] at h
    by_cases c15 : v2 = 4
    · rw [if_pos c15] at h
      obtain ⟨g16, h⟩ := gd_s h
      cases h
      exact SA.rf
    rw [if_neg c15] at h
    by_cases c17 : v2 = 5
    · rw [if_pos c17] at h
      obtain ⟨r19, z20, h18, h⟩ := bd_s h
      refine SA.tr (ff_X12_areaOf   trivial h18) ?_
      cases h
      exact SA.rf
    rw [if_neg c17] at h
    by_cases c21 : v2 = 6
    · rw [if_pos c21] at h
      obtain ⟨r23, z24, h22, h⟩ := bd_s h
      refine SA.tr (ff_X12_icingOf   trivial h22) ?_
      cases h
      exact SA.rf
    rw [if_neg c21] at h
    by_cases c25 : v2 = 7
    · rw [if_pos c25] at h
      obtain ⟨g26, h⟩ := gd_s h
      cases h
      exact SA.rf
    rw [if_neg c25] at h
    by_cases c27 : v2 = 8
    · rw [if_pos c27] at h
      obtain ⟨g28, h⟩ := gd_s h
      cases h
      exact SA.rf
    rw [if_neg c27] at h
    cases h
    exact SA.rf
theorem ff_X12_guest {a k : Nat} {v1 : Int32} {v2 : Int32} {z : St} {Rz : Int32 × St}  (hf : Nf_X12_guest  a k) (h : fn_X12_guest  v1 v2 z = some Rz) : SA z Rz.2 a k := by
  unfold fn_X12_guest at h
  obtain ⟨r2, z3, h1, h⟩ := bd_s h
  refine SA.tr (ff_X12_isGuest   trivial h1) ?_
  rcases Decidable.em (r2 = 0) with c4 | c4
  · rw [if_pos c4] at h
    cases h
    exact SA.rf
  · rw [if_neg c4] at h
    obtain ⟨z6, h5, h⟩ := bv_s h
    refine SA.tr (ff_X12_load   hf.1 h5) ?_
    obtain ⟨r8, z9, h7, h⟩ := bd_s h
    refine SA.tr (ff_X12_pieceOf   trivial h7) ?_
    by_cases c10 : v2 = 0
    · rw [if_pos c10] at h
      obtain ⟨g11, h⟩ := gd_s h
      cases h
      exact SA.rf
    rw [if_neg c10] at h
    by_cases c12 : v2 = 1
    · rw [if_pos c12] at h
      obtain ⟨g13, h⟩ := gd_s h
      cases h
      exact SA.rf
    rw [if_neg c12] at h
    by_cases c14 : v2 = 2
    · rw [if_pos c14] at h
      obtain ⟨g15, h⟩ := gd_s h
      cases h
      exact SA.rf
    rw [if_neg c14] at h
    by_cases c16 : v2 = 3
    · rw [if_pos c16] at h
      cases h
      exact SA.rf
    rw [if_neg c16] at h
    by_cases c17 : v2 = 4
    · rw [if_pos c17] at h
      rcases Decidable.em (0 ≤ r8) with c18 | c18
      · rw [if_pos c18] at h
        obtain ⟨r20, z21, h19, h⟩ := bd_s h
        refine SA.tr (ff_X12_worthOf   ⟨hf.2.1, hf.2.2⟩ h19) ?_
        cases h
        exact SA.rf
      · rw [if_neg c18] at h
        cases h
        exact SA.rf
    rw [if_neg c17] at h
    cases h
    exact SA.rf
theorem ff_X12_worth {a k : Nat} {v1 : Int32} {v2 : Int32} {z : St} {Rz : Int32 × St}  (hf : Nf_X12_worth  a k) (h : fn_X12_worth  v1 v2 z = some Rz) : SA z Rz.2 a k := by
  unfold fn_X12_worth at h
  obtain ⟨r2, z3, h1, h⟩ := bd_s h
  refine SA.tr (ff_X12_isGuest   trivial h1) ?_
  rcases Decidable.em (r2 = 0) with c4 | c4
  · rw [if_pos c4] at h
    cases h
    exact SA.rf
  · rw [if_neg c4] at h
    obtain ⟨r6, z7, h5, h⟩ := bd_s h
    refine SA.tr (ff_X12_isPiece   trivial h5) ?_
    rcases Decidable.em (r6 = 0) with c8 | c8
    · rw [if_pos c8] at h
      cases h
      exact SA.rf
    · rw [if_neg c8] at h
      obtain ⟨z10, h9, h⟩ := bv_s h
      refine SA.tr (ff_X12_load   hf.1 h9) ?_
      obtain ⟨r12, z13, h11, h⟩ := bd_s h
      refine SA.tr (ff_X12_worthOf   ⟨hf.2.1, hf.2.2⟩ h11) ?_
      cases h
      exact SA.rf
theorem ff_X12_slip {a k : Nat} {v1 : Int32} {v2 : Int32} {v3 : Int32} {z : St} {Rz : Int32 × St}  (hf : Nf_X12_slip  a k) (h : fn_X12_slip  v1 v2 v3 z = some Rz) : SA z Rz.2 a k := by
  unfold fn_X12_slip at h
  obtain ⟨z2, h1, h⟩ := bv_s h
  refine SA.tr (ff_X12_load   hf.1 h1) ?_
  obtain ⟨r4, z5, h3, h⟩ := bd_s h
  refine SA.tr (ff_X12_canCut   trivial h3) ?_
  rcases Decidable.em (r4 = 0) with c6 | c6
  · rw [if_pos c6] at h
    cases h
    exact SA.rf
  · rw [if_neg c6] at h
    obtain ⟨r8, z9, h7, h⟩ := bd_s h
    refine SA.tr (ff_X12_slipOf   ⟨hf.2.1, hf.2.2⟩ h7) ?_
    cases h
    exact SA.rf
theorem ff_X12_act_52 {a k : Nat} (hf : Nf_X12_act  a k) : ∀ (n : Nat) (v1 : Int32) (z : St)  (Rz : St), fn_X12_act_52   n v1 z = some Rz → SA z Rz a k := by
  intro n
  induction n with
  | zero => intro v1 z  Rz h; cases h
  | succ n ih =>
    intro v1 z  Rz h
    rw [fn_X12_act_52] at h
    rcases Decidable.em (171 ≤ v1) with c1 | c1
    · rw [if_pos c1] at h
      obtain ⟨z2, e_z2, h⟩ := nm_s h
      refine SA.tr (sa_I e_z2 hf.1) ?_
      obtain ⟨z3, e_z3, h⟩ := nm_s h
      refine SA.tr (sa_I e_z3 hf.2.1) ?_
      cases h
      exact SA.rf
    · rw [if_neg c1] at h
      obtain ⟨g4, h⟩ := gd_s h
      obtain ⟨g5, h⟩ := gd_s h
      obtain ⟨z6, e_z6, h⟩ := nm_s h
      refine SA.tr (sa_Ia e_z6 hf.2.2) ?_
      exact ih (v1 + 1) z6  _ h
theorem ff_X12_act_50 {a k : Nat} (hf : Nf_X12_act  a k)  (z : St)  {Rz : St} (h : fn_X12_act_50    z = some Rz) : SA z Rz a k := by
  unfold fn_X12_act_50 at h
  exact ff_X12_act_52  hf   fu 0 z  _ h
theorem ff_X12_act_11 {a k : Nat} (hf : Nf_X12_act  a k) : ∀ (n : Nat) (v1 : Int32) (z : St)  (Rz : St), fn_X12_act_11   n v1 z = some Rz → SA z Rz a k := by
  intro n
  induction n with
  | zero => intro v1 z  Rz h; cases h
  | succ n ih =>
    intro v1 z  Rz h
    rw [fn_X12_act_11] at h
    rcases Decidable.em (6669 ≤ v1) with c1 | c1
    · rw [if_pos c1] at h
      obtain ⟨z2, e_z2, h⟩ := nm_s h
      refine SA.tr (sa_I e_z2 hf.1) ?_
      exact ff_X12_act_50  hf    z2  h
    · rw [if_neg c1] at h
      obtain ⟨g3, h⟩ := gd_s h
      obtain ⟨g4, h⟩ := gd_s h
      obtain ⟨z5, e_z5, h⟩ := nm_s h
      refine SA.tr (sa_Ia e_z5 hf.2.2) ?_
      exact ih (v1 + 1) z5  _ h
theorem ff_X12_act {a k : Nat}  {z : St} {Rz : St}  (hf : Nf_X12_act  a k) (h : fn_X12_act   z = some Rz) : SA z Rz a k := by
  unfold fn_X12_act at h
  rcases Decidable.em ((z.1 172 51) = 40) with c1 | c1
  · rw [if_pos c1] at h
    exact ff_X12_act_11  hf   fu 0 z  _ h
  · rw [if_neg c1] at h
    exact ff_X12_act_50  hf    z  h
theorem ff_X12_turnAbout_2 {a k : Nat} (hf : Nf_X12_turnAbout  a k) : ∀ (n : Nat) (v1 : Int32) (v2 : Int32) (z : St)  (Rz : St), fn_X12_turnAbout_2   n v1 v2 z = some Rz → SA z Rz a k := by
  intro n
  induction n with
  | zero => intro v1 v2 z  Rz h; cases h
  | succ n ih =>
    intro v1 v2 z  Rz h
    rw [fn_X12_turnAbout_2] at h
    rcases Decidable.em (171 ≤ v2) with c1 | c1
    · rw [if_pos c1] at h
      cases h
      exact SA.rf
    · rw [if_neg c1] at h
      obtain ⟨g2, h⟩ := gd_s h
      obtain ⟨v3_3, e_v3_3, h⟩ := nm_s h
      obtain ⟨g4, h⟩ := gd_s h
      obtain ⟨g5, h⟩ := gd_s h
      obtain ⟨z6, e_z6, h⟩ := nm_s h
      refine SA.tr (sa_Ia e_z6 hf.1) ?_
      obtain ⟨g7, h⟩ := gd_s h
      obtain ⟨z8, e_z8, h⟩ := nm_s h
      refine SA.tr (sa_Ia e_z8 hf.2) ?_
      exact ih v1 (v2 + 1) z8  _ h
theorem ff_X12_turnAbout {a k : Nat} {v1 : Int32} {z : St} {Rz : St}  (hf : Nf_X12_turnAbout  a k) (h : fn_X12_turnAbout  v1 z = some Rz) : SA z Rz a k := by
  unfold fn_X12_turnAbout at h
  exact ff_X12_turnAbout_2  hf   fu v1 0 z  _ h
theorem ff_X12_cut_111 {a k : Nat} (hf : Nf_X12_cut  a k) : ∀ (n : Nat) (v5 : Int32) (v6 : Int32) (z : St)  (Rz : Int32 × St), fn_X12_cut_111   n v5 v6 z = some Rz → SA z Rz.2 a k := by
  intro n
  induction n with
  | zero => intro v5 v6 z  Rz h; cases h
  | succ n ih =>
    intro v5 v6 z  Rz h
    rw [fn_X12_cut_111] at h
    rcases Decidable.em (171 ≤ v6) with c1 | c1
    · rw [if_pos c1] at h
      cases h
      exact SA.rf
    · rw [if_neg c1] at h
      obtain ⟨g2, h⟩ := gd_s h
      obtain ⟨g3, h⟩ := gd_s h
      obtain ⟨z4, e_z4, h⟩ := nm_s h
      refine SA.tr (sa_Ia e_z4 hf.1) ?_
      exact ih v5 (v6 + 1) z4  _ h
theorem ff_X12_cut_93 {a k : Nat} (hf : Nf_X12_cut  a k) (v5 : Int32) (z : St)  {Rz : Int32 × St} (h : fn_X12_cut_93   v5 z = some Rz) : SA z Rz.2 a k := by
  unfold fn_X12_cut_93 at h
  obtain ⟨z1, e_z1, h⟩ := nm_s h
  refine SA.tr (sa_Ia e_z1 hf.2.1) ?_
  exact ff_X12_cut_111  hf   fu v5 0 z1  _ h
theorem ff_X12_cut {a k : Nat} {v1 : Int32} {v2 : Int32} {v3 : Int32} {z : St} {Rz : Int32 × St}  (hf : Nf_X12_cut  a k) (h : fn_X12_cut  v1 v2 v3 z = some Rz) : SA z Rz.2 a k := by
  unfold fn_X12_cut at h
  obtain ⟨z2, h1, h⟩ := bv_s h
  refine SA.tr (ff_X12_load   hf.2.1 h1) ?_
  obtain ⟨r4, z5, h3, h⟩ := bd_s h
  refine SA.tr (ff_X12_canCut   trivial h3) ?_
  rcases Decidable.em (r4 = 0) with c6 | c6
  · rw [if_pos c6] at h
    cases h
    exact SA.rf
  · rw [if_neg c6] at h
    obtain ⟨z8, h7, h⟩ := bv_s h
    refine SA.tr (ff_X12_act   ⟨hf.2.2.1, hf.2.2.2.1, hf.2.2.2.2.1⟩ h7) ?_
    obtain ⟨r10, z11, h9, h⟩ := bd_s h
    refine SA.tr (ff_X12_slipOf   ⟨hf.2.2.2.2.2.1, hf.2.2.2.2.2.2⟩ h9) ?_
    obtain ⟨r13, z14, h12, h⟩ := bd_s h
    refine SA.tr (ff_X12_goCut   hf.2.1 h12) ?_
    obtain ⟨z15, e_z15, h⟩ := nm_s h
    refine SA.tr (sa_Ia e_z15 hf.2.1) ?_
    rcases Decidable.em (r10 ≤ ((z15.1 198 (Int32.toNatClampNeg 170)) - (z15.1 198 (Int32.toNatClampNeg 170)) / 100 * 100)) with c16 | c16
    · rw [if_pos c16] at h
      exact ff_X12_cut_93  hf   r13 z15  h
    · rw [if_neg c16] at h
      obtain ⟨g17, h⟩ := gd_s h
      obtain ⟨z18, e_z18, h⟩ := nm_s h
      refine SA.tr (sa_Ia e_z18 hf.2.1) ?_
      exact ff_X12_cut_93  hf   r13 z18  h
theorem ff_X12_give_96 {a k : Nat} (hf : Nf_X12_give  a k) {k60 : Int32 → Int32 → St → Option (Int32 × St)} (hk_60 : ∀ (v3 : Int32) (v4 : Int32) (z : St)  (Rz : Int32 × St), k60 v3 v4 z = some Rz → SA z Rz.2 a k) (v4 : Int32) (tv0 : Int32) (tv1 : Int32) (z : St)  {Rz : Int32 × St} (h : fn_X12_give_96  k60 v4 tv0 tv1 z = some Rz) : SA z Rz.2 a k := by
  unfold fn_X12_give_96 at h
  obtain ⟨r2, z3, h1, h⟩ := bd_s h
  refine SA.tr (ff_X12_truth   trivial h1) ?_
  obtain ⟨v3_4, e_v3_4, h⟩ := nm_s h
  exact hk_60 v3_4 (v4 + 1) z3  _ h
theorem ff_X12_give_60 {a k : Nat} (hf : Nf_X12_give  a k) : ∀ (n : Nat) (v3 : Int32) (v4 : Int32) (z : St)  (Rz : Int32 × St), fn_X12_give_60   n v3 v4 z = some Rz → SA z Rz.2 a k := by
  intro n
  induction n with
  | zero => intro v3 v4 z  Rz h; cases h
  | succ n ih =>
    intro v3 v4 z  Rz h
    rw [fn_X12_give_60] at h
    rcases Decidable.em ((z.1 197 (Int32.toNatClampNeg 168)) ≤ v4) with c1 | c1
    · rw [if_pos c1] at h
      cases h
      exact SA.rf
    · rw [if_neg c1] at h
      obtain ⟨g2, h⟩ := gd_s h
      rcases Decidable.em ((z.1 197 (Int32.toNatClampNeg ((7 * v4) + 6))) = (-1)) with c3 | c3
      · rw [if_pos c3] at h
        exact ff_X12_give_96  hf  ih v4 v3 0 z  h
      · rw [if_neg c3] at h
        exact ff_X12_give_96  hf  ih v4 v3 1 z  h
theorem ff_X12_give {a k : Nat} {v1 : Int32} {v2 : Int32} {z : St} {Rz : Int32 × St}  (hf : Nf_X12_give  a k) (h : fn_X12_give  v1 v2 z = some Rz) : SA z Rz.2 a k := by
  unfold fn_X12_give at h
  obtain ⟨z2, h1, h⟩ := bv_s h
  refine SA.tr (ff_X12_load   hf.1 h1) ?_
  obtain ⟨r4, z5, h3, h⟩ := bd_s h
  refine SA.tr (ff_X12_isPiece   trivial h3) ?_
  rcases Decidable.em (r4 = 0) with c6 | c6
  · rw [if_pos c6] at h
    cases h
    exact SA.rf
  · rw [if_neg c6] at h
    obtain ⟨r8, z9, h7, h⟩ := bd_s h
    refine SA.tr (ff_X12_isGuest   trivial h7) ?_
    rcases Decidable.em (r8 = 0) with c10 | c10
    · rw [if_pos c10] at h
      cases h
      exact SA.rf
    · rw [if_neg c10] at h
      obtain ⟨r12, z13, h11, h⟩ := bd_s h
      refine SA.tr (ff_X12_isFree   trivial h11) ?_
      rcases Decidable.em (r12 = 0) with c14 | c14
      · rw [if_pos c14] at h
        cases h
        exact SA.rf
      · rw [if_neg c14] at h
        obtain ⟨r16, z17, h15, h⟩ := bd_s h
        refine SA.tr (ff_X12_pieceOf   trivial h15) ?_
        rcases Decidable.em (r16 < 0) with c18 | c18
        · rw [if_pos c18] at h
          obtain ⟨z20, h19, h⟩ := bv_s h
          refine SA.tr (ff_X12_act   ⟨hf.2.1, hf.2.2.1, hf.2.2.2.1⟩ h19) ?_
          obtain ⟨g21, h⟩ := gd_s h
          obtain ⟨z22, e_z22, h⟩ := nm_s h
          refine SA.tr (sa_Ia e_z22 hf.2.2.2.2) ?_
          exact ff_X12_give_60  hf   fu 0 0 z22  _ h
        · rw [if_neg c18] at h
          cases h
          exact SA.rf
theorem ff_X12_back_21 {a k : Nat} (hf : Nf_X12_back  a k) (tv0 : Int32) (z : St)  {Rz : Int32 × St} (h : fn_X12_back_21   tv0 z = some Rz) : SA z Rz.2 a k := by
  unfold fn_X12_back_21 at h
  rcases Decidable.em (0 ≤ tv0) with c1 | c1
  · rw [if_pos c1] at h
    obtain ⟨z3, h2, h⟩ := bv_s h
    refine SA.tr (ff_X12_act   ⟨hf.1, hf.2.1, hf.2.2.1⟩ h2) ?_
    obtain ⟨g4, h⟩ := gd_s h
    obtain ⟨z5, e_z5, h⟩ := nm_s h
    refine SA.tr (sa_Ia e_z5 hf.2.2.2.1) ?_
    cases h
    exact SA.rf
  · rw [if_neg c1] at h
    cases h
    exact SA.rf
theorem ff_X12_back {a k : Nat} {v1 : Int32} {z : St} {Rz : Int32 × St}  (hf : Nf_X12_back  a k) (h : fn_X12_back  v1 z = some Rz) : SA z Rz.2 a k := by
  unfold fn_X12_back at h
  obtain ⟨z2, h1, h⟩ := bv_s h
  refine SA.tr (ff_X12_load   hf.2.2.2.2 h1) ?_
  obtain ⟨r4, z5, h3, h⟩ := bd_s h
  refine SA.tr (ff_X12_isGuest   trivial h3) ?_
  rcases Decidable.em (r4 = 0) with c6 | c6
  · rw [if_pos c6] at h
    exact ff_X12_back_21  hf   (-1) z5  h
  · rw [if_neg c6] at h
    obtain ⟨r8, z9, h7, h⟩ := bd_s h
    refine SA.tr (ff_X12_pieceOf   trivial h7) ?_
    exact ff_X12_back_21  hf   r8 z9  h
theorem ff_X12_exchange {a k : Nat} {v1 : Int32} {v2 : Int32} {z : St} {Rz : Int32 × St}  (hf : Nf_X12_exchange  a k) (h : fn_X12_exchange  v1 v2 z = some Rz) : SA z Rz.2 a k := by
  unfold fn_X12_exchange at h
  obtain ⟨z2, h1, h⟩ := bv_s h
  refine SA.tr (ff_X12_load   hf.1 h1) ?_
  obtain ⟨r4, z5, h3, h⟩ := bd_s h
  refine SA.tr (ff_X12_isGuest   trivial h3) ?_
  rcases Decidable.em (r4 = 0) with c6 | c6
  · rw [if_pos c6] at h
    cases h
    exact SA.rf
  · rw [if_neg c6] at h
    obtain ⟨r8, z9, h7, h⟩ := bd_s h
    refine SA.tr (ff_X12_isGuest   trivial h7) ?_
    rcases Decidable.em (r8 = 0) with c10 | c10
    · rw [if_pos c10] at h
      cases h
      exact SA.rf
    · rw [if_neg c10] at h
      rcases Decidable.em (v1 = v2) with c11 | c11
      · rw [if_pos c11] at h
        cases h
        exact SA.rf
      · rw [if_neg c11] at h
        obtain ⟨r13, z14, h12, h⟩ := bd_s h
        refine SA.tr (ff_X12_pieceOf   trivial h12) ?_
        rcases Decidable.em (r13 < 0) with c15 | c15
        · rw [if_pos c15] at h
          cases h
          exact SA.rf
        · rw [if_neg c15] at h
          obtain ⟨r17, z18, h16, h⟩ := bd_s h
          refine SA.tr (ff_X12_pieceOf   trivial h16) ?_
          rcases Decidable.em (0 ≤ r17) with c19 | c19
          · rw [if_pos c19] at h
            obtain ⟨z21, h20, h⟩ := bv_s h
            refine SA.tr (ff_X12_act   ⟨hf.2.1, hf.2.2.1, hf.2.2.2.1⟩ h20) ?_
            obtain ⟨r23, z24, h22, h⟩ := bd_s h
            refine SA.tr (ff_X12_pieceOf   trivial h22) ?_
            obtain ⟨g25, h⟩ := gd_s h
            obtain ⟨z26, e_z26, h⟩ := nm_s h
            refine SA.tr (sa_Ia e_z26 hf.2.2.2.2) ?_
            obtain ⟨r28, z29, h27, h⟩ := bd_s h
            refine SA.tr (ff_X12_pieceOf   trivial h27) ?_
            obtain ⟨g30, h⟩ := gd_s h
            obtain ⟨z31, e_z31, h⟩ := nm_s h
            refine SA.tr (sa_Ia e_z31 hf.2.2.2.2) ?_
            obtain ⟨r33, z34, h32, h⟩ := bd_s h
            refine SA.tr (ff_X12_pieceOf   trivial h32) ?_
            cases h
            exact SA.rf
          · rw [if_neg c19] at h
            cases h
            exact SA.rf
theorem ff_X12_undo {a k : Nat}  {z : St} {Rz : Int32 × St}  (hf : Nf_X12_undo  a k) (h : fn_X12_undo   z = some Rz) : SA z Rz.2 a k := by
  unfold fn_X12_undo at h
  rcases Decidable.em ((z.1 172 51) = 0) with c1 | c1
  · rw [if_pos c1] at h
    cases h
    exact SA.rf
  · rw [if_neg c1] at h
    obtain ⟨z2, e_z2, h⟩ := nm_s h
    refine SA.tr (sa_I e_z2 hf.1) ?_
    obtain ⟨z3, e_z3, h⟩ := nm_s h
    refine SA.tr (sa_I e_z3 hf.2.1) ?_
    obtain ⟨z5, h4, h⟩ := bv_s h
    refine SA.tr (ff_X12_turnAbout   ⟨hf.2.2.1, hf.2.2.2⟩ h4) ?_
    cases h
    exact SA.rf
theorem ff_X12_redo {a k : Nat}  {z : St} {Rz : Int32 × St}  (hf : Nf_X12_redo  a k) (h : fn_X12_redo   z = some Rz) : SA z Rz.2 a k := by
  unfold fn_X12_redo at h
  rcases Decidable.em ((z.1 172 52) = 0) with c1 | c1
  · rw [if_pos c1] at h
    cases h
    exact SA.rf
  · rw [if_neg c1] at h
    obtain ⟨z3, h2, h⟩ := bv_s h
    refine SA.tr (ff_X12_turnAbout   ⟨hf.1, hf.2.1⟩ h2) ?_
    obtain ⟨z4, e_z4, h⟩ := nm_s h
    refine SA.tr (sa_I e_z4 hf.2.2.1) ?_
    obtain ⟨z5, e_z5, h⟩ := nm_s h
    refine SA.tr (sa_I e_z5 hf.2.2.2) ?_
    cases h
    exact SA.rf
theorem ff_X12_put_29 {a k : Nat} (p0 : Nat) (hk0 : kd p0 = 14) (hf : Nf_X12_put p0 a k) (v2 : Int32) (v3 : Int32) (z : St)  {Rz : St} (h : fn_X12_put_29   p0 v2 v3 z = some Rz) : SA z Rz a k := by
  unfold fn_X12_put_29 at h
  obtain ⟨g1, h⟩ := gd_s h
  obtain ⟨z2, e_z2, h⟩ := nm_s h
  refine SA.tr (sa_Ia e_z2 hf) ?_
  cases h
  exact SA.rf
theorem ff_X12_put_2 {a k : Nat} (p0 : Nat) (hk0 : kd p0 = 14) (hf : Nf_X12_put p0 a k) : ∀ (n : Nat) (v2 : Int32) (v3 : Int32) (z : St)  (Rz : St), fn_X12_put_2   n p0 v2 v3 z = some Rz → SA z Rz a k := by
  intro n
  induction n with
  | zero => intro v2 v3 z  Rz h; cases h
  | succ n ih =>
    intro v2 v3 z  Rz h
    rw [fn_X12_put_2] at h
    rcases Decidable.em (v3 ≤ 0) with c1 | c1
    · rw [if_pos c1] at h
      exact ff_X12_put_29 p0 hk0 hf   v2 v3 z  h
    · rw [if_neg c1] at h
      obtain ⟨g2, h⟩ := gd_s h
      rcases Decidable.em ((z.1 p0 (Int32.toNatClampNeg (v3 - 1))) ≤ v2) with c3 | c3
      · rw [if_pos c3] at h
        exact ff_X12_put_29 p0 hk0 hf   v2 v3 z  h
      · rw [if_neg c3] at h
        obtain ⟨g4, h⟩ := gd_s h
        obtain ⟨g5, h⟩ := gd_s h
        obtain ⟨z6, e_z6, h⟩ := nm_s h
        refine SA.tr (sa_Ia e_z6 hf) ?_
        exact ih v2 (v3 + (-1)) z6  _ h
theorem ff_X12_put {a k : Nat} {p0 : Nat} {v1 : Int32} {v2 : Int32} {z : St} {Rz : St} (hk0 : kd p0 = 14) (hf : Nf_X12_put p0 a k) (h : fn_X12_put  p0 v1 v2 z = some Rz) : SA z Rz a k := by
  unfold fn_X12_put at h
  exact ff_X12_put_2 p0 hk0 hf   fu v2 v1 z  _ h
theorem ff_X12_servedBut_86 {a k : Nat} (hf : Nf_X12_servedBut  a k) {k12 : Int32 → Int32 → Int32 → St → Option (Int32 × St)} (hk_12 : ∀ (v1 : Int32) (v2 : Int32) (v3 : Int32) (z : St)  (Rz : Int32 × St), k12 v1 v2 v3 z = some Rz → SA z Rz.2 a k) (v1 : Int32) (v2 : Int32) (v3 : Int32) (z : St)  {Rz : Int32 × St} (h : fn_X12_servedBut_86  k12 v1 v2 v3 z = some Rz) : SA z Rz.2 a k := by
  unfold fn_X12_servedBut_86 at h
  exact hk_12 v1 v2 (v3 + 1) z  _ h
theorem ff_X12_servedBut_73 {a k : Nat} (hf : Nf_X12_servedBut  a k) {k12 : Int32 → Int32 → Int32 → St → Option (Int32 × St)} (hk_12 : ∀ (v1 : Int32) (v2 : Int32) (v3 : Int32) (z : St)  (Rz : Int32 × St), k12 v1 v2 v3 z = some Rz → SA z Rz.2 a k) (v1 : Int32) (v2 : Int32) (v3 : Int32) (tv1 : Int32) (tv2 : Int32) (z : St)  {Rz : Int32 × St} (h : fn_X12_servedBut_73  k12 v1 v2 v3 tv1 tv2 z = some Rz) : SA z Rz.2 a k := by
  unfold fn_X12_servedBut_73 at h
  obtain ⟨z2, h1, h⟩ := bv_s h
  refine SA.tr (ff_X12_put  k_200 hf.1 h1) ?_
  obtain ⟨z3, e_z3, h⟩ := nm_s h
  refine SA.tr (sa_I e_z3 hf.2.1) ?_
  exact ff_X12_servedBut_86  hf  hk_12 v1 v2 v3 z3  h
theorem ff_X12_servedBut_148 {a k : Nat} (hf : Nf_X12_servedBut  a k) {k94 : Int32 → Int32 → St → Option (Int32 × St)} (hk_94 : ∀ (v2 : Int32) (v3 : Int32) (z : St)  (Rz : Int32 × St), k94 v2 v3 z = some Rz → SA z Rz.2 a k) (v2 : Int32) (v3 : Int32) (z : St)  {Rz : Int32 × St} (h : fn_X12_servedBut_148  k94 v2 v3 z = some Rz) : SA z Rz.2 a k := by
  unfold fn_X12_servedBut_148 at h
  exact hk_94 v2 (v3 + 1) z  _ h
theorem ff_X12_servedBut_195 {a k : Nat} (hf : Nf_X12_servedBut  a k) {k159 : Int32 → Int32 → St → Option (Int32 × St)} (hk_159 : ∀ (v3 : Int32) (v4 : Int32) (z : St)  (Rz : Int32 × St), k159 v3 v4 z = some Rz → SA z Rz.2 a k) (v3 : Int32) (v4 : Int32) (z : St)  {Rz : Int32 × St} (h : fn_X12_servedBut_195  k159 v3 v4 z = some Rz) : SA z Rz.2 a k := by
  unfold fn_X12_servedBut_195 at h
  exact hk_159 v3 (v4 + 1) z  _ h
theorem ff_X12_servedBut_159 {a k : Nat} (hf : Nf_X12_servedBut  a k) : ∀ (n : Nat) (v3 : Int32) (v4 : Int32) (z : St)  (Rz : Int32 × St), fn_X12_servedBut_159   n v3 v4 z = some Rz → SA z Rz.2 a k := by
  intro n
  induction n with
  | zero => intro v3 v4 z  Rz h; cases h
  | succ n ih =>
    intro v3 v4 z  Rz h
    rw [fn_X12_servedBut_159] at h
    rcases Decidable.em ((z.1 172 56) ≤ v4) with c1 | c1
    · rw [if_pos c1] at h
      cases h
      exact SA.rf
    · rw [if_neg c1] at h
      rcases Decidable.em ((z.1 172 55) ≤ v3) with c2 | c2
      · rw [if_pos c2] at h
        cases h
        exact SA.rf
      · rw [if_neg c2] at h
        obtain ⟨g3, h⟩ := gd_s h
        obtain ⟨g4, h⟩ := gd_s h
        rcases Decidable.em ((z.1 201 (Int32.toNatClampNeg v4)) < (z.1 200 (Int32.toNatClampNeg v3))) with c5 | c5
        · rw [if_pos c5] at h
          exact ff_X12_servedBut_195  hf  ih v3 v4 z  h
        · rw [if_neg c5] at h
          exact ff_X12_servedBut_195  hf  ih (v3 + 1) v4 z  h
theorem ff_X12_servedBut_94 {a k : Nat} (hf : Nf_X12_servedBut  a k) : ∀ (n : Nat) (v2 : Int32) (v3 : Int32) (z : St)  (Rz : Int32 × St), fn_X12_servedBut_94   n v2 v3 z = some Rz → SA z Rz.2 a k := by
  intro n
  induction n with
  | zero => intro v2 v3 z  Rz h; cases h
  | succ n ih =>
    intro v2 v3 z  Rz h
    rw [fn_X12_servedBut_94] at h
    rcases Decidable.em ((z.1 198 (Int32.toNatClampNeg 168)) ≤ v3) with c1 | c1
    · rw [if_pos c1] at h
      exact ff_X12_servedBut_159  hf   fu 0 0 z  _ h
    · rw [if_neg c1] at h
      rcases Decidable.em (v3 = v2) with c2 | c2
      · rw [if_pos c2] at h
        exact ff_X12_servedBut_148  hf  ih v2 v3 z  h
      · rw [if_neg c2] at h
        obtain ⟨r4, z5, h3, h⟩ := bd_s h
        refine SA.tr (ff_X12_isFree   trivial h3) ?_
        rcases Decidable.em (r4 = 0) with c6 | c6
        · rw [if_pos c6] at h
          exact ff_X12_servedBut_148  hf  ih v2 v3 z5  h
        · rw [if_neg c6] at h
          obtain ⟨r8, z9, h7, h⟩ := bd_s h
          refine SA.tr (ff_X12_areaOf   trivial h7) ?_
          obtain ⟨z11, h10, h⟩ := bv_s h
          refine SA.tr (ff_X12_put  k_201 hf.2.2.1 h10) ?_
          obtain ⟨z12, e_z12, h⟩ := nm_s h
          refine SA.tr (sa_I e_z12 hf.2.2.2) ?_
          exact ff_X12_servedBut_148  hf  ih v2 v3 z12  h
theorem ff_X12_servedBut_12 {a k : Nat} (hf : Nf_X12_servedBut  a k) : ∀ (n : Nat) (v1 : Int32) (v2 : Int32) (v3 : Int32) (z : St)  (Rz : Int32 × St), fn_X12_servedBut_12   n v1 v2 v3 z = some Rz → SA z Rz.2 a k := by
  intro n
  induction n with
  | zero => intro v1 v2 v3 z  Rz h; cases h
  | succ n ih =>
    intro v1 v2 v3 z  Rz h
    rw [fn_X12_servedBut_12] at h
    rcases Decidable.em ((z.1 172 44) ≤ v3) with c1 | c1
    · rw [if_pos c1] at h
      exact ff_X12_servedBut_94  hf   fu v2 0 z  _ h
    · rw [if_neg c1] at h
      rcases Decidable.em (v3 = v1) with c2 | c2
      · rw [if_pos c2] at h
        exact ff_X12_servedBut_86  hf  ih v1 v2 v3 z  h
      · rw [if_neg c2] at h
        obtain ⟨r4, z5, h3, h⟩ := bd_s h
        refine SA.tr (ff_X12_pieceOf   trivial h3) ?_
        rcases Decidable.em (r4 < 0) with c6 | c6
        · rw [if_pos c6] at h
          obtain ⟨g7, h⟩ := gd_s h
          rcases Decidable.em (0 ≤ ((z5.1 194 (Int32.toNatClampNeg v3)) + (z5.1 172 57))) with c8 | c8
          · rw [if_pos c8] at h
            obtain ⟨g9, h⟩ := gd_s h
            exact ff_X12_servedBut_73  hf  ih v1 v2 v3 (z5.1 172 55) ((z5.1 194 (Int32.toNatClampNeg v3)) + (z5.1 172 57)) z5  h
          · rw [if_neg c8] at h
            exact ff_X12_servedBut_73  hf  ih v1 v2 v3 (z5.1 172 55) 0 z5  h
        · rw [if_neg c6] at h
          exact ff_X12_servedBut_86  hf  ih v1 v2 v3 z5  h
theorem ff_X12_servedBut {a k : Nat} {v1 : Int32} {v2 : Int32} {z : St} {Rz : Int32 × St}  (hf : Nf_X12_servedBut  a k) (h : fn_X12_servedBut  v1 v2 z = some Rz) : SA z Rz.2 a k := by
  unfold fn_X12_servedBut at h
  obtain ⟨z1, e_z1, h⟩ := nm_s h
  refine SA.tr (sa_I e_z1 hf.2.1) ?_
  obtain ⟨z2, e_z2, h⟩ := nm_s h
  refine SA.tr (sa_I e_z2 hf.2.2.2) ?_
  exact ff_X12_servedBut_12  hf   fu v1 v2 0 z2  _ h
theorem ff_X12_feeds_58 {a k : Nat} (hf : Nf_X12_feeds  a k) {k18 : Int32 → Int32 → Int32 → St → Option (Int32 × St)} (hk_18 : ∀ (v1 : Int32) (v2 : Int32) (v3 : Int32) (z : St)  (Rz : Int32 × St), k18 v1 v2 v3 z = some Rz → SA z Rz.2 a k) (v1 : Int32) (v3 : Int32) (tv0 : Int32) (tv1 : Int32) (z : St)  {Rz : Int32 × St} (h : fn_X12_feeds_58  k18 v1 v3 tv0 tv1 z = some Rz) : SA z Rz.2 a k := by
  unfold fn_X12_feeds_58 at h
  obtain ⟨r2, z3, h1, h⟩ := bd_s h
  refine SA.tr (ff_X12_truth   trivial h1) ?_
  obtain ⟨v2_4, e_v2_4, h⟩ := nm_s h
  exact hk_18 v1 v2_4 (v3 + 1) z3  _ h
theorem ff_X12_feeds_57 {a k : Nat} (hf : Nf_X12_feeds  a k) {k18 : Int32 → Int32 → Int32 → St → Option (Int32 × St)} (hk_18 : ∀ (v1 : Int32) (v2 : Int32) (v3 : Int32) (z : St)  (Rz : Int32 × St), k18 v1 v2 v3 z = some Rz → SA z Rz.2 a k) (v1 : Int32) (v3 : Int32) (tv0 : Int32) (z : St)  {Rz : Int32 × St} (h : fn_X12_feeds_57  k18 v1 v3 tv0 z = some Rz) : SA z Rz.2 a k := by
  unfold fn_X12_feeds_57 at h
  exact ff_X12_feeds_58  hf  hk_18 v1 v3 tv0 0 z  h
theorem ff_X12_feeds_18 {a k : Nat} (hf : Nf_X12_feeds  a k) : ∀ (n : Nat) (v1 : Int32) (v2 : Int32) (v3 : Int32) (z : St)  (Rz : Int32 × St), fn_X12_feeds_18   n v1 v2 v3 z = some Rz → SA z Rz.2 a k := by
  intro n
  induction n with
  | zero => intro v1 v2 v3 z  Rz h; cases h
  | succ n ih =>
    intro v1 v2 v3 z  Rz h
    rw [fn_X12_feeds_18] at h
    rcases Decidable.em ((z.1 198 (Int32.toNatClampNeg 168)) ≤ v3) with c1 | c1
    · rw [if_pos c1] at h
      cases h
      exact SA.rf
    · rw [if_neg c1] at h
      obtain ⟨r3, z4, h2, h⟩ := bd_s h
      refine SA.tr (ff_X12_isFree   trivial h2) ?_
      rcases Decidable.em (r3 = 0) with c5 | c5
      · rw [if_pos c5] at h
        exact ff_X12_feeds_57  hf  ih v1 v3 v2 z4  h
      · rw [if_neg c5] at h
        obtain ⟨r7, z8, h6, h⟩ := bd_s h
        refine SA.tr (ff_X12_areaOf   trivial h6) ?_
        obtain ⟨g9, h⟩ := gd_s h
        rcases Decidable.em (r7 < (z8.1 194 (Int32.toNatClampNeg v1))) with c10 | c10
        · rw [if_pos c10] at h
          exact ff_X12_feeds_57  hf  ih v1 v3 v2 z8  h
        · rw [if_neg c10] at h
          exact ff_X12_feeds_58  hf  ih v1 v3 v2 1 z8  h
theorem ff_X12_feeds {a k : Nat} {v1 : Int32} {z : St} {Rz : Int32 × St}  (hf : Nf_X12_feeds  a k) (h : fn_X12_feeds  v1 z = some Rz) : SA z Rz.2 a k := by
  unfold fn_X12_feeds at h
  obtain ⟨r2, z3, h1, h⟩ := bd_s h
  refine SA.tr (ff_X12_isGuest   trivial h1) ?_
  rcases Decidable.em (r2 = 0) with c4 | c4
  · rw [if_pos c4] at h
    cases h
    exact SA.rf
  · rw [if_neg c4] at h
    obtain ⟨z6, h5, h⟩ := bv_s h
    refine SA.tr (ff_X12_load   hf h5) ?_
    exact ff_X12_feeds_18  hf   fu v1 0 0 z6  _ h
theorem ff_X12_served {a k : Nat}  {z : St} {Rz : Int32 × St}  (hf : Nf_X12_served  a k) (h : fn_X12_served   z = some Rz) : SA z Rz.2 a k := by
  unfold fn_X12_served at h
  obtain ⟨z2, h1, h⟩ := bv_s h
  refine SA.tr (ff_X12_load   hf.1 h1) ?_
  obtain ⟨r4, z5, h3, h⟩ := bd_s h
  refine SA.tr (ff_X12_servedBut   ⟨hf.2.1, hf.2.2.1, hf.2.2.2.1, hf.2.2.2.2⟩ h3) ?_
  cases h
  exact SA.rf
theorem ff_X12_next_113 {a k : Nat} (hf : Nf_X12_next  a k) {k18 : Int32 → Int32 → Int32 → Int32 → St → Option (Int32 × St)} (hk_18 : ∀ (v1 : Int32) (v2 : Int32) (v3 : Int32) (v4 : Int32) (z : St)  (Rz : Int32 × St), k18 v1 v2 v3 v4 z = some Rz → SA z Rz.2 a k) {k34 : Int32 → Int32 → Int32 → Int32 → Int32 → St → Option (Int32 × St)} (hk_34 : ∀ (v1 : Int32) (v2 : Int32) (v3 : Int32) (v4 : Int32) (v5 : Int32) (z : St)  (Rz : Int32 × St), k34 v1 v2 v3 v4 v5 z = some Rz → SA z Rz.2 a k) (v1 : Int32) (v2 : Int32) (v3 : Int32) (v4 : Int32) (v5 : Int32) (z : St)  {Rz : Int32 × St} (h : fn_X12_next_113  k18 k34 v1 v2 v3 v4 v5 z = some Rz) : SA z Rz.2 a k := by
  unfold fn_X12_next_113 at h
  exact hk_34 v1 v2 v3 v4 (v5 + 1) z  _ h
theorem ff_X12_next_34 {a k : Nat} (hf : Nf_X12_next  a k) {k18 : Int32 → Int32 → Int32 → Int32 → St → Option (Int32 × St)} (hk_18 : ∀ (v1 : Int32) (v2 : Int32) (v3 : Int32) (v4 : Int32) (z : St)  (Rz : Int32 × St), k18 v1 v2 v3 v4 z = some Rz → SA z Rz.2 a k) : ∀ (n : Nat) (v1 : Int32) (v2 : Int32) (v3 : Int32) (v4 : Int32) (v5 : Int32) (z : St)  (Rz : Int32 × St), fn_X12_next_34  k18 n v1 v2 v3 v4 v5 z = some Rz → SA z Rz.2 a k := by
  intro n
  induction n with
  | zero => intro v1 v2 v3 v4 v5 z  Rz h; cases h
  | succ n ih =>
    intro v1 v2 v3 v4 v5 z  Rz h
    rw [fn_X12_next_34] at h
    rcases Decidable.em (16 ≤ v5) with c1 | c1
    · rw [if_pos c1] at h
      exact hk_18 v1 v2 v3 (v4 + 1) z  _ h
    · rw [if_neg c1] at h
      obtain ⟨z3, h2, h⟩ := bv_s h
      refine SA.tr (ff_X12_load   hf.1 h2) ?_
      obtain ⟨r5, z6, h4, h⟩ := bd_s h
      refine SA.tr (ff_X12_canCut   trivial h4) ?_
      rcases Decidable.em (r5 = 0) with c7 | c7
      · rw [if_pos c7] at h
        exact ff_X12_next_113  hf  hk_18 ih v1 v2 v3 v4 v5 z6  h
      · rw [if_neg c7] at h
        obtain ⟨r9, z10, h8, h⟩ := bd_s h
        refine SA.tr (ff_X12_goCut   hf.1 h8) ?_
        obtain ⟨r12, z13, h11, h⟩ := bd_s h
        refine SA.tr (ff_X12_servedBut   ⟨hf.2.1, hf.2.2.1, hf.2.2.2.1, hf.2.2.2.2⟩ h11) ?_
        rcases Decidable.em (v2 < r12) with c14 | c14
        · rw [if_pos c14] at h
          obtain ⟨v3_15, e_v3_15, h⟩ := nm_s h
          exact ff_X12_next_113  hf  hk_18 ih v1 r12 v3_15 v4 v5 z13  h
        · rw [if_neg c14] at h
          exact ff_X12_next_113  hf  hk_18 ih v1 v2 v3 v4 v5 z13  h
theorem ff_X12_next_18 {a k : Nat} (hf : Nf_X12_next  a k) : ∀ (n : Nat) (v1 : Int32) (v2 : Int32) (v3 : Int32) (v4 : Int32) (z : St)  (Rz : Int32 × St), fn_X12_next_18   n v1 v2 v3 v4 z = some Rz → SA z Rz.2 a k := by
  intro n
  induction n with
  | zero => intro v1 v2 v3 v4 z  Rz h; cases h
  | succ n ih =>
    intro v1 v2 v3 v4 z  Rz h
    rw [fn_X12_next_18] at h
    rcases Decidable.em ((z.1 197 (Int32.toNatClampNeg 168)) ≤ v4) with c1 | c1
    · rw [if_pos c1] at h
      rcases Decidable.em (0 ≤ v2) with c2 | c2
      · rw [if_pos c2] at h
        rcases Decidable.em (v1 = 0) with c3 | c3
        · rw [if_pos c3] at h
          cases h
          exact SA.rf
        · rw [if_neg c3] at h
          rcases Decidable.em (v1 = 1) with c4 | c4
          · rw [if_pos c4] at h
            cases h
            exact SA.rf
          · rw [if_neg c4] at h
            rcases Decidable.em (v1 = 2) with c5 | c5
            · rw [if_pos c5] at h
              cases h
              exact SA.rf
            · rw [if_neg c5] at h
              cases h
              exact SA.rf
      · rw [if_neg c2] at h
        cases h
        exact SA.rf
    · rw [if_neg c1] at h
      exact ff_X12_next_34  hf  ih fu v1 v2 v3 v4 0 z  _ h
theorem ff_X12_next {a k : Nat} {v1 : Int32} {z : St} {Rz : Int32 × St}  (hf : Nf_X12_next  a k) (h : fn_X12_next  v1 z = some Rz) : SA z Rz.2 a k := by
  unfold fn_X12_next at h
  obtain ⟨r2, z3, h1, h⟩ := bd_s h
  refine SA.tr (ff_X12_isIn   trivial h1) ?_
  rcases Decidable.em (r2 = 0) with c4 | c4
  · rw [if_pos c4] at h
    cases h
    exact SA.rf
  · rw [if_neg c4] at h
    exact ff_X12_next_18  hf   fu v1 (-1) 0 0 z3  _ h
theorem ff_X12_isEnvied {a k : Nat} {v1 : Int32} {v2 : Int32} {z : St} {Rz : Int32 × St}  (hf : Nf_X12_isEnvied  a k) (h : fn_X12_isEnvied  v1 v2 z = some Rz) : SA z Rz.2 a k := by
  unfold fn_X12_isEnvied at h
  obtain ⟨r2, z3, h1, h⟩ := bd_s h
  refine SA.tr (ff_X12_pieceOf   trivial h1) ?_
  obtain ⟨r5, z6, h4, h⟩ := bd_s h
  refine SA.tr (ff_X12_pieceOf   trivial h4) ?_
  rcases Decidable.em (v1 = v2) with c7 | c7
  · rw [if_pos c7] at h
    cases h
    exact SA.rf
  · rw [if_neg c7] at h
    rcases Decidable.em (0 ≤ r5) with c8 | c8
    · rw [if_pos c8] at h
      rcases Decidable.em (0 ≤ r2) with c9 | c9
      · rw [if_pos c9] at h
        obtain ⟨r11, z12, h10, h⟩ := bd_s h
        refine SA.tr (ff_X12_worthOf   ⟨hf.1, hf.2⟩ h10) ?_
        obtain ⟨r14, z15, h13, h⟩ := bd_s h
        refine SA.tr (ff_X12_worthOf   ⟨hf.1, hf.2⟩ h13) ?_
        rcases Decidable.em (r11 ≤ r14) with c16 | c16
        · rw [if_pos c16] at h
          cases h
          exact SA.rf
        · rw [if_neg c16] at h
          cases h
          exact SA.rf
      · rw [if_neg c9] at h
        obtain ⟨r18, z19, h17, h⟩ := bd_s h
        refine SA.tr (ff_X12_worthOf   ⟨hf.1, hf.2⟩ h17) ?_
        rcases Decidable.em (r18 ≤ 0) with c20 | c20
        · rw [if_pos c20] at h
          cases h
          exact SA.rf
        · rw [if_neg c20] at h
          cases h
          exact SA.rf
    · rw [if_neg c8] at h
      cases h
      exact SA.rf
theorem ff_X12_enviedBy_4 {a k : Nat} (hf : Nf_X12_enviedBy  a k) : ∀ (n : Nat) (v1 : Int32) (v2 : Int32) (v3 : Int32) (z : St)  (Rz : Int32 × St), fn_X12_enviedBy_4   n v1 v2 v3 z = some Rz → SA z Rz.2 a k := by
  intro n
  induction n with
  | zero => intro v1 v2 v3 z  Rz h; cases h
  | succ n ih =>
    intro v1 v2 v3 z  Rz h
    rw [fn_X12_enviedBy_4] at h
    rcases Decidable.em ((z.1 172 44) ≤ v3) with c1 | c1
    · rw [if_pos c1] at h
      cases h
      exact SA.rf
    · rw [if_neg c1] at h
      obtain ⟨r3, z4, h2, h⟩ := bd_s h
      refine SA.tr (ff_X12_isEnvied   ⟨hf.1, hf.2⟩ h2) ?_
      obtain ⟨r6, z7, h5, h⟩ := bd_s h
      refine SA.tr (ff_X12_truth   trivial h5) ?_
      obtain ⟨v2_8, e_v2_8, h⟩ := nm_s h
      exact ih v1 v2_8 (v3 + 1) z7  _ h
theorem ff_X12_enviedBy {a k : Nat} {v1 : Int32} {z : St} {Rz : Int32 × St}  (hf : Nf_X12_enviedBy  a k) (h : fn_X12_enviedBy  v1 z = some Rz) : SA z Rz.2 a k := by
  unfold fn_X12_enviedBy at h
  exact ff_X12_enviedBy_4  hf   fu v1 0 0 z  _ h
theorem ff_X12_allEnvies_14 {a k : Nat} (hf : Nf_X12_allEnvies  a k) {k4 : Int32 → Int32 → St → Option (Int32 × St)} (hk_4 : ∀ (v1 : Int32) (v2 : Int32) (z : St)  (Rz : Int32 × St), k4 v1 v2 z = some Rz → SA z Rz.2 a k) : ∀ (n : Nat) (v1 : Int32) (v2 : Int32) (v3 : Int32) (z : St)  (Rz : Int32 × St), fn_X12_allEnvies_14  k4 n v1 v2 v3 z = some Rz → SA z Rz.2 a k := by
  intro n
  induction n with
  | zero => intro v1 v2 v3 z  Rz h; cases h
  | succ n ih =>
    intro v1 v2 v3 z  Rz h
    rw [fn_X12_allEnvies_14] at h
    rcases Decidable.em ((z.1 172 44) ≤ v3) with c1 | c1
    · rw [if_pos c1] at h
      exact hk_4 v1 (v2 + 1) z  _ h
    · rw [if_neg c1] at h
      obtain ⟨r3, z4, h2, h⟩ := bd_s h
      refine SA.tr (ff_X12_isEnvied   ⟨hf.1, hf.2⟩ h2) ?_
      obtain ⟨r6, z7, h5, h⟩ := bd_s h
      refine SA.tr (ff_X12_truth   trivial h5) ?_
      obtain ⟨v1_8, e_v1_8, h⟩ := nm_s h
      exact ih v1_8 v2 (v3 + 1) z7  _ h
theorem ff_X12_allEnvies_4 {a k : Nat} (hf : Nf_X12_allEnvies  a k) : ∀ (n : Nat) (v1 : Int32) (v2 : Int32) (z : St)  (Rz : Int32 × St), fn_X12_allEnvies_4   n v1 v2 z = some Rz → SA z Rz.2 a k := by
  intro n
  induction n with
  | zero => intro v1 v2 z  Rz h; cases h
  | succ n ih =>
    intro v1 v2 z  Rz h
    rw [fn_X12_allEnvies_4] at h
    rcases Decidable.em ((z.1 172 44) ≤ v2) with c1 | c1
    · rw [if_pos c1] at h
      cases h
      exact SA.rf
    · rw [if_neg c1] at h
      exact ff_X12_allEnvies_14  hf  ih fu v1 v2 0 z  _ h
theorem ff_X12_allEnvies {a k : Nat}  {z : St} {Rz : Int32 × St}  (hf : Nf_X12_allEnvies  a k) (h : fn_X12_allEnvies   z = some Rz) : SA z Rz.2 a k := by
  unfold fn_X12_allEnvies at h
  exact ff_X12_allEnvies_4  hf   fu 0 0 z  _ h
theorem ff_X12_envies {a k : Nat} {v1 : Int32} {z : St} {Rz : Int32 × St}  (hf : Nf_X12_envies  a k) (h : fn_X12_envies  v1 z = some Rz) : SA z Rz.2 a k := by
  unfold fn_X12_envies at h
  obtain ⟨r2, z3, h1, h⟩ := bd_s h
  refine SA.tr (ff_X12_isGuest   trivial h1) ?_
  rcases Decidable.em (r2 = 0) with c4 | c4
  · rw [if_pos c4] at h
    cases h
    exact SA.rf
  · rw [if_neg c4] at h
    obtain ⟨z6, h5, h⟩ := bv_s h
    refine SA.tr (ff_X12_load   hf.1 h5) ?_
    obtain ⟨r8, z9, h7, h⟩ := bd_s h
    refine SA.tr (ff_X12_enviedBy   ⟨hf.2.1, hf.2.2⟩ h7) ?_
    cases h
    exact SA.rf
theorem ff_X12_quarrel {a k : Nat}  {z : St} {Rz : Int32 × St}  (hf : Nf_X12_quarrel  a k) (h : fn_X12_quarrel   z = some Rz) : SA z Rz.2 a k := by
  unfold fn_X12_quarrel at h
  obtain ⟨z2, h1, h⟩ := bv_s h
  refine SA.tr (ff_X12_load   hf.1 h1) ?_
  obtain ⟨r4, z5, h3, h⟩ := bd_s h
  refine SA.tr (ff_X12_allEnvies   ⟨hf.2.1, hf.2.2⟩ h3) ?_
  cases h
  exact SA.rf
theorem ff_X12_calm_139 {a k : Nat} (hf : Nf_X12_calm  a k) {k25 : Int32 → Int32 → Int32 → Int32 → St → Option (Int32 × St)} (hk_25 : ∀ (v1 : Int32) (v2 : Int32) (v3 : Int32) (v4 : Int32) (z : St)  (Rz : Int32 × St), k25 v1 v2 v3 v4 z = some Rz → SA z Rz.2 a k) {k40 : Int32 → Int32 → Int32 → Int32 → Int32 → St → Option (Int32 × St)} (hk_40 : ∀ (v1 : Int32) (v2 : Int32) (v3 : Int32) (v4 : Int32) (v5 : Int32) (z : St)  (Rz : Int32 × St), k40 v1 v2 v3 v4 v5 z = some Rz → SA z Rz.2 a k) (v1 : Int32) (v2 : Int32) (v3 : Int32) (v4 : Int32) (v5 : Int32) (z : St)  {Rz : Int32 × St} (h : fn_X12_calm_139  k25 k40 v1 v2 v3 v4 v5 z = some Rz) : SA z Rz.2 a k := by
  unfold fn_X12_calm_139 at h
  exact hk_40 v1 v2 v3 v4 (v5 + 1) z  _ h
theorem ff_X12_calm_40 {a k : Nat} (hf : Nf_X12_calm  a k) {k25 : Int32 → Int32 → Int32 → Int32 → St → Option (Int32 × St)} (hk_25 : ∀ (v1 : Int32) (v2 : Int32) (v3 : Int32) (v4 : Int32) (z : St)  (Rz : Int32 × St), k25 v1 v2 v3 v4 z = some Rz → SA z Rz.2 a k) : ∀ (n : Nat) (v1 : Int32) (v2 : Int32) (v3 : Int32) (v4 : Int32) (v5 : Int32) (z : St)  (Rz : Int32 × St), fn_X12_calm_40  k25 n v1 v2 v3 v4 v5 z = some Rz → SA z Rz.2 a k := by
  intro n
  induction n with
  | zero => intro v1 v2 v3 v4 v5 z  Rz h; cases h
  | succ n ih =>
    intro v1 v2 v3 v4 v5 z  Rz h
    rw [fn_X12_calm_40] at h
    rcases Decidable.em ((z.1 172 44) ≤ v5) with c1 | c1
    · rw [if_pos c1] at h
      exact hk_25 v1 v2 v3 (v4 + 1) z  _ h
    · rw [if_neg c1] at h
      obtain ⟨z3, h2, h⟩ := bv_s h
      refine SA.tr (ff_X12_load   hf.1 h2) ?_
      obtain ⟨r5, z6, h4, h⟩ := bd_s h
      refine SA.tr (ff_X12_pieceOf   trivial h4) ?_
      obtain ⟨r8, z9, h7, h⟩ := bd_s h
      refine SA.tr (ff_X12_pieceOf   trivial h7) ?_
      rcases Decidable.em (r5 < 0) with c10 | c10
      · rw [if_pos c10] at h
        exact ff_X12_calm_139  hf  hk_25 ih v1 v2 v3 v4 v5 z9  h
      · rw [if_neg c10] at h
        rcases Decidable.em (0 ≤ r8) with c11 | c11
        · rw [if_pos c11] at h
          obtain ⟨g12, h⟩ := gd_s h
          obtain ⟨z13, e_z13, h⟩ := nm_s h
          refine SA.tr (sa_Ia e_z13 hf.1) ?_
          obtain ⟨g14, h⟩ := gd_s h
          obtain ⟨z15, e_z15, h⟩ := nm_s h
          refine SA.tr (sa_Ia e_z15 hf.1) ?_
          obtain ⟨r17, z18, h16, h⟩ := bd_s h
          refine SA.tr (ff_X12_allEnvies   ⟨hf.2.1, hf.2.2⟩ h16) ?_
          rcases Decidable.em (r17 < v2) with c19 | c19
          · rw [if_pos c19] at h
            obtain ⟨v3_20, e_v3_20, h⟩ := nm_s h
            exact ff_X12_calm_139  hf  hk_25 ih v1 r17 v3_20 v4 v5 z18  h
          · rw [if_neg c19] at h
            exact ff_X12_calm_139  hf  hk_25 ih v1 v2 v3 v4 v5 z18  h
        · rw [if_neg c11] at h
          exact ff_X12_calm_139  hf  hk_25 ih v1 v2 v3 v4 v5 z9  h
theorem ff_X12_calm_25 {a k : Nat} (hf : Nf_X12_calm  a k) : ∀ (n : Nat) (v1 : Int32) (v2 : Int32) (v3 : Int32) (v4 : Int32) (z : St)  (Rz : Int32 × St), fn_X12_calm_25   n v1 v2 v3 v4 z = some Rz → SA z Rz.2 a k := by
  intro n
  induction n with
  | zero => intro v1 v2 v3 v4 z  Rz h; cases h
  | succ n ih =>
    intro v1 v2 v3 v4 z  Rz h
    rw [fn_X12_calm_25] at h
    rcases Decidable.em ((z.1 172 44) ≤ v4) with c1 | c1
    · rw [if_pos c1] at h
      rcases Decidable.em (0 ≤ v3) with c2 | c2
      · rw [if_pos c2] at h
        rcases Decidable.em (v1 = 0) with c3 | c3
        · rw [if_pos c3] at h
          cases h
          exact SA.rf
        · rw [if_neg c3] at h
          rcases Decidable.em (v1 = 1) with c4 | c4
          · rw [if_pos c4] at h
            cases h
            exact SA.rf
          · rw [if_neg c4] at h
            cases h
            exact SA.rf
      · rw [if_neg c2] at h
        cases h
        exact SA.rf
    · rw [if_neg c1] at h
      obtain ⟨v5_5, e_v5_5, h⟩ := nm_s h
      exact ff_X12_calm_40  hf  ih fu v1 v2 v3 v4 v5_5 z  _ h
theorem ff_X12_calm {a k : Nat} {v1 : Int32} {z : St} {Rz : Int32 × St}  (hf : Nf_X12_calm  a k) (h : fn_X12_calm  v1 z = some Rz) : SA z Rz.2 a k := by
  unfold fn_X12_calm at h
  obtain ⟨r2, z3, h1, h⟩ := bd_s h
  refine SA.tr (ff_X12_isIn   trivial h1) ?_
  rcases Decidable.em (r2 = 0) with c4 | c4
  · rw [if_pos c4] at h
    cases h
    exact SA.rf
  · rw [if_neg c4] at h
    obtain ⟨z6, h5, h⟩ := bv_s h
    refine SA.tr (ff_X12_load   hf.1 h5) ?_
    obtain ⟨r8, z9, h7, h⟩ := bd_s h
    refine SA.tr (ff_X12_allEnvies   ⟨hf.2.1, hf.2.2⟩ h7) ?_
    exact ff_X12_calm_25  hf   fu v1 r8 (-1) 0 z9  _ h
theorem ff_X12_layHalve_139 {a k : Nat} (hf : Nf_X12_layHalve  a k) {k8 : Int32 → Int32 → Int32 → Int32 → St → Option (St)} (hk_8 : ∀ (v1 : Int32) (v2 : Int32) (v3 : Int32) (v4 : Int32) (z : St)  (Rz : St), k8 v1 v2 v3 v4 z = some Rz → SA z Rz a k) (v1 : Int32) (v2 : Int32) (v3 : Int32) (v4 : Int32) (z : St)  {Rz : St} (h : fn_X12_layHalve_139  k8 v1 v2 v3 v4 z = some Rz) : SA z Rz a k := by
  unfold fn_X12_layHalve_139 at h
  exact hk_8 v1 v2 v3 (v4 + 1) z  _ h
theorem ff_X12_layHalve_121 {a k : Nat} (hf : Nf_X12_layHalve  a k) {k8 : Int32 → Int32 → Int32 → Int32 → St → Option (St)} (hk_8 : ∀ (v1 : Int32) (v2 : Int32) (v3 : Int32) (v4 : Int32) (z : St)  (Rz : St), k8 v1 v2 v3 v4 z = some Rz → SA z Rz a k) (v1 : Int32) (v2 : Int32) (v3 : Int32) (v4 : Int32) (v6 : Int32) (v7 : Int32) (z : St)  {Rz : St} (h : fn_X12_layHalve_121  k8 v1 v2 v3 v4 v6 v7 z = some Rz) : SA z Rz a k := by
  unfold fn_X12_layHalve_121 at h
  obtain ⟨z1, e_z1, h⟩ := nm_s h
  refine SA.tr (sa_I e_z1 hf.1) ?_
  obtain ⟨z2, e_z2, h⟩ := nm_s h
  refine SA.tr (sa_I e_z2 hf.2.1) ?_
  obtain ⟨z3, e_z3, h⟩ := nm_s h
  refine SA.tr (sa_I e_z3 hf.2.2.1) ?_
  exact ff_X12_layHalve_139  hf  hk_8 v1 v2 v3 v4 z3  h
theorem ff_X12_layHalve_97 {a k : Nat} (hf : Nf_X12_layHalve  a k) {k8 : Int32 → Int32 → Int32 → Int32 → St → Option (St)} (hk_8 : ∀ (v1 : Int32) (v2 : Int32) (v3 : Int32) (v4 : Int32) (z : St)  (Rz : St), k8 v1 v2 v3 v4 z = some Rz → SA z Rz a k) (v1 : Int32) (v2 : Int32) (v3 : Int32) (v4 : Int32) (v6 : Int32) (tv1 : Int32) (tv2 : Int32) (z : St)  {Rz : St} (h : fn_X12_layHalve_97  k8 v1 v2 v3 v4 v6 tv1 tv2 z = some Rz) : SA z Rz a k := by
  unfold fn_X12_layHalve_97 at h
  obtain ⟨r2, z3, h1, h⟩ := bd_s h
  refine SA.tr (ff_X12_worthOf   ⟨hf.2.2.2.1, hf.2.2.2.2.1⟩ h1) ?_
  rcases Decidable.em ((z3.1 172 58) < 0) with c4 | c4
  · rw [if_pos c4] at h
    exact ff_X12_layHalve_121  hf  hk_8 v1 v2 v3 v4 v6 r2 z3  h
  · rw [if_neg c4] at h
    rcases Decidable.em ((z3.1 172 60) < r2) with c5 | c5
    · rw [if_pos c5] at h
      exact ff_X12_layHalve_121  hf  hk_8 v1 v2 v3 v4 v6 r2 z3  h
    · rw [if_neg c5] at h
      exact ff_X12_layHalve_139  hf  hk_8 v1 v2 v3 v4 z3  h
theorem ff_X12_layHalve_78 {a k : Nat} (hf : Nf_X12_layHalve  a k) {k8 : Int32 → Int32 → Int32 → Int32 → St → Option (St)} (hk_8 : ∀ (v1 : Int32) (v2 : Int32) (v3 : Int32) (v4 : Int32) (z : St)  (Rz : St), k8 v1 v2 v3 v4 z = some Rz → SA z Rz a k) (v1 : Int32) (v2 : Int32) (v3 : Int32) (v4 : Int32) (v5 : Int32) (tv0 : Int32) (z : St)  {Rz : St} (h : fn_X12_layHalve_78  k8 v1 v2 v3 v4 v5 tv0 z = some Rz) : SA z Rz a k := by
  unfold fn_X12_layHalve_78 at h
  obtain ⟨r2, z3, h1, h⟩ := bd_s h
  refine SA.tr (ff_X12_truth   trivial h1) ?_
  rcases Decidable.em (r2 = 1) with c4 | c4
  · rw [if_pos c4] at h
    exact ff_X12_layHalve_97  hf  hk_8 v1 v2 v3 v4 r2 v2 v1 z3  h
  · rw [if_neg c4] at h
    exact ff_X12_layHalve_97  hf  hk_8 v1 v2 v3 v4 r2 v2 v5 z3  h
theorem ff_X12_layHalve_8 {a k : Nat} (hf : Nf_X12_layHalve  a k) : ∀ (n : Nat) (v1 : Int32) (v2 : Int32) (v3 : Int32) (v4 : Int32) (z : St)  (Rz : St), fn_X12_layHalve_8   n v1 v2 v3 v4 z = some Rz → SA z Rz a k := by
  intro n
  induction n with
  | zero => intro v1 v2 v3 v4 z  Rz h; cases h
  | succ n ih =>
    intro v1 v2 v3 v4 z  Rz h
    rw [fn_X12_layHalve_8] at h
    rcases Decidable.em (16 ≤ v4) with c1 | c1
    · rw [if_pos c1] at h
      cases h
      exact SA.rf
    · rw [if_neg c1] at h
      obtain ⟨z3, h2, h⟩ := bv_s h
      refine SA.tr (ff_X12_load   hf.2.2.2.2.2 h2) ?_
      obtain ⟨r5, z6, h4, h⟩ := bd_s h
      refine SA.tr (ff_X12_canCut   trivial h4) ?_
      rcases Decidable.em (r5 = 0) with c7 | c7
      · rw [if_pos c7] at h
        exact ff_X12_layHalve_139  hf  ih v1 v2 v3 v4 z6  h
      · rw [if_neg c7] at h
        obtain ⟨r9, z10, h8, h⟩ := bd_s h
        refine SA.tr (ff_X12_goCut   hf.2.2.2.2.2 h8) ?_
        obtain ⟨r12, z13, h11, h⟩ := bd_s h
        refine SA.tr (ff_X12_worthOf   ⟨hf.2.2.2.1, hf.2.2.2.2.1⟩ h11) ?_
        obtain ⟨r15, z16, h14, h⟩ := bd_s h
        refine SA.tr (ff_X12_worthOf   ⟨hf.2.2.2.1, hf.2.2.2.2.1⟩ h14) ?_
        rcases Decidable.em (r12 ≤ r15) with c17 | c17
        · rw [if_pos c17] at h
          exact ff_X12_layHalve_78  hf  ih v1 v2 v3 v4 r9 0 z16  h
        · rw [if_neg c17] at h
          exact ff_X12_layHalve_78  hf  ih v1 v2 v3 v4 r9 1 z16  h
theorem ff_X12_layHalve {a k : Nat} {v1 : Int32} {v2 : Int32} {v3 : Int32} {z : St} {Rz : St}  (hf : Nf_X12_layHalve  a k) (h : fn_X12_layHalve  v1 v2 v3 z = some Rz) : SA z Rz a k := by
  unfold fn_X12_layHalve at h
  obtain ⟨z1, e_z1, h⟩ := nm_s h
  refine SA.tr (sa_I e_z1 hf.1) ?_
  exact ff_X12_layHalve_8  hf   fu v1 v2 v3 0 z1  _ h
theorem ff_X12_canHalve {a k : Nat} {v1 : Int32} {v2 : Int32} {v3 : Int32} {z : St} {Rz : Int32 × St}  (hf : Nf_X12_canHalve  a k) (h : fn_X12_canHalve  v1 v2 v3 z = some Rz) : SA z Rz.2 a k := by
  unfold fn_X12_canHalve at h
  obtain ⟨r2, z3, h1, h⟩ := bd_s h
  refine SA.tr (ff_X12_isPiece   trivial h1) ?_
  rcases Decidable.em (r2 = 0) with c4 | c4
  · rw [if_pos c4] at h
    cases h
    exact SA.rf
  · rw [if_neg c4] at h
    obtain ⟨r6, z7, h5, h⟩ := bd_s h
    refine SA.tr (ff_X12_isGuest   trivial h5) ?_
    rcases Decidable.em (r6 = 0) with c8 | c8
    · rw [if_pos c8] at h
      cases h
      exact SA.rf
    · rw [if_neg c8] at h
      obtain ⟨r10, z11, h9, h⟩ := bd_s h
      refine SA.tr (ff_X12_isGuest   trivial h9) ?_
      rcases Decidable.em (r10 = 0) with c12 | c12
      · rw [if_pos c12] at h
        cases h
        exact SA.rf
      · rw [if_neg c12] at h
        rcases Decidable.em (v2 = v3) with c13 | c13
        · rw [if_pos c13] at h
          cases h
          exact SA.rf
        · rw [if_neg c13] at h
          cases h
          exact SA.rf
theorem ff_X12_halve {a k : Nat} {v1 : Int32} {v2 : Int32} {v3 : Int32} {v4 : Int32} {z : St} {Rz : Int32 × St}  (hf : Nf_X12_halve  a k) (h : fn_X12_halve  v1 v2 v3 v4 z = some Rz) : SA z Rz.2 a k := by
  unfold fn_X12_halve at h
  obtain ⟨r2, z3, h1, h⟩ := bd_s h
  refine SA.tr (ff_X12_canHalve   trivial h1) ?_
  rcases Decidable.em (r2 = 0) with c4 | c4
  · rw [if_pos c4] at h
    cases h
    exact SA.rf
  · rw [if_neg c4] at h
    obtain ⟨r6, z7, h5, h⟩ := bd_s h
    refine SA.tr (ff_X12_isIn   trivial h5) ?_
    rcases Decidable.em (r6 = 0) with c8 | c8
    · rw [if_pos c8] at h
      cases h
      exact SA.rf
    · rw [if_neg c8] at h
      obtain ⟨z10, h9, h⟩ := bv_s h
      refine SA.tr (ff_X12_layHalve   ⟨hf.1, hf.2.1, hf.2.2.1, hf.2.2.2.1, hf.2.2.2.2.1, hf.2.2.2.2.2⟩ h9) ?_
      rcases Decidable.em (0 ≤ (z10.1 172 58)) with c11 | c11
      · rw [if_pos c11] at h
        rcases Decidable.em (v4 = 0) with c12 | c12
        · rw [if_pos c12] at h
          cases h
          exact SA.rf
        · rw [if_neg c12] at h
          rcases Decidable.em (v4 = 1) with c13 | c13
          · rw [if_pos c13] at h
            cases h
            exact SA.rf
          · rw [if_neg c13] at h
            cases h
            exact SA.rf
      · rw [if_neg c11] at h
        cases h
        exact SA.rf
theorem ff_X12_share {a k : Nat} {v1 : Int32} {v2 : Int32} {v3 : Int32} {z : St} {Rz : Int32 × St}  (hf : Nf_X12_share  a k) (h : fn_X12_share  v1 v2 v3 z = some Rz) : SA z Rz.2 a k := by
  unfold fn_X12_share at h
  obtain ⟨r2, z3, h1, h⟩ := bd_s h
  refine SA.tr (ff_X12_canHalve   trivial h1) ?_
  rcases Decidable.em (r2 = 0) with c4 | c4
  · rw [if_pos c4] at h
    cases h
    exact SA.rf
  · rw [if_neg c4] at h
    obtain ⟨z6, h5, h⟩ := bv_s h
    refine SA.tr (ff_X12_layHalve   ⟨hf.1, hf.2.1, hf.2.2.1, hf.2.2.2.1, hf.2.2.2.2.1, hf.2.2.2.2.2⟩ h5) ?_
    rcases Decidable.em (0 ≤ (z6.1 172 58)) with c7 | c7
    · rw [if_pos c7] at h
      cases h
      exact SA.rf
    · rw [if_neg c7] at h
      cases h
      exact SA.rf
theorem ff_X12_layWorths_16 {a k : Nat} (hf : Nf_X12_layWorths  a k) {k6 : Int32 → St → Option (St)} (hk_6 : ∀ (v1 : Int32) (z : St)  (Rz : St), k6 v1 z = some Rz → SA z Rz a k) : ∀ (n : Nat) (v1 : Int32) (v2 : Int32) (z : St)  (Rz : St), fn_X12_layWorths_16  k6 n v1 v2 z = some Rz → SA z Rz a k := by
  intro n
  induction n with
  | zero => intro v1 v2 z  Rz h; cases h
  | succ n ih =>
    intro v1 v2 z  Rz h
    rw [fn_X12_layWorths_16] at h
    rcases Decidable.em ((z.1 198 (Int32.toNatClampNeg 168)) ≤ v2) with c1 | c1
    · rw [if_pos c1] at h
      exact hk_6 (v1 + 1) z  _ h
    · rw [if_neg c1] at h
      obtain ⟨r3, z4, h2, h⟩ := bd_s h
      refine SA.tr (ff_X12_worthOf   ⟨hf.1, hf.2.1⟩ h2) ?_
      obtain ⟨g5, h⟩ := gd_s h
      obtain ⟨z6, e_z6, h⟩ := nm_s h
      refine SA.tr (sa_Ia e_z6 hf.2.2.1) ?_
      exact ih v1 (v2 + 1) z6  _ h
theorem ff_X12_layWorths_6 {a k : Nat} (hf : Nf_X12_layWorths  a k) : ∀ (n : Nat) (v1 : Int32) (z : St)  (Rz : St), fn_X12_layWorths_6   n v1 z = some Rz → SA z Rz a k := by
  intro n
  induction n with
  | zero => intro v1 z  Rz h; cases h
  | succ n ih =>
    intro v1 z  Rz h
    rw [fn_X12_layWorths_6] at h
    rcases Decidable.em ((z.1 172 44) ≤ v1) with c1 | c1
    · rw [if_pos c1] at h
      cases h
      exact SA.rf
    · rw [if_neg c1] at h
      exact ff_X12_layWorths_16  hf  ih fu v1 0 z  _ h
theorem ff_X12_layWorths {a k : Nat}  {z : St} {Rz : St}  (hf : Nf_X12_layWorths  a k) (h : fn_X12_layWorths   z = some Rz) : SA z Rz a k := by
  unfold fn_X12_layWorths at h
  obtain ⟨z2, h1, h⟩ := bv_s h
  refine SA.tr (ff_X12_load   hf.2.2.2 h1) ?_
  exact ff_X12_layWorths_6  hf   fu 0 z2  _ h
theorem ff_X12_bestFor_69 {a k : Nat} (hf : Nf_X12_bestFor  a k) {k5 : Int32 → Int32 → Int32 → Int32 → St → Option (Int32 × St)} (hk_5 : ∀ (v1 : Int32) (v2 : Int32) (v3 : Int32) (v4 : Int32) (z : St)  (Rz : Int32 × St), k5 v1 v2 v3 v4 z = some Rz → SA z Rz.2 a k) (v1 : Int32) (v2 : Int32) (v3 : Int32) (v4 : Int32) (z : St)  {Rz : Int32 × St} (h : fn_X12_bestFor_69  k5 v1 v2 v3 v4 z = some Rz) : SA z Rz.2 a k := by
  unfold fn_X12_bestFor_69 at h
  exact hk_5 v1 v2 v3 (v4 + 1) z  _ h
theorem ff_X12_bestFor_66 {a k : Nat} (hf : Nf_X12_bestFor  a k) {k5 : Int32 → Int32 → Int32 → Int32 → St → Option (Int32 × St)} (hk_5 : ∀ (v1 : Int32) (v2 : Int32) (v3 : Int32) (v4 : Int32) (z : St)  (Rz : Int32 × St), k5 v1 v2 v3 v4 z = some Rz → SA z Rz.2 a k) (v1 : Int32) (v2 : Int32) (v4 : Int32) (z : St)  {Rz : Int32 × St} (h : fn_X12_bestFor_66  k5 v1 v2 v4 z = some Rz) : SA z Rz.2 a k := by
  unfold fn_X12_bestFor_66 at h
  exact ff_X12_bestFor_69  hf  hk_5 v1 v2 v4 v4 z  h
theorem ff_X12_bestFor_5 {a k : Nat} (hf : Nf_X12_bestFor  a k) : ∀ (n : Nat) (v1 : Int32) (v2 : Int32) (v3 : Int32) (v4 : Int32) (z : St)  (Rz : Int32 × St), fn_X12_bestFor_5   n v1 v2 v3 v4 z = some Rz → SA z Rz.2 a k := by
  intro n
  induction n with
  | zero => intro v1 v2 v3 v4 z  Rz h; cases h
  | succ n ih =>
    intro v1 v2 v3 v4 z  Rz h
    rw [fn_X12_bestFor_5] at h
    rcases Decidable.em ((z.1 198 (Int32.toNatClampNeg 168)) ≤ v4) with c1 | c1
    · rw [if_pos c1] at h
      cases h
      exact SA.rf
    · rw [if_neg c1] at h
      obtain ⟨r3, z4, h2, h⟩ := bd_s h
      refine SA.tr (ff_X12_isFree   trivial h2) ?_
      rcases Decidable.em (r3 = 0) with c5 | c5
      · rw [if_pos c5] at h
        exact ff_X12_bestFor_69  hf  ih v1 v2 v3 v4 z4  h
      · rw [if_neg c5] at h
        rcases Decidable.em (((v2 >>> (v4 &&& 31)) &&& 1) = 0) with c6 | c6
        · rw [if_pos c6] at h
          rcases Decidable.em (v3 < 0) with c7 | c7
          · rw [if_pos c7] at h
            exact ff_X12_bestFor_66  hf  ih v1 v2 v4 z4  h
          · rw [if_neg c7] at h
            obtain ⟨g8, h⟩ := gd_s h
            obtain ⟨g9, h⟩ := gd_s h
            rcases Decidable.em ((z4.1 202 (Int32.toNatClampNeg ((24 * v1) + v4))) ≤ (z4.1 202 (Int32.toNatClampNeg ((24 * v1) + v3)))) with c10 | c10
            · rw [if_pos c10] at h
              exact ff_X12_bestFor_69  hf  ih v1 v2 v3 v4 z4  h
            · rw [if_neg c10] at h
              exact ff_X12_bestFor_66  hf  ih v1 v2 v4 z4  h
        · rw [if_neg c6] at h
          exact ff_X12_bestFor_69  hf  ih v1 v2 v3 v4 z4  h
theorem ff_X12_bestFor {a k : Nat} {v1 : Int32} {v2 : Int32} {z : St} {Rz : Int32 × St}  (hf : Nf_X12_bestFor  a k) (h : fn_X12_bestFor  v1 v2 z = some Rz) : SA z Rz.2 a k := by
  unfold fn_X12_bestFor at h
  exact ff_X12_bestFor_5  hf   fu v1 v2 (-1) 0 z  _ h
theorem ff_X12_picks_64 {a k : Nat} (hf : Nf_X12_picks  a k) {k10 : Int32 → Int32 → Int32 → St → Option (Int32 × St)} (hk_10 : ∀ (v1 : Int32) (v2 : Int32) (v3 : Int32) (z : St)  (Rz : Int32 × St), k10 v1 v2 v3 z = some Rz → SA z Rz.2 a k) (v1 : Int32) (v2 : Int32) (v3 : Int32) (z : St)  {Rz : Int32 × St} (h : fn_X12_picks_64  k10 v1 v2 v3 z = some Rz) : SA z Rz.2 a k := by
  unfold fn_X12_picks_64 at h
  exact hk_10 v1 v2 (v3 + 1) z  _ h
theorem ff_X12_picks_36 {a k : Nat} (hf : Nf_X12_picks  a k) {k10 : Int32 → Int32 → Int32 → St → Option (Int32 × St)} (hk_10 : ∀ (v1 : Int32) (v2 : Int32) (v3 : Int32) (z : St)  (Rz : Int32 × St), k10 v1 v2 v3 z = some Rz → SA z Rz.2 a k) (v1 : Int32) (v2 : Int32) (v3 : Int32) (tv0 : Int32) (z : St)  {Rz : Int32 × St} (h : fn_X12_picks_36  k10 v1 v2 v3 tv0 z = some Rz) : SA z Rz.2 a k := by
  unfold fn_X12_picks_36 at h
  obtain ⟨g1, h⟩ := gd_s h
  obtain ⟨z2, e_z2, h⟩ := nm_s h
  refine SA.tr (sa_Ia e_z2 hf.1) ?_
  rcases Decidable.em (0 ≤ tv0) with c3 | c3
  · rw [if_pos c3] at h
    obtain ⟨v1_4, e_v1_4, h⟩ := nm_s h
    exact ff_X12_picks_64  hf  hk_10 v1_4 (v2 + 1) v3 z2  h
  · rw [if_neg c3] at h
    exact ff_X12_picks_64  hf  hk_10 v1 v2 v3 z2  h
theorem ff_X12_picks_10 {a k : Nat} (hf : Nf_X12_picks  a k) : ∀ (n : Nat) (v1 : Int32) (v2 : Int32) (v3 : Int32) (z : St)  (Rz : Int32 × St), fn_X12_picks_10   n v1 v2 v3 z = some Rz → SA z Rz.2 a k := by
  intro n
  induction n with
  | zero => intro v1 v2 v3 z  Rz h; cases h
  | succ n ih =>
    intro v1 v2 v3 z  Rz h
    rw [fn_X12_picks_10] at h
    rcases Decidable.em ((z.1 172 44) ≤ v3) with c1 | c1
    · rw [if_pos c1] at h
      obtain ⟨z2, e_z2, h⟩ := nm_s h
      refine SA.tr (sa_I e_z2 hf.2.1) ?_
      cases h
      exact SA.rf
    · rw [if_neg c1] at h
      obtain ⟨r4, z5, h3, h⟩ := bd_s h
      refine SA.tr (ff_X12_pieceOf   trivial h3) ?_
      rcases Decidable.em (r4 < 0) with c6 | c6
      · rw [if_pos c6] at h
        obtain ⟨r8, z9, h7, h⟩ := bd_s h
        refine SA.tr (ff_X12_bestFor   trivial h7) ?_
        exact ff_X12_picks_36  hf  ih v1 v2 v3 r8 z9  h
      · rw [if_neg c6] at h
        exact ff_X12_picks_36  hf  ih v1 v2 v3 (-1) z5  h
theorem ff_X12_picks {a k : Nat}  {z : St} {Rz : Int32 × St}  (hf : Nf_X12_picks  a k) (h : fn_X12_picks   z = some Rz) : SA z Rz.2 a k := by
  unfold fn_X12_picks at h
  obtain ⟨z2, h1, h⟩ := bv_s h
  refine SA.tr (ff_X12_layWorths   ⟨hf.2.2.1, hf.2.2.2.1, hf.2.2.2.2.1, hf.2.2.2.2.2⟩ h1) ?_
  exact ff_X12_picks_10  hf   fu 0 0 0 z2  _ h
theorem ff_X12_leastBy_84 {a k : Nat} (hf : Nf_X12_leastBy  a k) {k9 : Int32 → Int32 → Int32 → Int32 → St → Option (Int32 × St)} (hk_9 : ∀ (v1 : Int32) (v2 : Int32) (v3 : Int32) (v4 : Int32) (z : St)  (Rz : Int32 × St), k9 v1 v2 v3 v4 z = some Rz → SA z Rz.2 a k) (v1 : Int32) (v2 : Int32) (v3 : Int32) (v4 : Int32) (z : St)  {Rz : Int32 × St} (h : fn_X12_leastBy_84  k9 v1 v2 v3 v4 z = some Rz) : SA z Rz.2 a k := by
  unfold fn_X12_leastBy_84 at h
  exact hk_9 v1 v2 v3 (v4 + 1) z  _ h
theorem ff_X12_leastBy_81 {a k : Nat} (hf : Nf_X12_leastBy  a k) {k9 : Int32 → Int32 → Int32 → Int32 → St → Option (Int32 × St)} (hk_9 : ∀ (v1 : Int32) (v2 : Int32) (v3 : Int32) (v4 : Int32) (z : St)  (Rz : Int32 × St), k9 v1 v2 v3 v4 z = some Rz → SA z Rz.2 a k) (v1 : Int32) (v2 : Int32) (v4 : Int32) (v6 : Int32) (z : St)  {Rz : Int32 × St} (h : fn_X12_leastBy_81  k9 v1 v2 v4 v6 z = some Rz) : SA z Rz.2 a k := by
  unfold fn_X12_leastBy_81 at h
  exact ff_X12_leastBy_84  hf  hk_9 v1 v2 v6 v4 z  h
theorem ff_X12_leastBy_70 {a k : Nat} (hf : Nf_X12_leastBy  a k) {k9 : Int32 → Int32 → Int32 → Int32 → St → Option (Int32 × St)} (hk_9 : ∀ (v1 : Int32) (v2 : Int32) (v3 : Int32) (v4 : Int32) (z : St)  (Rz : Int32 × St), k9 v1 v2 v3 v4 z = some Rz → SA z Rz.2 a k) (v1 : Int32) (v2 : Int32) (v3 : Int32) (v4 : Int32) (v6 : Int32) (z : St)  {Rz : Int32 × St} (h : fn_X12_leastBy_70  k9 v1 v2 v3 v4 v6 z = some Rz) : SA z Rz.2 a k := by
  unfold fn_X12_leastBy_70 at h
  rcases Decidable.em (v4 = 0) with c1 | c1
  · rw [if_pos c1] at h
    exact ff_X12_leastBy_81  hf  hk_9 v1 v2 v4 v6 z  h
  · rw [if_neg c1] at h
    rcases Decidable.em (v3 ≤ v6) with c2 | c2
    · rw [if_pos c2] at h
      exact ff_X12_leastBy_84  hf  hk_9 v1 v2 v3 v4 z  h
    · rw [if_neg c2] at h
      exact ff_X12_leastBy_81  hf  hk_9 v1 v2 v4 v6 z  h
theorem ff_X12_leastBy_56 {a k : Nat} (hf : Nf_X12_leastBy  a k) {k9 : Int32 → Int32 → Int32 → Int32 → St → Option (Int32 × St)} (hk_9 : ∀ (v1 : Int32) (v2 : Int32) (v3 : Int32) (v4 : Int32) (z : St)  (Rz : Int32 × St), k9 v1 v2 v3 v4 z = some Rz → SA z Rz.2 a k) (v1 : Int32) (v2 : Int32) (v3 : Int32) (v4 : Int32) (v5 : Int32) (tv0 : Int32) (z : St)  {Rz : Int32 × St} (h : fn_X12_leastBy_56  k9 v1 v2 v3 v4 v5 tv0 z = some Rz) : SA z Rz.2 a k := by
  unfold fn_X12_leastBy_56 at h
  rcases Decidable.em (v5 < 0) with c1 | c1
  · rw [if_pos c1] at h
    exact ff_X12_leastBy_70  hf  hk_9 v1 v2 v3 v4 tv0 z  h
  · rw [if_neg c1] at h
    obtain ⟨v2_2, e_v2_2, h⟩ := nm_s h
    exact ff_X12_leastBy_70  hf  hk_9 v1 v2_2 v3 v4 tv0 z  h
theorem ff_X12_leastBy_9 {a k : Nat} (hf : Nf_X12_leastBy  a k) : ∀ (n : Nat) (v1 : Int32) (v2 : Int32) (v3 : Int32) (v4 : Int32) (z : St)  (Rz : Int32 × St), fn_X12_leastBy_9   n v1 v2 v3 v4 z = some Rz → SA z Rz.2 a k := by
  intro n
  induction n with
  | zero => intro v1 v2 v3 v4 z  Rz h; cases h
  | succ n ih =>
    intro v1 v2 v3 v4 z  Rz h
    rw [fn_X12_leastBy_9] at h
    rcases Decidable.em (v1 ≤ v4) with c1 | c1
    · rw [if_pos c1] at h
      cases h
      exact SA.rf
    · rw [if_neg c1] at h
      obtain ⟨g2, h⟩ := gd_s h
      obtain ⟨r4, z5, h3, h⟩ := bd_s h
      refine SA.tr (ff_X12_bestFor   trivial h3) ?_
      rcases Decidable.em (0 ≤ r4) with c6 | c6
      · rw [if_pos c6] at h
        obtain ⟨g7, h⟩ := gd_s h
        obtain ⟨g8, h⟩ := gd_s h
        exact ff_X12_leastBy_56  hf  ih v1 v2 v3 v4 r4 (z5.1 202 (Int32.toNatClampNeg ((24 * (z5.1 203 (Int32.toNatClampNeg v4))) + r4))) z5  h
      · rw [if_neg c6] at h
        exact ff_X12_leastBy_56  hf  ih v1 v2 v3 v4 r4 0 z5  h
theorem ff_X12_leastBy {a k : Nat} {v1 : Int32} {z : St} {Rz : Int32 × St}  (hf : Nf_X12_leastBy  a k) (h : fn_X12_leastBy  v1 z = some Rz) : SA z Rz.2 a k := by
  unfold fn_X12_leastBy at h
  exact ff_X12_leastBy_9  hf   fu v1 0 (-1000000000) 0 z  _ h
theorem ff_X12_layTurn_11 {a k : Nat} (hf : Nf_X12_layTurn  a k) : ∀ (n : Nat) (v3 : Int32) (v4 : Int32) (v5 : Int32) (v6 : Int32) (z : St)  (Rz : Int32 × St), fn_X12_layTurn_11   n v3 v4 v5 v6 z = some Rz → SA z Rz.2 a k := by
  intro n
  induction n with
  | zero => intro v3 v4 v5 v6 z  Rz h; cases h
  | succ n ih =>
    intro v3 v4 v5 v6 z  Rz h
    rw [fn_X12_layTurn_11] at h
    rcases Decidable.em (v6 < 0) with c1 | c1
    · rw [if_pos c1] at h
      rcases Decidable.em (v5 = v3) with c2 | c2
      · rw [if_pos c2] at h
        cases h
        exact SA.rf
      · rw [if_neg c2] at h
        cases h
        exact SA.rf
    · rw [if_neg c1] at h
      obtain ⟨g3, h⟩ := gd_s h
      obtain ⟨z4, e_z4, h⟩ := nm_s h
      refine SA.tr (sa_Ia e_z4 hf) ?_
      obtain ⟨v4_5, e_v4_5, h⟩ := nm_s h
      obtain ⟨g6, h⟩ := gd_s h
      obtain ⟨v5_7, e_v5_7, h⟩ := nm_s h
      exact ih v3 v4_5 v5_7 (v6 + (-1)) z4  _ h
theorem ff_X12_layTurn {a k : Nat} {v1 : Int32} {v2 : Int32} {v3 : Int32} {z : St} {Rz : Int32 × St}  (hf : Nf_X12_layTurn  a k) (h : fn_X12_layTurn  v1 v2 v3 z = some Rz) : SA z Rz.2 a k := by
  unfold fn_X12_layTurn at h
  obtain ⟨v6_1, e_v6_1, h⟩ := nm_s h
  exact ff_X12_layTurn_11  hf   fu v3 v2 0 v6_1 z  _ h
theorem ff_X12_order_54 {a k : Nat} (hf : Nf_X12_order  a k) {k18 : Int32 → Int32 → Int32 → Int32 → St → Option (Int32 × St)} (hk_18 : ∀ (v1 : Int32) (v2 : Int32) (v3 : Int32) (v4 : Int32) (z : St)  (Rz : Int32 × St), k18 v1 v2 v3 v4 z = some Rz → SA z Rz.2 a k) (v1 : Int32) (v2 : Int32) (v3 : Int32) (v4 : Int32) (z : St)  {Rz : Int32 × St} (h : fn_X12_order_54  k18 v1 v2 v3 v4 z = some Rz) : SA z Rz.2 a k := by
  unfold fn_X12_order_54 at h
  exact hk_18 v1 v2 v3 (v4 + 1) z  _ h
theorem ff_X12_order_157 {a k : Nat} (hf : Nf_X12_order  a k) {k79 : Int32 → Int32 → Int32 → Int32 → Int32 → Int32 → St → Option (Int32 × St)} (hk_79 : ∀ (v1 : Int32) (v2 : Int32) (v3 : Int32) (v4 : Int32) (v5 : Int32) (v6 : Int32) (z : St)  (Rz : Int32 × St), k79 v1 v2 v3 v4 v5 v6 z = some Rz → SA z Rz.2 a k) (v1 : Int32) (v2 : Int32) (v3 : Int32) (v4 : Int32) (v5 : Int32) (v6 : Int32) (z : St)  {Rz : Int32 × St} (h : fn_X12_order_157  k79 v1 v2 v3 v4 v5 v6 z = some Rz) : SA z Rz.2 a k := by
  unfold fn_X12_order_157 at h
  exact hk_79 v1 v2 v3 v4 v5 (v6 + 1) z  _ h
theorem ff_X12_order_131 {a k : Nat} (hf : Nf_X12_order  a k) {k79 : Int32 → Int32 → Int32 → Int32 → Int32 → Int32 → St → Option (Int32 × St)} (hk_79 : ∀ (v1 : Int32) (v2 : Int32) (v3 : Int32) (v4 : Int32) (v5 : Int32) (v6 : Int32) (z : St)  (Rz : Int32 × St), k79 v1 v2 v3 v4 v5 v6 z = some Rz → SA z Rz.2 a k) : ∀ (n : Nat) (v1 : Int32) (v2 : Int32) (v3 : Int32) (v4 : Int32) (v5 : Int32) (v6 : Int32) (v8 : Int32) (z : St)  (Rz : Int32 × St), fn_X12_order_131  k79 n v1 v2 v3 v4 v5 v6 v8 z = some Rz → SA z Rz.2 a k := by
  intro n
  induction n with
  | zero => intro v1 v2 v3 v4 v5 v6 v8 z  Rz h; cases h
  | succ n ih =>
    intro v1 v2 v3 v4 v5 v6 v8 z  Rz h
    rw [fn_X12_order_131] at h
    rcases Decidable.em (v2 ≤ v8) with c1 | c1
    · rw [if_pos c1] at h
      exact ff_X12_order_157  hf  hk_79 v1 v2 v3 v4 v5 v6 z  h
    · rw [if_neg c1] at h
      obtain ⟨g2, h⟩ := gd_s h
      obtain ⟨g3, h⟩ := gd_s h
      obtain ⟨z4, e_z4, h⟩ := nm_s h
      refine SA.tr (sa_Ia e_z4 hf.1) ?_
      exact ih v1 v2 v3 v4 v5 v6 (v8 + 1) z4  _ h
theorem ff_X12_order_121 {a k : Nat} (hf : Nf_X12_order  a k) {k79 : Int32 → Int32 → Int32 → Int32 → Int32 → Int32 → St → Option (Int32 × St)} (hk_79 : ∀ (v1 : Int32) (v2 : Int32) (v3 : Int32) (v4 : Int32) (v5 : Int32) (v6 : Int32) (z : St)  (Rz : Int32 × St), k79 v1 v2 v3 v4 v5 v6 z = some Rz → SA z Rz.2 a k) (v1 : Int32) (v2 : Int32) (v3 : Int32) (v6 : Int32) (v7 : Int32) (z : St)  {Rz : Int32 × St} (h : fn_X12_order_121  k79 v1 v2 v3 v6 v7 z = some Rz) : SA z Rz.2 a k := by
  unfold fn_X12_order_121 at h
  exact ff_X12_order_131  hf  hk_79 fu v1 v2 v3 v7 1 v6 0 z  _ h
theorem ff_X12_order_166 {a k : Nat} (hf : Nf_X12_order  a k) : ∀ (n : Nat) (v2 : Int32) (v4 : Int32) (v6 : Int32) (z : St)  (Rz : Int32 × St), fn_X12_order_166   n v2 v4 v6 z = some Rz → SA z Rz.2 a k := by
  intro n
  induction n with
  | zero => intro v2 v4 v6 z  Rz h; cases h
  | succ n ih =>
    intro v2 v4 v6 z  Rz h
    rw [fn_X12_order_166] at h
    rcases Decidable.em (v2 ≤ v6) with c1 | c1
    · rw [if_pos c1] at h
      obtain ⟨z2, e_z2, h⟩ := nm_s h
      refine SA.tr (sa_I e_z2 hf.2.1) ?_
      cases h
      exact SA.rf
    · rw [if_neg c1] at h
      obtain ⟨g3, h⟩ := gd_s h
      obtain ⟨g4, h⟩ := gd_s h
      obtain ⟨z5, e_z5, h⟩ := nm_s h
      refine SA.tr (sa_Ia e_z5 hf.2.2.1) ?_
      exact ih v2 v4 (v6 + 1) z5  _ h
theorem ff_X12_order_79 {a k : Nat} (hf : Nf_X12_order  a k) : ∀ (n : Nat) (v1 : Int32) (v2 : Int32) (v3 : Int32) (v4 : Int32) (v5 : Int32) (v6 : Int32) (z : St)  (Rz : Int32 × St), fn_X12_order_79   n v1 v2 v3 v4 v5 v6 z = some Rz → SA z Rz.2 a k := by
  intro n
  induction n with
  | zero => intro v1 v2 v3 v4 v5 v6 z  Rz h; cases h
  | succ n ih =>
    intro v1 v2 v3 v4 v5 v6 z  Rz h
    rw [fn_X12_order_79] at h
    rcases Decidable.em (v3 ≤ v6) with c1 | c1
    · rw [if_pos c1] at h
      exact ff_X12_order_166  hf   fu v2 v4 0 z  _ h
    · rw [if_neg c1] at h
      obtain ⟨r3, z4, h2, h⟩ := bd_s h
      refine SA.tr (ff_X12_layTurn   hf.2.2.2.1 h2) ?_
      rcases Decidable.em (r3 = 0) with c5 | c5
      · rw [if_pos c5] at h
        exact ff_X12_order_157  hf  ih v1 v2 v3 v4 v5 v6 z4  h
      · rw [if_neg c5] at h
        obtain ⟨r7, z8, h6, h⟩ := bd_s h
        refine SA.tr (ff_X12_leastBy   trivial h6) ?_
        rcases Decidable.em (v5 = 0) with c9 | c9
        · rw [if_pos c9] at h
          exact ff_X12_order_121  hf  ih v1 v2 v3 v6 r7 z8  h
        · rw [if_neg c9] at h
          rcases Decidable.em (v4 < r7) with c10 | c10
          · rw [if_pos c10] at h
            exact ff_X12_order_121  hf  ih v1 v2 v3 v6 r7 z8  h
          · rw [if_neg c10] at h
            exact ff_X12_order_157  hf  ih v1 v2 v3 v4 v5 v6 z8  h
theorem ff_X12_order_18 {a k : Nat} (hf : Nf_X12_order  a k) : ∀ (n : Nat) (v1 : Int32) (v2 : Int32) (v3 : Int32) (v4 : Int32) (z : St)  (Rz : Int32 × St), fn_X12_order_18   n v1 v2 v3 v4 z = some Rz → SA z Rz.2 a k := by
  intro n
  induction n with
  | zero => intro v1 v2 v3 v4 z  Rz h; cases h
  | succ n ih =>
    intro v1 v2 v3 v4 z  Rz h
    rw [fn_X12_order_18] at h
    rcases Decidable.em ((z.1 172 44) ≤ v4) with c1 | c1
    · rw [if_pos c1] at h
      rcases Decidable.em (v2 = 0) with c2 | c2
      · rw [if_pos c2] at h
        cases h
        exact SA.rf
      · rw [if_neg c2] at h
        exact ff_X12_order_79  hf   fu v1 v2 v3 (-1000000000) 0 0 z  _ h
    · rw [if_neg c1] at h
      obtain ⟨r4, z5, h3, h⟩ := bd_s h
      refine SA.tr (ff_X12_pieceOf   trivial h3) ?_
      rcases Decidable.em (r4 < 0) with c6 | c6
      · rw [if_pos c6] at h
        obtain ⟨v1_7, e_v1_7, h⟩ := nm_s h
        obtain ⟨v3_8, e_v3_8, h⟩ := nm_s h
        exact ff_X12_order_54  hf  ih v1_7 (v2 + 1) v3_8 v4 z5  h
      · rw [if_neg c6] at h
        exact ff_X12_order_54  hf  ih v1 v2 v3 v4 z5  h
theorem ff_X12_order {a k : Nat}  {z : St} {Rz : Int32 × St}  (hf : Nf_X12_order  a k) (h : fn_X12_order   z = some Rz) : SA z Rz.2 a k := by
  unfold fn_X12_order at h
  obtain ⟨z1, e_z1, h⟩ := nm_s h
  refine SA.tr (sa_I e_z1 hf.2.1) ?_
  obtain ⟨z3, h2, h⟩ := bv_s h
  refine SA.tr (ff_X12_layWorths   ⟨hf.2.2.2.2.1, hf.2.2.2.2.2.1, hf.2.2.2.2.2.2.1, hf.2.2.2.2.2.2.2⟩ h2) ?_
  exact ff_X12_order_18  hf   fu 0 0 1 0 z3  _ h
theorem ff_X12_isGrid {a k : Nat} {v1 : Int32} {v2 : Int32} {v3 : Int32} {z : St} {Rz : Int32 × St}  (hf : Nf_X12_isGrid  a k) (h : fn_X12_isGrid  v1 v2 v3 z = some Rz) : SA z Rz.2 a k := by
  unfold fn_X12_isGrid at h
  obtain ⟨g1, h⟩ := gd_s h
  obtain ⟨g2, h⟩ := gd_s h
  rcases Decidable.em (((z.1 188 (Int32.toNatClampNeg v1)) - (z.1 188 (Int32.toNatClampNeg v1)) / v2 * v2) = 0) with c3 | c3
  · rw [if_pos c3] at h
    obtain ⟨g4, h⟩ := gd_s h
    obtain ⟨g5, h⟩ := gd_s h
    rcases Decidable.em (((z.1 189 (Int32.toNatClampNeg v1)) - (z.1 189 (Int32.toNatClampNeg v1)) / v3 * v3) = 0) with c6 | c6
    · rw [if_pos c6] at h
      cases h
      exact SA.rf
    · rw [if_neg c6] at h
      cases h
      exact SA.rf
  · rw [if_neg c3] at h
    cases h
    exact SA.rf
theorem ff_X12_gridIcing_73 {a k : Nat} (hf : Nf_X12_gridIcing  a k) (tv0 : Int32) (tv1 : Int32) (tv2 : Int32) (tv3 : Int32) (z : St)  {Rz : Int32 × St} (h : fn_X12_gridIcing_73   tv0 tv1 tv2 tv3 z = some Rz) : SA z Rz.2 a k := by
  unfold fn_X12_gridIcing_73 at h
  obtain ⟨r2, z3, h1, h⟩ := bd_s h
  refine SA.tr (ff_X12_truth   trivial h1) ?_
  cases h
  exact SA.rf
theorem ff_X12_gridIcing_57 {a k : Nat} (hf : Nf_X12_gridIcing  a k) (v2 : Int32) (v4 : Int32) (tv0 : Int32) (tv1 : Int32) (tv2 : Int32) (z : St)  {Rz : Int32 × St} (h : fn_X12_gridIcing_57   v2 v4 tv0 tv1 tv2 z = some Rz) : SA z Rz.2 a k := by
  unfold fn_X12_gridIcing_57 at h
  obtain ⟨r2, z3, h1, h⟩ := bd_s h
  refine SA.tr (ff_X12_truth   trivial h1) ?_
  rcases Decidable.em (v4 = (v2 - 1)) with c4 | c4
  · rw [if_pos c4] at h
    exact ff_X12_gridIcing_73  hf   tv0 tv1 r2 1 z3  h
  · rw [if_neg c4] at h
    exact ff_X12_gridIcing_73  hf   tv0 tv1 r2 0 z3  h
theorem ff_X12_gridIcing_34 {a k : Nat} (hf : Nf_X12_gridIcing  a k) (v1 : Int32) (v2 : Int32) (v3 : Int32) (v4 : Int32) (tv0 : Int32) (tv1 : Int32) (tv2 : Int32) (z : St)  {Rz : Int32 × St} (h : fn_X12_gridIcing_34   v1 v2 v3 v4 tv0 tv1 tv2 z = some Rz) : SA z Rz.2 a k := by
  unfold fn_X12_gridIcing_34 at h
  obtain ⟨r2, z3, h1, h⟩ := bd_s h
  refine SA.tr (ff_X12_truth   trivial h1) ?_
  obtain ⟨g4, h⟩ := gd_s h
  obtain ⟨g5, h⟩ := gd_s h
  rcases Decidable.em (v4 = 0) with c6 | c6
  · rw [if_pos c6] at h
    exact ff_X12_gridIcing_57  hf   v2 v4 (tv0 * (tv1 + r2)) ((z3.1 189 (Int32.toNatClampNeg v1)) / v3) 1 z3  h
  · rw [if_neg c6] at h
    exact ff_X12_gridIcing_57  hf   v2 v4 (tv0 * (tv1 + r2)) ((z3.1 189 (Int32.toNatClampNeg v1)) / v3) 0 z3  h
theorem ff_X12_gridIcing_18 {a k : Nat} (hf : Nf_X12_gridIcing  a k) (v1 : Int32) (v2 : Int32) (v3 : Int32) (v4 : Int32) (v5 : Int32) (tv0 : Int32) (tv1 : Int32) (z : St)  {Rz : Int32 × St} (h : fn_X12_gridIcing_18   v1 v2 v3 v4 v5 tv0 tv1 z = some Rz) : SA z Rz.2 a k := by
  unfold fn_X12_gridIcing_18 at h
  obtain ⟨r2, z3, h1, h⟩ := bd_s h
  refine SA.tr (ff_X12_truth   trivial h1) ?_
  rcases Decidable.em (v5 = (v3 - 1)) with c4 | c4
  · rw [if_pos c4] at h
    exact ff_X12_gridIcing_34  hf   v1 v2 v3 v4 tv0 r2 1 z3  h
  · rw [if_neg c4] at h
    exact ff_X12_gridIcing_34  hf   v1 v2 v3 v4 tv0 r2 0 z3  h
theorem ff_X12_gridIcing {a k : Nat} {v1 : Int32} {v2 : Int32} {v3 : Int32} {v4 : Int32} {v5 : Int32} {z : St} {Rz : Int32 × St}  (hf : Nf_X12_gridIcing  a k) (h : fn_X12_gridIcing  v1 v2 v3 v4 v5 z = some Rz) : SA z Rz.2 a k := by
  unfold fn_X12_gridIcing at h
  obtain ⟨g1, h⟩ := gd_s h
  obtain ⟨g2, h⟩ := gd_s h
  rcases Decidable.em (v5 = 0) with c3 | c3
  · rw [if_pos c3] at h
    exact ff_X12_gridIcing_18  hf   v1 v2 v3 v4 v5 ((z.1 188 (Int32.toNatClampNeg v1)) / v2) 1 z  h
  · rw [if_neg c3] at h
    exact ff_X12_gridIcing_18  hf   v1 v2 v3 v4 v5 ((z.1 188 (Int32.toNatClampNeg v1)) / v2) 0 z  h
theorem ff_X12_gridUneven_68 {a k : Nat} (hf : Nf_X12_gridUneven  a k) {k10 : Int32 → Int32 → Int32 → Int32 → Int32 → Int32 → St → Option (Int32 × St)} (hk_10 : ∀ (v1 : Int32) (v2 : Int32) (v3 : Int32) (v4 : Int32) (v5 : Int32) (v6 : Int32) (z : St)  (Rz : Int32 × St), k10 v1 v2 v3 v4 v5 v6 z = some Rz → SA z Rz.2 a k) {k19 : Int32 → Int32 → Int32 → Int32 → Int32 → Int32 → Int32 → St → Option (Int32 × St)} (hk_19 : ∀ (v1 : Int32) (v2 : Int32) (v3 : Int32) (v4 : Int32) (v5 : Int32) (v6 : Int32) (v7 : Int32) (z : St)  (Rz : Int32 × St), k19 v1 v2 v3 v4 v5 v6 v7 z = some Rz → SA z Rz.2 a k) (v1 : Int32) (v2 : Int32) (v3 : Int32) (v4 : Int32) (v6 : Int32) (v7 : Int32) (tv0 : Int32) (z : St)  {Rz : Int32 × St} (h : fn_X12_gridUneven_68  k10 k19 v1 v2 v3 v4 v6 v7 tv0 z = some Rz) : SA z Rz.2 a k := by
  unfold fn_X12_gridUneven_68 at h
  exact hk_19 v1 v2 v3 v4 tv0 v6 (v7 + 1) z  _ h
theorem ff_X12_gridUneven_52 {a k : Nat} (hf : Nf_X12_gridUneven  a k) {k10 : Int32 → Int32 → Int32 → Int32 → Int32 → Int32 → St → Option (Int32 × St)} (hk_10 : ∀ (v1 : Int32) (v2 : Int32) (v3 : Int32) (v4 : Int32) (v5 : Int32) (v6 : Int32) (z : St)  (Rz : Int32 × St), k10 v1 v2 v3 v4 v5 v6 z = some Rz → SA z Rz.2 a k) {k19 : Int32 → Int32 → Int32 → Int32 → Int32 → Int32 → Int32 → St → Option (Int32 × St)} (hk_19 : ∀ (v1 : Int32) (v2 : Int32) (v3 : Int32) (v4 : Int32) (v5 : Int32) (v6 : Int32) (v7 : Int32) (z : St)  (Rz : Int32 × St), k19 v1 v2 v3 v4 v5 v6 v7 z = some Rz → SA z Rz.2 a k) (v1 : Int32) (v2 : Int32) (v3 : Int32) (v5 : Int32) (v6 : Int32) (v7 : Int32) (v8 : Int32) (tv0 : Int32) (z : St)  {Rz : Int32 × St} (h : fn_X12_gridUneven_52  k10 k19 v1 v2 v3 v5 v6 v7 v8 tv0 z = some Rz) : SA z Rz.2 a k := by
  unfold fn_X12_gridUneven_52 at h
  rcases Decidable.em (v8 ≤ v5) with c1 | c1
  · rw [if_pos c1] at h
    exact ff_X12_gridUneven_68  hf  hk_10 hk_19 v1 v2 v3 tv0 v6 v7 v5 z  h
  · rw [if_neg c1] at h
    exact ff_X12_gridUneven_68  hf  hk_10 hk_19 v1 v2 v3 tv0 v6 v7 v8 z  h
theorem ff_X12_gridUneven_19 {a k : Nat} (hf : Nf_X12_gridUneven  a k) {k10 : Int32 → Int32 → Int32 → Int32 → Int32 → Int32 → St → Option (Int32 × St)} (hk_10 : ∀ (v1 : Int32) (v2 : Int32) (v3 : Int32) (v4 : Int32) (v5 : Int32) (v6 : Int32) (z : St)  (Rz : Int32 × St), k10 v1 v2 v3 v4 v5 v6 z = some Rz → SA z Rz.2 a k) : ∀ (n : Nat) (v1 : Int32) (v2 : Int32) (v3 : Int32) (v4 : Int32) (v5 : Int32) (v6 : Int32) (v7 : Int32) (z : St)  (Rz : Int32 × St), fn_X12_gridUneven_19  k10 n v1 v2 v3 v4 v5 v6 v7 z = some Rz → SA z Rz.2 a k := by
  intro n
  induction n with
  | zero => intro v1 v2 v3 v4 v5 v6 v7 z  Rz h; cases h
  | succ n ih =>
    intro v1 v2 v3 v4 v5 v6 v7 z  Rz h
    rw [fn_X12_gridUneven_19] at h
    rcases Decidable.em (v3 ≤ v7) with c1 | c1
    · rw [if_pos c1] at h
      exact hk_10 v1 v2 v3 v4 v5 (v6 + 1) z  _ h
    · rw [if_neg c1] at h
      obtain ⟨r3, z4, h2, h⟩ := bd_s h
      refine SA.tr (ff_X12_gridIcing   trivial h2) ?_
      rcases Decidable.em (v4 ≤ r3) with c5 | c5
      · rw [if_pos c5] at h
        exact ff_X12_gridUneven_52  hf  hk_10 ih v1 v2 v3 v5 v6 v7 r3 v4 z4  h
      · rw [if_neg c5] at h
        exact ff_X12_gridUneven_52  hf  hk_10 ih v1 v2 v3 v5 v6 v7 r3 r3 z4  h
theorem ff_X12_gridUneven_10 {a k : Nat} (hf : Nf_X12_gridUneven  a k) : ∀ (n : Nat) (v1 : Int32) (v2 : Int32) (v3 : Int32) (v4 : Int32) (v5 : Int32) (v6 : Int32) (z : St)  (Rz : Int32 × St), fn_X12_gridUneven_10   n v1 v2 v3 v4 v5 v6 z = some Rz → SA z Rz.2 a k := by
  intro n
  induction n with
  | zero => intro v1 v2 v3 v4 v5 v6 z  Rz h; cases h
  | succ n ih =>
    intro v1 v2 v3 v4 v5 v6 z  Rz h
    rw [fn_X12_gridUneven_10] at h
    rcases Decidable.em (v2 ≤ v6) with c1 | c1
    · rw [if_pos c1] at h
      cases h
      exact SA.rf
    · rw [if_neg c1] at h
      exact ff_X12_gridUneven_19  hf  ih fu v1 v2 v3 v4 v5 v6 0 z  _ h
theorem ff_X12_gridUneven {a k : Nat} {v1 : Int32} {v2 : Int32} {v3 : Int32} {z : St} {Rz : Int32 × St}  (hf : Nf_X12_gridUneven  a k) (h : fn_X12_gridUneven  v1 v2 v3 z = some Rz) : SA z Rz.2 a k := by
  unfold fn_X12_gridUneven at h
  exact ff_X12_gridUneven_10  hf   fu v1 v2 v3 33 0 0 z  _ h
theorem ff_X12_grid_140 {a k : Nat} (hf : Nf_X12_grid  a k) {k35 : Int32 → Int32 → Int32 → Int32 → Int32 → St → Option (Int32 × St)} (hk_35 : ∀ (v1 : Int32) (v2 : Int32) (v3 : Int32) (v4 : Int32) (v5 : Int32) (z : St)  (Rz : Int32 × St), k35 v1 v2 v3 v4 v5 z = some Rz → SA z Rz.2 a k) (v1 : Int32) (v2 : Int32) (v3 : Int32) (v4 : Int32) (v5 : Int32) (z : St)  {Rz : Int32 × St} (h : fn_X12_grid_140  k35 v1 v2 v3 v4 v5 z = some Rz) : SA z Rz.2 a k := by
  unfold fn_X12_grid_140 at h
  exact hk_35 v1 v2 v3 v4 (v5 + 1) z  _ h
theorem ff_X12_grid_136 {a k : Nat} (hf : Nf_X12_grid  a k) {k35 : Int32 → Int32 → Int32 → Int32 → Int32 → St → Option (Int32 × St)} (hk_35 : ∀ (v1 : Int32) (v2 : Int32) (v3 : Int32) (v4 : Int32) (v5 : Int32) (z : St)  (Rz : Int32 × St), k35 v1 v2 v3 v4 v5 z = some Rz → SA z Rz.2 a k) (v1 : Int32) (v2 : Int32) (v3 : Int32) (v5 : Int32) (z : St)  {Rz : Int32 × St} (h : fn_X12_grid_136  k35 v1 v2 v3 v5 z = some Rz) : SA z Rz.2 a k := by
  unfold fn_X12_grid_136 at h
  exact ff_X12_grid_140  hf  hk_35 v1 v2 v3 v5 v5 z  h
theorem ff_X12_grid_101 {a k : Nat} (hf : Nf_X12_grid  a k) {k35 : Int32 → Int32 → Int32 → Int32 → Int32 → St → Option (Int32 × St)} (hk_35 : ∀ (v1 : Int32) (v2 : Int32) (v3 : Int32) (v4 : Int32) (v5 : Int32) (z : St)  (Rz : Int32 × St), k35 v1 v2 v3 v4 v5 z = some Rz → SA z Rz.2 a k) (v1 : Int32) (v2 : Int32) (v3 : Int32) (v4 : Int32) (v5 : Int32) (v6 : Int32) (tv0 : Int32) (z : St)  {Rz : Int32 × St} (h : fn_X12_grid_101  k35 v1 v2 v3 v4 v5 v6 tv0 z = some Rz) : SA z Rz.2 a k := by
  unfold fn_X12_grid_101 at h
  rcases Decidable.em (tv0 < 0) with c1 | c1
  · rw [if_pos c1] at h
    exact ff_X12_grid_136  hf  hk_35 v1 v2 v3 v5 z  h
  · rw [if_neg c1] at h
    rcases Decidable.em (tv0 = 0) with c2 | c2
    · rw [if_pos c2] at h
      obtain ⟨r4, z5, h3, h⟩ := bd_s h
      refine SA.tr (ff_X12_gridUneven   trivial h3) ?_
      obtain ⟨g6, h⟩ := gd_s h
      obtain ⟨r8, z9, h7, h⟩ := bd_s h
      refine SA.tr (ff_X12_gridUneven   trivial h7) ?_
      rcases Decidable.em (r8 ≤ r4) with c10 | c10
      · rw [if_pos c10] at h
        exact ff_X12_grid_140  hf  hk_35 v1 v2 v3 v4 v5 z9  h
      · rw [if_neg c10] at h
        exact ff_X12_grid_136  hf  hk_35 v1 v2 v3 v5 z9  h
    · rw [if_neg c2] at h
      exact ff_X12_grid_140  hf  hk_35 v1 v2 v3 v4 v5 z  h
theorem ff_X12_grid_35 {a k : Nat} (hf : Nf_X12_grid  a k) : ∀ (n : Nat) (v1 : Int32) (v2 : Int32) (v3 : Int32) (v4 : Int32) (v5 : Int32) (z : St)  (Rz : Int32 × St), fn_X12_grid_35   n v1 v2 v3 v4 v5 z = some Rz → SA z Rz.2 a k := by
  intro n
  induction n with
  | zero => intro v1 v2 v3 v4 v5 z  Rz h; cases h
  | succ n ih =>
    intro v1 v2 v3 v4 v5 z  Rz h
    rw [fn_X12_grid_35] at h
    rcases Decidable.em (8 < v5) with c1 | c1
    · rw [if_pos c1] at h
      rcases Decidable.em (0 ≤ v4) with c2 | c2
      · rw [if_pos c2] at h
        obtain ⟨g3, h⟩ := gd_s h
        obtain ⟨v5_4, e_v5_4, h⟩ := nm_s h
        rcases Decidable.em (v3 = 0) with c5 | c5
        · rw [if_pos c5] at h
          cases h
          exact SA.rf
        · rw [if_neg c5] at h
          rcases Decidable.em (v3 = 1) with c6 | c6
          · rw [if_pos c6] at h
            cases h
            exact SA.rf
          · rw [if_neg c6] at h
            rcases Decidable.em (v3 = 2) with c7 | c7
            · rw [if_pos c7] at h
              cases h
              exact SA.rf
            · rw [if_neg c7] at h
              obtain ⟨r9, z10, h8, h⟩ := bd_s h
              refine SA.tr (ff_X12_gridUneven   trivial h8) ?_
              cases h
              exact SA.rf
      · rw [if_neg c2] at h
        cases h
        exact SA.rf
    · rw [if_neg c1] at h
      obtain ⟨g11, h⟩ := gd_s h
      obtain ⟨v6_12, e_v6_12, h⟩ := nm_s h
      rcases Decidable.em ((v5 * v6_12) = v2) with c13 | c13
      · rw [if_pos c13] at h
        rcases Decidable.em (8 < v6_12) with c14 | c14
        · rw [if_pos c14] at h
          exact ff_X12_grid_140  hf  ih v1 v2 v3 v4 v5 z  h
        · rw [if_neg c14] at h
          obtain ⟨r16, z17, h15, h⟩ := bd_s h
          refine SA.tr (ff_X12_isGrid   trivial h15) ?_
          rcases Decidable.em (r16 = 0) with c18 | c18
          · rw [if_pos c18] at h
            exact ff_X12_grid_140  hf  ih v1 v2 v3 v4 v5 z17  h
          · rw [if_neg c18] at h
            rcases Decidable.em (0 ≤ v4) with c19 | c19
            · rw [if_pos c19] at h
              obtain ⟨g20, h⟩ := gd_s h
              exact ff_X12_grid_101  hf  ih v1 v2 v3 v4 v5 v6_12 (((v5 + v6_12) - v4) - (v2 / v4)) z17  h
            · rw [if_neg c19] at h
              exact ff_X12_grid_101  hf  ih v1 v2 v3 v4 v5 v6_12 (-1) z17  h
      · rw [if_neg c13] at h
        exact ff_X12_grid_140  hf  ih v1 v2 v3 v4 v5 z  h
theorem ff_X12_grid {a k : Nat} {v1 : Int32} {v2 : Int32} {v3 : Int32} {z : St} {Rz : Int32 × St}  (hf : Nf_X12_grid  a k) (h : fn_X12_grid  v1 v2 v3 z = some Rz) : SA z Rz.2 a k := by
  unfold fn_X12_grid at h
  obtain ⟨r2, z3, h1, h⟩ := bd_s h
  refine SA.tr (ff_X12_isTier   trivial h1) ?_
  rcases Decidable.em (r2 = 0) with c4 | c4
  · rw [if_pos c4] at h
    cases h
    exact SA.rf
  · rw [if_neg c4] at h
    obtain ⟨r6, z7, h5, h⟩ := bd_s h
    refine SA.tr (ff_X12_isIn   trivial h5) ?_
    rcases Decidable.em (r6 = 0) with c8 | c8
    · rw [if_pos c8] at h
      cases h
      exact SA.rf
    · rw [if_neg c8] at h
      obtain ⟨r10, z11, h9, h⟩ := bd_s h
      refine SA.tr (ff_X12_isIn   trivial h9) ?_
      rcases Decidable.em (r10 = 0) with c12 | c12
      · rw [if_pos c12] at h
        cases h
        exact SA.rf
      · rw [if_neg c12] at h
        exact ff_X12_grid_35  hf   fu v1 v2 v3 (-1) 1 z11  _ h
theorem ff_X12_ways_69 {a k : Nat} (hf : Nf_X12_ways  a k) {k25 : Int32 → Int32 → Int32 → Int32 → St → Option (Int32 × St)} (hk_25 : ∀ (v1 : Int32) (v2 : Int32) (v3 : Int32) (v4 : Int32) (z : St)  (Rz : Int32 × St), k25 v1 v2 v3 v4 z = some Rz → SA z Rz.2 a k) {k35 : Int32 → Int32 → Int32 → Int32 → Int32 → St → Option (Int32 × St)} (hk_35 : ∀ (v1 : Int32) (v2 : Int32) (v3 : Int32) (v4 : Int32) (v5 : Int32) (z : St)  (Rz : Int32 × St), k35 v1 v2 v3 v4 v5 z = some Rz → SA z Rz.2 a k) (v1 : Int32) (v2 : Int32) (v4 : Int32) (v5 : Int32) (tv0 : Int32) (tv1 : Int32) (z : St)  {Rz : Int32 × St} (h : fn_X12_ways_69  k25 k35 v1 v2 v4 v5 tv0 tv1 z = some Rz) : SA z Rz.2 a k := by
  unfold fn_X12_ways_69 at h
  obtain ⟨r2, z3, h1, h⟩ := bd_s h
  refine SA.tr (ff_X12_truth   trivial h1) ?_
  obtain ⟨v3_4, e_v3_4, h⟩ := nm_s h
  exact hk_35 v1 v2 v3_4 v4 (v5 + 1) z3  _ h
theorem ff_X12_ways_68 {a k : Nat} (hf : Nf_X12_ways  a k) {k25 : Int32 → Int32 → Int32 → Int32 → St → Option (Int32 × St)} (hk_25 : ∀ (v1 : Int32) (v2 : Int32) (v3 : Int32) (v4 : Int32) (z : St)  (Rz : Int32 × St), k25 v1 v2 v3 v4 z = some Rz → SA z Rz.2 a k) {k35 : Int32 → Int32 → Int32 → Int32 → Int32 → St → Option (Int32 × St)} (hk_35 : ∀ (v1 : Int32) (v2 : Int32) (v3 : Int32) (v4 : Int32) (v5 : Int32) (z : St)  (Rz : Int32 × St), k35 v1 v2 v3 v4 v5 z = some Rz → SA z Rz.2 a k) (v1 : Int32) (v2 : Int32) (v4 : Int32) (v5 : Int32) (tv0 : Int32) (z : St)  {Rz : Int32 × St} (h : fn_X12_ways_68  k25 k35 v1 v2 v4 v5 tv0 z = some Rz) : SA z Rz.2 a k := by
  unfold fn_X12_ways_68 at h
  exact ff_X12_ways_69  hf  hk_25 hk_35 v1 v2 v4 v5 tv0 0 z  h
theorem ff_X12_ways_35 {a k : Nat} (hf : Nf_X12_ways  a k) {k25 : Int32 → Int32 → Int32 → Int32 → St → Option (Int32 × St)} (hk_25 : ∀ (v1 : Int32) (v2 : Int32) (v3 : Int32) (v4 : Int32) (z : St)  (Rz : Int32 × St), k25 v1 v2 v3 v4 z = some Rz → SA z Rz.2 a k) : ∀ (n : Nat) (v1 : Int32) (v2 : Int32) (v3 : Int32) (v4 : Int32) (v5 : Int32) (z : St)  (Rz : Int32 × St), fn_X12_ways_35  k25 n v1 v2 v3 v4 v5 z = some Rz → SA z Rz.2 a k := by
  intro n
  induction n with
  | zero => intro v1 v2 v3 v4 v5 z  Rz h; cases h
  | succ n ih =>
    intro v1 v2 v3 v4 v5 z  Rz h
    rw [fn_X12_ways_35] at h
    rcases Decidable.em (8 < v5) with c1 | c1
    · rw [if_pos c1] at h
      exact hk_25 v1 v2 v3 (v4 + 1) z  _ h
    · rw [if_neg c1] at h
      rcases Decidable.em ((v4 * v5) = v2) with c2 | c2
      · rw [if_pos c2] at h
        obtain ⟨r4, z5, h3, h⟩ := bd_s h
        refine SA.tr (ff_X12_isGrid   trivial h3) ?_
        rcases Decidable.em (r4 = 0) with c6 | c6
        · rw [if_pos c6] at h
          exact ff_X12_ways_68  hf  hk_25 ih v1 v2 v4 v5 v3 z5  h
        · rw [if_neg c6] at h
          exact ff_X12_ways_69  hf  hk_25 ih v1 v2 v4 v5 v3 1 z5  h
      · rw [if_neg c2] at h
        exact ff_X12_ways_68  hf  hk_25 ih v1 v2 v4 v5 v3 z  h
theorem ff_X12_ways_25 {a k : Nat} (hf : Nf_X12_ways  a k) : ∀ (n : Nat) (v1 : Int32) (v2 : Int32) (v3 : Int32) (v4 : Int32) (z : St)  (Rz : Int32 × St), fn_X12_ways_25   n v1 v2 v3 v4 z = some Rz → SA z Rz.2 a k := by
  intro n
  induction n with
  | zero => intro v1 v2 v3 v4 z  Rz h; cases h
  | succ n ih =>
    intro v1 v2 v3 v4 z  Rz h
    rw [fn_X12_ways_25] at h
    rcases Decidable.em (8 < v4) with c1 | c1
    · rw [if_pos c1] at h
      cases h
      exact SA.rf
    · rw [if_neg c1] at h
      exact ff_X12_ways_35  hf  ih fu v1 v2 v3 v4 1 z  _ h
theorem ff_X12_ways {a k : Nat} {v1 : Int32} {v2 : Int32} {z : St} {Rz : Int32 × St}  (hf : Nf_X12_ways  a k) (h : fn_X12_ways  v1 v2 z = some Rz) : SA z Rz.2 a k := by
  unfold fn_X12_ways at h
  obtain ⟨r2, z3, h1, h⟩ := bd_s h
  refine SA.tr (ff_X12_isTier   trivial h1) ?_
  rcases Decidable.em (r2 = 0) with c4 | c4
  · rw [if_pos c4] at h
    cases h
    exact SA.rf
  · rw [if_neg c4] at h
    obtain ⟨r6, z7, h5, h⟩ := bd_s h
    refine SA.tr (ff_X12_isIn   trivial h5) ?_
    rcases Decidable.em (r6 = 0) with c8 | c8
    · rw [if_pos c8] at h
      cases h
      exact SA.rf
    · rw [if_neg c8] at h
      exact ff_X12_ways_25  hf   fu v1 v2 0 1 z7  _ h
theorem ff_X12_most_107 {a k : Nat} (hf : Nf_X12_most  a k) {k26 : Int32 → Int32 → Int32 → Int32 → St → Option (Int32 × St)} (hk_26 : ∀ (v1 : Int32) (v2 : Int32) (v3 : Int32) (v4 : Int32) (z : St)  (Rz : Int32 × St), k26 v1 v2 v3 v4 z = some Rz → SA z Rz.2 a k) {k36 : Int32 → Int32 → Int32 → Int32 → Int32 → St → Option (Int32 × St)} (hk_36 : ∀ (v1 : Int32) (v2 : Int32) (v3 : Int32) (v4 : Int32) (v5 : Int32) (z : St)  (Rz : Int32 × St), k36 v1 v2 v3 v4 v5 z = some Rz → SA z Rz.2 a k) (v1 : Int32) (v2 : Int32) (v3 : Int32) (v4 : Int32) (v5 : Int32) (z : St)  {Rz : Int32 × St} (h : fn_X12_most_107  k26 k36 v1 v2 v3 v4 v5 z = some Rz) : SA z Rz.2 a k := by
  unfold fn_X12_most_107 at h
  exact hk_36 v1 v2 v3 v4 (v5 + 1) z  _ h
theorem ff_X12_most_106 {a k : Nat} (hf : Nf_X12_most  a k) {k26 : Int32 → Int32 → Int32 → Int32 → St → Option (Int32 × St)} (hk_26 : ∀ (v1 : Int32) (v2 : Int32) (v3 : Int32) (v4 : Int32) (z : St)  (Rz : Int32 × St), k26 v1 v2 v3 v4 z = some Rz → SA z Rz.2 a k) {k36 : Int32 → Int32 → Int32 → Int32 → Int32 → St → Option (Int32 × St)} (hk_36 : ∀ (v1 : Int32) (v2 : Int32) (v3 : Int32) (v4 : Int32) (v5 : Int32) (z : St)  (Rz : Int32 × St), k36 v1 v2 v3 v4 v5 z = some Rz → SA z Rz.2 a k) (v1 : Int32) (v2 : Int32) (v4 : Int32) (v5 : Int32) (tv0 : Int32) (z : St)  {Rz : Int32 × St} (h : fn_X12_most_106  k26 k36 v1 v2 v4 v5 tv0 z = some Rz) : SA z Rz.2 a k := by
  unfold fn_X12_most_106 at h
  exact ff_X12_most_107  hf  hk_26 hk_36 v1 v2 tv0 v4 v5 z  h
theorem ff_X12_most_36 {a k : Nat} (hf : Nf_X12_most  a k) {k26 : Int32 → Int32 → Int32 → Int32 → St → Option (Int32 × St)} (hk_26 : ∀ (v1 : Int32) (v2 : Int32) (v3 : Int32) (v4 : Int32) (z : St)  (Rz : Int32 × St), k26 v1 v2 v3 v4 z = some Rz → SA z Rz.2 a k) : ∀ (n : Nat) (v1 : Int32) (v2 : Int32) (v3 : Int32) (v4 : Int32) (v5 : Int32) (z : St)  (Rz : Int32 × St), fn_X12_most_36  k26 n v1 v2 v3 v4 v5 z = some Rz → SA z Rz.2 a k := by
  intro n
  induction n with
  | zero => intro v1 v2 v3 v4 v5 z  Rz h; cases h
  | succ n ih =>
    intro v1 v2 v3 v4 v5 z  Rz h
    rw [fn_X12_most_36] at h
    rcases Decidable.em (8 < v5) with c1 | c1
    · rw [if_pos c1] at h
      exact hk_26 v1 v2 v3 (v4 + 1) z  _ h
    · rw [if_neg c1] at h
      obtain ⟨r3, z4, h2, h⟩ := bd_s h
      refine SA.tr (ff_X12_isGrid   trivial h2) ?_
      rcases Decidable.em (r3 = 0) with c5 | c5
      · rw [if_pos c5] at h
        exact ff_X12_most_107  hf  hk_26 ih v1 v2 v3 v4 v5 z4  h
      · rw [if_neg c5] at h
        obtain ⟨g6, h⟩ := gd_s h
        obtain ⟨g7, h⟩ := gd_s h
        obtain ⟨g8, h⟩ := gd_s h
        obtain ⟨g9, h⟩ := gd_s h
        obtain ⟨g10, h⟩ := gd_s h
        rcases Decidable.em (v2 ≤ ((((z4.1 188 (Int32.toNatClampNeg v1)) / v4) * ((z4.1 189 (Int32.toNatClampNeg v1)) / v5)) * (z4.1 190 (Int32.toNatClampNeg v1)))) with c11 | c11
        · rw [if_pos c11] at h
          rcases Decidable.em ((v4 * v5) ≤ v3) with c12 | c12
          · rw [if_pos c12] at h
            exact ff_X12_most_106  hf  hk_26 ih v1 v2 v4 v5 v3 z4  h
          · rw [if_neg c12] at h
            exact ff_X12_most_106  hf  hk_26 ih v1 v2 v4 v5 (v4 * v5) z4  h
        · rw [if_neg c11] at h
          exact ff_X12_most_107  hf  hk_26 ih v1 v2 v3 v4 v5 z4  h
theorem ff_X12_most_26 {a k : Nat} (hf : Nf_X12_most  a k) : ∀ (n : Nat) (v1 : Int32) (v2 : Int32) (v3 : Int32) (v4 : Int32) (z : St)  (Rz : Int32 × St), fn_X12_most_26   n v1 v2 v3 v4 z = some Rz → SA z Rz.2 a k := by
  intro n
  induction n with
  | zero => intro v1 v2 v3 v4 z  Rz h; cases h
  | succ n ih =>
    intro v1 v2 v3 v4 z  Rz h
    rw [fn_X12_most_26] at h
    rcases Decidable.em (8 < v4) with c1 | c1
    · rw [if_pos c1] at h
      cases h
      exact SA.rf
    · rw [if_neg c1] at h
      exact ff_X12_most_36  hf  ih fu v1 v2 v3 v4 1 z  _ h
theorem ff_X12_most {a k : Nat} {v1 : Int32} {v2 : Int32} {z : St} {Rz : Int32 × St}  (hf : Nf_X12_most  a k) (h : fn_X12_most  v1 v2 z = some Rz) : SA z Rz.2 a k := by
  unfold fn_X12_most at h
  obtain ⟨r2, z3, h1, h⟩ := bd_s h
  refine SA.tr (ff_X12_isTier   trivial h1) ?_
  rcases Decidable.em (r2 = 0) with c4 | c4
  · rw [if_pos c4] at h
    cases h
    exact SA.rf
  · rw [if_neg c4] at h
    obtain ⟨r6, z7, h5, h⟩ := bd_s h
    refine SA.tr (ff_X12_isIn   trivial h5) ?_
    rcases Decidable.em (r6 = 0) with c8 | c8
    · rw [if_pos c8] at h
      cases h
      exact SA.rf
    · rw [if_neg c8] at h
      exact ff_X12_most_26  hf   fu v1 v2 (-1) 1 z7  _ h
theorem ff_X12_room_140 {a k : Nat} (hf : Nf_X12_room  a k) {k34 : Int32 → Int32 → Int32 → Int32 → St → Option (Int32 × St)} (hk_34 : ∀ (v1 : Int32) (v2 : Int32) (v3 : Int32) (v4 : Int32) (z : St)  (Rz : Int32 × St), k34 v1 v2 v3 v4 z = some Rz → SA z Rz.2 a k) (v1 : Int32) (v2 : Int32) (v3 : Int32) (v4 : Int32) (z : St)  {Rz : Int32 × St} (h : fn_X12_room_140  k34 v1 v2 v3 v4 z = some Rz) : SA z Rz.2 a k := by
  unfold fn_X12_room_140 at h
  exact hk_34 v1 v2 v3 (v4 + 1) z  _ h
theorem ff_X12_room_139 {a k : Nat} (hf : Nf_X12_room  a k) {k34 : Int32 → Int32 → Int32 → Int32 → St → Option (Int32 × St)} (hk_34 : ∀ (v1 : Int32) (v2 : Int32) (v3 : Int32) (v4 : Int32) (z : St)  (Rz : Int32 × St), k34 v1 v2 v3 v4 z = some Rz → SA z Rz.2 a k) (v1 : Int32) (v2 : Int32) (v4 : Int32) (tv0 : Int32) (z : St)  {Rz : Int32 × St} (h : fn_X12_room_139  k34 v1 v2 v4 tv0 z = some Rz) : SA z Rz.2 a k := by
  unfold fn_X12_room_139 at h
  exact ff_X12_room_140  hf  hk_34 v1 v2 tv0 v4 z  h
theorem ff_X12_room_111 {a k : Nat} (hf : Nf_X12_room  a k) {k34 : Int32 → Int32 → Int32 → Int32 → St → Option (Int32 × St)} (hk_34 : ∀ (v1 : Int32) (v2 : Int32) (v3 : Int32) (v4 : Int32) (z : St)  (Rz : Int32 × St), k34 v1 v2 v3 v4 z = some Rz → SA z Rz.2 a k) (v1 : Int32) (v2 : Int32) (v3 : Int32) (v4 : Int32) (tv0 : Int32) (z : St)  {Rz : Int32 × St} (h : fn_X12_room_111  k34 v1 v2 v3 v4 tv0 z = some Rz) : SA z Rz.2 a k := by
  unfold fn_X12_room_111 at h
  obtain ⟨g1, h⟩ := gd_s h
  rcases Decidable.em ((tv0 - (z.1 194 (Int32.toNatClampNeg v1))) ≤ v3) with c2 | c2
  · rw [if_pos c2] at h
    exact ff_X12_room_139  hf  hk_34 v1 v2 v4 v3 z  h
  · rw [if_neg c2] at h
    obtain ⟨g3, h⟩ := gd_s h
    exact ff_X12_room_139  hf  hk_34 v1 v2 v4 (tv0 - (z.1 194 (Int32.toNatClampNeg v1))) z  h
theorem ff_X12_room_34 {a k : Nat} (hf : Nf_X12_room  a k) : ∀ (n : Nat) (v1 : Int32) (v2 : Int32) (v3 : Int32) (v4 : Int32) (z : St)  (Rz : Int32 × St), fn_X12_room_34   n v1 v2 v3 v4 z = some Rz → SA z Rz.2 a k := by
  intro n
  induction n with
  | zero => intro v1 v2 v3 v4 z  Rz h; cases h
  | succ n ih =>
    intro v1 v2 v3 v4 z  Rz h
    rw [fn_X12_room_34] at h
    rcases Decidable.em ((z.1 198 (Int32.toNatClampNeg 168)) ≤ v4) with c1 | c1
    · rw [if_pos c1] at h
      cases h
      exact SA.rf
    · rw [if_neg c1] at h
      obtain ⟨r3, z4, h2, h⟩ := bd_s h
      refine SA.tr (ff_X12_isFree   trivial h2) ?_
      rcases Decidable.em (r3 = 0) with c5 | c5
      · rw [if_pos c5] at h
        exact ff_X12_room_140  hf  ih v1 v2 v3 v4 z4  h
      · rw [if_neg c5] at h
        obtain ⟨r7, z8, h6, h⟩ := bd_s h
        refine SA.tr (ff_X12_areaOf   trivial h6) ?_
        obtain ⟨g9, h⟩ := gd_s h
        rcases Decidable.em (r7 < (z8.1 194 (Int32.toNatClampNeg v1))) with c10 | c10
        · rw [if_pos c10] at h
          exact ff_X12_room_140  hf  ih v1 v2 v3 v4 z8  h
        · rw [if_neg c10] at h
          obtain ⟨r12, z13, h11, h⟩ := bd_s h
          refine SA.tr (ff_X12_servedBut   ⟨hf.1, hf.2.1, hf.2.2.1, hf.2.2.2.1⟩ h11) ?_
          rcases Decidable.em (v2 ≤ (r12 + 1)) with c14 | c14
          · rw [if_pos c14] at h
            obtain ⟨r16, z17, h15, h⟩ := bd_s h
            refine SA.tr (ff_X12_areaOf   trivial h15) ?_
            rcases Decidable.em (999 ≤ r16) with c18 | c18
            · rw [if_pos c18] at h
              exact ff_X12_room_111  hf  ih v1 v2 v3 v4 999 z17  h
            · rw [if_neg c18] at h
              obtain ⟨r20, z21, h19, h⟩ := bd_s h
              refine SA.tr (ff_X12_areaOf   trivial h19) ?_
              exact ff_X12_room_111  hf  ih v1 v2 v3 v4 r20 z21  h
          · rw [if_neg c14] at h
            exact ff_X12_room_140  hf  ih v1 v2 v3 v4 z13  h
theorem ff_X12_room {a k : Nat} {v1 : Int32} {z : St} {Rz : Int32 × St}  (hf : Nf_X12_room  a k) (h : fn_X12_room  v1 z = some Rz) : SA z Rz.2 a k := by
  unfold fn_X12_room at h
  obtain ⟨z2, h1, h⟩ := bv_s h
  refine SA.tr (ff_X12_load   hf.2.2.2.2 h1) ?_
  obtain ⟨r4, z5, h3, h⟩ := bd_s h
  refine SA.tr (ff_X12_isGuest   trivial h3) ?_
  rcases Decidable.em (r4 = 0) with c6 | c6
  · rw [if_pos c6] at h
    cases h
    exact SA.rf
  · rw [if_neg c6] at h
    obtain ⟨r8, z9, h7, h⟩ := bd_s h
    refine SA.tr (ff_X12_pieceOf   trivial h7) ?_
    rcases Decidable.em (r8 < 0) with c10 | c10
    · rw [if_pos c10] at h
      obtain ⟨r12, z13, h11, h⟩ := bd_s h
      refine SA.tr (ff_X12_servedBut   ⟨hf.1, hf.2.1, hf.2.2.1, hf.2.2.2.1⟩ h11) ?_
      exact ff_X12_room_34  hf   fu v1 r12 (-1) 0 z13  _ h
    · rw [if_neg c10] at h
      cases h
      exact SA.rf
theorem ff_X12_best {a k : Nat} {v1 : Int32} {z : St} {Rz : Int32 × St}  (hf : Nf_X12_best  a k) (h : fn_X12_best  v1 z = some Rz) : SA z Rz.2 a k := by
  unfold fn_X12_best at h
  obtain ⟨r2, z3, h1, h⟩ := bd_s h
  refine SA.tr (ff_X12_isGuest   trivial h1) ?_
  rcases Decidable.em (r2 = 0) with c4 | c4
  · rw [if_pos c4] at h
    cases h
    exact SA.rf
  · rw [if_neg c4] at h
    obtain ⟨z6, h5, h⟩ := bv_s h
    refine SA.tr (ff_X12_layWorths   ⟨hf.1, hf.2.1, hf.2.2.1, hf.2.2.2⟩ h5) ?_
    obtain ⟨r8, z9, h7, h⟩ := bd_s h
    refine SA.tr (ff_X12_bestFor   trivial h7) ?_
    cases h
    exact SA.rf
theorem ff_X12_hasCell {a k : Nat} {v1 : Int32} {v2 : Int32} {v3 : Int32} {v4 : Int32} {z : St} {Rz : Int32 × St}  (hf : Nf_X12_hasCell  a k) (h : fn_X12_hasCell  v1 v2 v3 v4 z = some Rz) : SA z Rz.2 a k := by
  unfold fn_X12_hasCell at h
  obtain ⟨g1, h⟩ := gd_s h
  obtain ⟨v5_2, e_v5_2, h⟩ := nm_s h
  obtain ⟨g3, h⟩ := gd_s h
  obtain ⟨v6_4, e_v6_4, h⟩ := nm_s h
  obtain ⟨g5, h⟩ := gd_s h
  rcases Decidable.em ((z.1 198 (Int32.toNatClampNeg (7 * v1))) = v2) with c6 | c6
  · rw [if_pos c6] at h
    rcases Decidable.em (v5_2 < 0) with c7 | c7
    · rw [if_pos c7] at h
      cases h
      exact SA.rf
    · rw [if_neg c7] at h
      obtain ⟨g8, h⟩ := gd_s h
      rcases Decidable.em ((z.1 198 (Int32.toNatClampNeg ((7 * v1) + 3))) ≤ v5_2) with c9 | c9
      · rw [if_pos c9] at h
        cases h
        exact SA.rf
      · rw [if_neg c9] at h
        rcases Decidable.em (v6_4 < 0) with c10 | c10
        · rw [if_pos c10] at h
          cases h
          exact SA.rf
        · rw [if_neg c10] at h
          obtain ⟨g11, h⟩ := gd_s h
          rcases Decidable.em ((z.1 198 (Int32.toNatClampNeg ((7 * v1) + 4))) ≤ v6_4) with c12 | c12
          · rw [if_pos c12] at h
            cases h
            exact SA.rf
          · rw [if_neg c12] at h
            cases h
            exact SA.rf
  · rw [if_neg c6] at h
    cases h
    exact SA.rf
theorem ff_X12_where_81 {a k : Nat} (hf : Nf_X12_where  a k) {k52 : Int32 → Int32 → Int32 → Int32 → Int32 → St → Option (Int32 × St)} (hk_52 : ∀ (v1 : Int32) (v2 : Int32) (v3 : Int32) (v4 : Int32) (v5 : Int32) (z : St)  (Rz : Int32 × St), k52 v1 v2 v3 v4 v5 z = some Rz → SA z Rz.2 a k) (v1 : Int32) (v2 : Int32) (v3 : Int32) (v4 : Int32) (v5 : Int32) (z : St)  {Rz : Int32 × St} (h : fn_X12_where_81  k52 v1 v2 v3 v4 v5 z = some Rz) : SA z Rz.2 a k := by
  unfold fn_X12_where_81 at h
  exact hk_52 v1 v2 v3 v4 (v5 + 1) z  _ h
theorem ff_X12_where_52 {a k : Nat} (hf : Nf_X12_where  a k) : ∀ (n : Nat) (v1 : Int32) (v2 : Int32) (v3 : Int32) (v4 : Int32) (v5 : Int32) (z : St)  (Rz : Int32 × St), fn_X12_where_52   n v1 v2 v3 v4 v5 z = some Rz → SA z Rz.2 a k := by
  intro n
  induction n with
  | zero => intro v1 v2 v3 v4 v5 z  Rz h; cases h
  | succ n ih =>
    intro v1 v2 v3 v4 v5 z  Rz h
    rw [fn_X12_where_52] at h
    rcases Decidable.em ((z.1 198 (Int32.toNatClampNeg 168)) ≤ v5) with c1 | c1
    · rw [if_pos c1] at h
      cases h
      exact SA.rf
    · rw [if_neg c1] at h
      obtain ⟨r3, z4, h2, h⟩ := bd_s h
      refine SA.tr (ff_X12_hasCell   trivial h2) ?_
      rcases Decidable.em (r3 = 0) with c5 | c5
      · rw [if_pos c5] at h
        exact ff_X12_where_81  hf  ih v1 v2 v3 v4 v5 z4  h
      · rw [if_neg c5] at h
        exact ff_X12_where_81  hf  ih v1 v2 v3 v5 v5 z4  h
theorem ff_X12_where {a k : Nat} {v1 : Int32} {v2 : Int32} {v3 : Int32} {z : St} {Rz : Int32 × St}  (hf : Nf_X12_where  a k) (h : fn_X12_where  v1 v2 v3 z = some Rz) : SA z Rz.2 a k := by
  unfold fn_X12_where at h
  obtain ⟨r2, z3, h1, h⟩ := bd_s h
  refine SA.tr (ff_X12_isTier   trivial h1) ?_
  rcases Decidable.em (r2 = 0) with c4 | c4
  · rw [if_pos c4] at h
    cases h
    exact SA.rf
  · rw [if_neg c4] at h
    obtain ⟨g5, h⟩ := gd_s h
    obtain ⟨r7, z8, h6, h⟩ := bd_s h
    refine SA.tr (ff_X12_isIn   trivial h6) ?_
    rcases Decidable.em (r7 = 0) with c9 | c9
    · rw [if_pos c9] at h
      cases h
      exact SA.rf
    · rw [if_neg c9] at h
      obtain ⟨g10, h⟩ := gd_s h
      obtain ⟨r12, z13, h11, h⟩ := bd_s h
      refine SA.tr (ff_X12_isIn   trivial h11) ?_
      rcases Decidable.em (r12 = 0) with c14 | c14
      · rw [if_pos c14] at h
        cases h
        exact SA.rf
      · rw [if_neg c14] at h
        obtain ⟨z16, h15, h⟩ := bv_s h
        refine SA.tr (ff_X12_load   hf h15) ?_
        exact ff_X12_where_52  hf   fu v1 v2 v3 (-1) 0 z16  _ h
theorem ff_X12_hungry_38 {a k : Nat} (hf : Nf_X12_hungry  a k) {k8 : Int32 → Int32 → St → Option (Int32 × St)} (hk_8 : ∀ (v1 : Int32) (v2 : Int32) (z : St)  (Rz : Int32 × St), k8 v1 v2 z = some Rz → SA z Rz.2 a k) (v2 : Int32) (tv0 : Int32) (tv1 : Int32) (z : St)  {Rz : Int32 × St} (h : fn_X12_hungry_38  k8 v2 tv0 tv1 z = some Rz) : SA z Rz.2 a k := by
  unfold fn_X12_hungry_38 at h
  obtain ⟨r2, z3, h1, h⟩ := bd_s h
  refine SA.tr (ff_X12_truth   trivial h1) ?_
  obtain ⟨v1_4, e_v1_4, h⟩ := nm_s h
  exact hk_8 v1_4 (v2 + 1) z3  _ h
theorem ff_X12_hungry_37 {a k : Nat} (hf : Nf_X12_hungry  a k) {k8 : Int32 → Int32 → St → Option (Int32 × St)} (hk_8 : ∀ (v1 : Int32) (v2 : Int32) (z : St)  (Rz : Int32 × St), k8 v1 v2 z = some Rz → SA z Rz.2 a k) (v2 : Int32) (tv0 : Int32) (z : St)  {Rz : Int32 × St} (h : fn_X12_hungry_37  k8 v2 tv0 z = some Rz) : SA z Rz.2 a k := by
  unfold fn_X12_hungry_37 at h
  exact ff_X12_hungry_38  hf  hk_8 v2 tv0 0 z  h
theorem ff_X12_hungry_8 {a k : Nat} (hf : Nf_X12_hungry  a k) : ∀ (n : Nat) (v1 : Int32) (v2 : Int32) (z : St)  (Rz : Int32 × St), fn_X12_hungry_8   n v1 v2 z = some Rz → SA z Rz.2 a k := by
  intro n
  induction n with
  | zero => intro v1 v2 z  Rz h; cases h
  | succ n ih =>
    intro v1 v2 z  Rz h
    rw [fn_X12_hungry_8] at h
    rcases Decidable.em ((z.1 172 44) ≤ v2) with c1 | c1
    · rw [if_pos c1] at h
      cases h
      exact SA.rf
    · rw [if_neg c1] at h
      obtain ⟨r3, z4, h2, h⟩ := bd_s h
      refine SA.tr (ff_X12_pieceOf   trivial h2) ?_
      rcases Decidable.em (0 ≤ r3) with c5 | c5
      · rw [if_pos c5] at h
        exact ff_X12_hungry_37  hf  ih v2 v1 z4  h
      · rw [if_neg c5] at h
        obtain ⟨r7, z8, h6, h⟩ := bd_s h
        refine SA.tr (ff_X12_feeds   hf h6) ?_
        rcases Decidable.em (r7 = 0) with c9 | c9
        · rw [if_pos c9] at h
          exact ff_X12_hungry_38  hf  ih v2 v1 1 z8  h
        · rw [if_neg c9] at h
          exact ff_X12_hungry_37  hf  ih v2 v1 z8  h
theorem ff_X12_hungry {a k : Nat}  {z : St} {Rz : Int32 × St}  (hf : Nf_X12_hungry  a k) (h : fn_X12_hungry   z = some Rz) : SA z Rz.2 a k := by
  unfold fn_X12_hungry at h
  obtain ⟨z2, h1, h⟩ := bv_s h
  refine SA.tr (ff_X12_load   hf h1) ?_
  exact ff_X12_hungry_8  hf   fu 0 0 z2  _ h
theorem ff_X12_law {a k : Nat} {v1 : Int32} {z : St} {Rz : Int32 × St}  (hf : Nf_X12_law  a k) (h : fn_X12_law  v1 z = some Rz) : SA z Rz.2 a k := by
  unfold fn_X12_law at h
  obtain ⟨r2, z3, h1, h⟩ := bd_s h
  refine SA.tr (ff_X12_isIn   trivial h1) ?_
  rcases Decidable.em (r2 = 0) with c4 | c4
  · rw [if_pos c4] at h
    cases h
    exact SA.rf
  · rw [if_neg c4] at h
    obtain ⟨z6, h5, h⟩ := bv_s h
    refine SA.tr (ff_X12_load   hf.1 h5) ?_
    obtain ⟨z7, e_z7, h⟩ := nm_s h
    refine SA.tr (sa_I e_z7 hf.2.1) ?_
    obtain ⟨r9, z10, h8, h⟩ := bd_s h
    refine SA.tr (ff_X12_servedBut   ⟨hf.2.2.1, hf.2.2.2.1, hf.2.2.2.2.1, hf.2.2.2.2.2⟩ h8) ?_
    obtain ⟨z11, e_z11, h⟩ := nm_s h
    refine SA.tr (sa_I e_z11 hf.2.1) ?_
    cases h
    exact SA.rf
theorem ff_X12_left_38 {a k : Nat} (hf : Nf_X12_left  a k) {k8 : Int32 → Int32 → St → Option (Int32 × St)} (hk_8 : ∀ (v1 : Int32) (v2 : Int32) (z : St)  (Rz : Int32 × St), k8 v1 v2 z = some Rz → SA z Rz.2 a k) (v2 : Int32) (tv0 : Int32) (tv1 : Int32) (z : St)  {Rz : Int32 × St} (h : fn_X12_left_38  k8 v2 tv0 tv1 z = some Rz) : SA z Rz.2 a k := by
  unfold fn_X12_left_38 at h
  obtain ⟨v1_1, e_v1_1, h⟩ := nm_s h
  exact hk_8 v1_1 (v2 + 1) z  _ h
theorem ff_X12_left_8 {a k : Nat} (hf : Nf_X12_left  a k) : ∀ (n : Nat) (v1 : Int32) (v2 : Int32) (z : St)  (Rz : Int32 × St), fn_X12_left_8   n v1 v2 z = some Rz → SA z Rz.2 a k := by
  intro n
  induction n with
  | zero => intro v1 v2 z  Rz h; cases h
  | succ n ih =>
    intro v1 v2 z  Rz h
    rw [fn_X12_left_8] at h
    rcases Decidable.em ((z.1 198 (Int32.toNatClampNeg 168)) ≤ v2) with c1 | c1
    · rw [if_pos c1] at h
      cases h
      exact SA.rf
    · rw [if_neg c1] at h
      obtain ⟨r3, z4, h2, h⟩ := bd_s h
      refine SA.tr (ff_X12_isFree   trivial h2) ?_
      rcases Decidable.em (r3 = 0) with c5 | c5
      · rw [if_pos c5] at h
        exact ff_X12_left_38  hf  ih v2 v1 0 z4  h
      · rw [if_neg c5] at h
        obtain ⟨r7, z8, h6, h⟩ := bd_s h
        refine SA.tr (ff_X12_areaOf   trivial h6) ?_
        exact ff_X12_left_38  hf  ih v2 v1 r7 z8  h
theorem ff_X12_left {a k : Nat}  {z : St} {Rz : Int32 × St}  (hf : Nf_X12_left  a k) (h : fn_X12_left   z = some Rz) : SA z Rz.2 a k := by
  unfold fn_X12_left at h
  obtain ⟨z2, h1, h⟩ := bv_s h
  refine SA.tr (ff_X12_load   hf h1) ?_
  exact ff_X12_left_8  hf   fu 0 0 z2  _ h
theorem ff_X12_iced_55 {a k : Nat} (hf : Nf_X12_iced  a k) {k20 : Int32 → Int32 → Int32 → St → Option (Int32 × St)} (hk_20 : ∀ (v1 : Int32) (v2 : Int32) (v3 : Int32) (z : St)  (Rz : Int32 × St), k20 v1 v2 v3 z = some Rz → SA z Rz.2 a k) (v1 : Int32) (v3 : Int32) (tv0 : Int32) (tv1 : Int32) (z : St)  {Rz : Int32 × St} (h : fn_X12_iced_55  k20 v1 v3 tv0 tv1 z = some Rz) : SA z Rz.2 a k := by
  unfold fn_X12_iced_55 at h
  obtain ⟨r2, z3, h1, h⟩ := bd_s h
  refine SA.tr (ff_X12_truth   trivial h1) ?_
  obtain ⟨v2_4, e_v2_4, h⟩ := nm_s h
  exact hk_20 v1 v2_4 (v3 + 1) z3  _ h
theorem ff_X12_iced_54 {a k : Nat} (hf : Nf_X12_iced  a k) {k20 : Int32 → Int32 → Int32 → St → Option (Int32 × St)} (hk_20 : ∀ (v1 : Int32) (v2 : Int32) (v3 : Int32) (z : St)  (Rz : Int32 × St), k20 v1 v2 v3 z = some Rz → SA z Rz.2 a k) (v1 : Int32) (v3 : Int32) (tv0 : Int32) (z : St)  {Rz : Int32 × St} (h : fn_X12_iced_54  k20 v1 v3 tv0 z = some Rz) : SA z Rz.2 a k := by
  unfold fn_X12_iced_54 at h
  exact ff_X12_iced_55  hf  hk_20 v1 v3 tv0 0 z  h
theorem ff_X12_iced_20 {a k : Nat} (hf : Nf_X12_iced  a k) : ∀ (n : Nat) (v1 : Int32) (v2 : Int32) (v3 : Int32) (z : St)  (Rz : Int32 × St), fn_X12_iced_20   n v1 v2 v3 z = some Rz → SA z Rz.2 a k := by
  intro n
  induction n with
  | zero => intro v1 v2 v3 z  Rz h; cases h
  | succ n ih =>
    intro v1 v2 v3 z  Rz h
    rw [fn_X12_iced_20] at h
    rcases Decidable.em ((z.1 198 (Int32.toNatClampNeg 168)) ≤ v3) with c1 | c1
    · rw [if_pos c1] at h
      cases h
      exact SA.rf
    · rw [if_neg c1] at h
      obtain ⟨r3, z4, h2, h⟩ := bd_s h
      refine SA.tr (ff_X12_isFree   trivial h2) ?_
      rcases Decidable.em (r3 = 0) with c5 | c5
      · rw [if_pos c5] at h
        exact ff_X12_iced_54  hf  ih v1 v3 v2 z4  h
      · rw [if_neg c5] at h
        obtain ⟨r7, z8, h6, h⟩ := bd_s h
        refine SA.tr (ff_X12_icingOf   trivial h6) ?_
        rcases Decidable.em (r7 < v1) with c9 | c9
        · rw [if_pos c9] at h
          exact ff_X12_iced_54  hf  ih v1 v3 v2 z8  h
        · rw [if_neg c9] at h
          exact ff_X12_iced_55  hf  ih v1 v3 v2 1 z8  h
theorem ff_X12_iced {a k : Nat} {v1 : Int32} {z : St} {Rz : Int32 × St}  (hf : Nf_X12_iced  a k) (h : fn_X12_iced  v1 z = some Rz) : SA z Rz.2 a k := by
  unfold fn_X12_iced at h
  obtain ⟨r2, z3, h1, h⟩ := bd_s h
  refine SA.tr (ff_X12_isIn   trivial h1) ?_
  rcases Decidable.em (r2 = 0) with c4 | c4
  · rw [if_pos c4] at h
    cases h
    exact SA.rf
  · rw [if_neg c4] at h
    obtain ⟨z6, h5, h⟩ := bv_s h
    refine SA.tr (ff_X12_load   hf h5) ?_
    exact ff_X12_iced_20  hf   fu v1 0 0 z6  _ h
theorem ff_X12_divisor_4 {a k : Nat} (hf : Nf_X12_divisor  a k) : ∀ (n : Nat) (v2 : Int32) (v3 : Int32) (z : St)  (Rz : Int32 × St), fn_X12_divisor_4   n v2 v3 z = some Rz → SA z Rz.2 a k := by
  intro n
  induction n with
  | zero => intro v2 v3 z  Rz h; cases h
  | succ n ih =>
    intro v2 v3 z  Rz h
    rw [fn_X12_divisor_4] at h
    rcases Decidable.em (v3 ≤ 0) with c1 | c1
    · rw [if_pos c1] at h
      cases h
      exact SA.rf
    · rw [if_neg c1] at h
      obtain ⟨g2, h⟩ := gd_s h
      obtain ⟨v4_3, e_v4_3, h⟩ := nm_s h
      exact ih v3 v4_3 z  _ h
theorem ff_X12_divisor {a k : Nat} {v0 : Int32} {v1 : Int32} {z : St} {Rz : Int32 × St}  (hf : Nf_X12_divisor  a k) (h : fn_X12_divisor  v0 v1 z = some Rz) : SA z Rz.2 a k := by
  unfold fn_X12_divisor at h
  exact ff_X12_divisor_4  hf   fu v0 v1 z  _ h
theorem ff_X12_come_88 {a k : Nat} (hf : Nf_X12_come  a k) {k38 : Int32 → Int32 → Int32 → Int32 → Int32 → Int32 → St → Option (Int32 × St)} (hk_38 : ∀ (v1 : Int32) (v2 : Int32) (v3 : Int32) (v4 : Int32) (v5 : Int32) (v6 : Int32) (z : St)  (Rz : Int32 × St), k38 v1 v2 v3 v4 v5 v6 z = some Rz → SA z Rz.2 a k) (v1 : Int32) (v2 : Int32) (v3 : Int32) (v4 : Int32) (v5 : Int32) (v6 : Int32) (z : St)  {Rz : Int32 × St} (h : fn_X12_come_88  k38 v1 v2 v3 v4 v5 v6 z = some Rz) : SA z Rz.2 a k := by
  unfold fn_X12_come_88 at h
  exact hk_38 v1 v2 v3 v4 v5 (v6 + 1) z  _ h
theorem ff_X12_come_38 {a k : Nat} (hf : Nf_X12_come  a k) : ∀ (n : Nat) (v1 : Int32) (v2 : Int32) (v3 : Int32) (v4 : Int32) (v5 : Int32) (v6 : Int32) (z : St)  (Rz : Int32 × St), fn_X12_come_38   n v1 v2 v3 v4 v5 v6 z = some Rz → SA z Rz.2 a k := by
  intro n
  induction n with
  | zero => intro v1 v2 v3 v4 v5 v6 z  Rz h; cases h
  | succ n ih =>
    intro v1 v2 v3 v4 v5 v6 z  Rz h
    rw [fn_X12_come_38] at h
    rcases Decidable.em ((z.1 172 44) ≤ v6) with c1 | c1
    · rw [if_pos c1] at h
      obtain ⟨r3, z4, h2, h⟩ := bd_s h
      refine SA.tr (ff_X12_divisor   trivial h2) ?_
      rcases Decidable.em (v2 = 0) with c5 | c5
      · rw [if_pos c5] at h
        obtain ⟨g7, h⟩ := gd_s h
        cases h
        exact SA.rf
      · rw [if_neg c5] at h
        obtain ⟨g6, h⟩ := gd_s h
        cases h
        exact SA.rf
    · rw [if_neg c1] at h
      rcases Decidable.em (((v1 >>> (v6 &&& 31)) &&& 1) = 0) with c8 | c8
      · rw [if_pos c8] at h
        exact ff_X12_come_88  hf  ih v1 v2 v3 v4 v5 v6 z  h
      · rw [if_neg c8] at h
        rcases Decidable.em ((v3 + 1) ≤ 4) with c9 | c9
        · rw [if_pos c9] at h
          obtain ⟨g10, h⟩ := gd_s h
          obtain ⟨v4_11, e_v4_11, h⟩ := nm_s h
          obtain ⟨v5_12, e_v5_12, h⟩ := nm_s h
          exact ff_X12_come_88  hf  ih v1 v2 (v3 + 1) v4_11 v5_12 v6 z  h
        · rw [if_neg c9] at h
          cases h
          exact SA.rf
theorem ff_X12_come {a k : Nat} {v1 : Int32} {v2 : Int32} {z : St} {Rz : Int32 × St}  (hf : Nf_X12_come  a k) (h : fn_X12_come  v1 v2 z = some Rz) : SA z Rz.2 a k := by
  unfold fn_X12_come at h
  obtain ⟨r2, z3, h1, h⟩ := bd_s h
  refine SA.tr (ff_X12_isIn   trivial h1) ?_
  rcases Decidable.em (r2 = 0) with c4 | c4
  · rw [if_pos c4] at h
    cases h
    exact SA.rf
  · rw [if_neg c4] at h
    obtain ⟨r6, z7, h5, h⟩ := bd_s h
    refine SA.tr (ff_X12_isIn   trivial h5) ?_
    rcases Decidable.em (r6 = 0) with c8 | c8
    · rw [if_pos c8] at h
      cases h
      exact SA.rf
    · rw [if_neg c8] at h
      exact ff_X12_come_38  hf   fu v1 v2 0 1 1 0 z7  _ h
theorem ff_X12_lies {a k : Nat} {v1 : Int32} {z : St} {Rz : Int32 × St}  (hf : Nf_X12_lies  a k) (h : fn_X12_lies  v1 z = some Rz) : SA z Rz.2 a k := by
  unfold fn_X12_lies at h
  obtain ⟨r2, z3, h1, h⟩ := bd_s h
  refine SA.tr (ff_X12_isIn   trivial h1) ?_
  rcases Decidable.em (r2 = 0) with c4 | c4
  · rw [if_pos c4] at h
    cases h
    exact SA.rf
  · rw [if_neg c4] at h
    obtain ⟨g5, h⟩ := gd_s h
    cases h
    exact SA.rf
theorem ff_X12_tell {a k : Nat} {v1 : Int32} {v2 : Int32} {v3 : Int32} {z : St} {Rz : Int32 × St}  (hf : Nf_X12_tell  a k) (h : fn_X12_tell  v1 v2 v3 z = some Rz) : SA z Rz.2 a k := by
  unfold fn_X12_tell at h
  rcases Decidable.em ((z.1 172 71) = 30) with c1 | c1
  · rw [if_pos c1] at h
    cases h
    exact SA.rf
  · rw [if_neg c1] at h
    rcases Decidable.em ((z.1 172 43) = 0) with c2 | c2
    · rw [if_pos c2] at h
      cases h
      exact SA.rf
    · rw [if_neg c2] at h
      obtain ⟨g3, h⟩ := gd_s h
      obtain ⟨z4, e_z4, h⟩ := nm_s h
      refine SA.tr (sa_Ia e_z4 hf.1) ?_
      obtain ⟨g5, h⟩ := gd_s h
      obtain ⟨z6, e_z6, h⟩ := nm_s h
      refine SA.tr (sa_Ia e_z6 hf.2.1) ?_
      obtain ⟨g7, h⟩ := gd_s h
      obtain ⟨g8, h⟩ := gd_s h
      obtain ⟨z9, e_z9, h⟩ := nm_s h
      refine SA.tr (sa_Ia e_z9 hf.2.2.1) ?_
      obtain ⟨g10, h⟩ := gd_s h
      obtain ⟨z11, e_z11, h⟩ := nm_s h
      refine SA.tr (sa_Ia e_z11 hf.2.2.2.1) ?_
      obtain ⟨g12, h⟩ := gd_s h
      obtain ⟨z13, e_z13, h⟩ := nm_s h
      refine SA.tr (sa_Ia e_z13 hf.2.2.2.2.1) ?_
      obtain ⟨z14, e_z14, h⟩ := nm_s h
      refine SA.tr (sa_I e_z14 hf.2.2.2.2.2) ?_
      cases h
      exact SA.rf
theorem ff_X12_sized {a k : Nat} {v1 : Int32} {v2 : Int32} {z : St} {Rz : Int32 × St}  (hf : Nf_X12_sized  a k) (h : fn_X12_sized  v1 v2 z = some Rz) : SA z Rz.2 a k := by
  unfold fn_X12_sized at h
  obtain ⟨r2, z3, h1, h⟩ := bd_s h
  refine SA.tr (ff_X12_isIn   trivial h1) ?_
  rcases Decidable.em (r2 = 0) with c4 | c4
  · rw [if_pos c4] at h
    cases h
    exact SA.rf
  · rw [if_neg c4] at h
    obtain ⟨r6, z7, h5, h⟩ := bd_s h
    refine SA.tr (ff_X12_tell   ⟨hf.1, hf.2.1, hf.2.2.1, hf.2.2.2.1, hf.2.2.2.2.1, hf.2.2.2.2.2⟩ h5) ?_
    cases h
    exact SA.rf
theorem ff_X12_rimmed {a k : Nat} {v1 : Int32} {v2 : Int32} {z : St} {Rz : Int32 × St}  (hf : Nf_X12_rimmed  a k) (h : fn_X12_rimmed  v1 v2 z = some Rz) : SA z Rz.2 a k := by
  unfold fn_X12_rimmed at h
  obtain ⟨r2, z3, h1, h⟩ := bd_s h
  refine SA.tr (ff_X12_isIn   trivial h1) ?_
  rcases Decidable.em (r2 = 0) with c4 | c4
  · rw [if_pos c4] at h
    cases h
    exact SA.rf
  · rw [if_neg c4] at h
    obtain ⟨r6, z7, h5, h⟩ := bd_s h
    refine SA.tr (ff_X12_tell   ⟨hf.1, hf.2.1, hf.2.2.1, hf.2.2.2.1, hf.2.2.2.2.1, hf.2.2.2.2.2⟩ h5) ?_
    cases h
    exact SA.rf
theorem ff_X12_untell {a k : Nat} {v1 : Int32} {z : St} {Rz : Int32 × St}  (hf : Nf_X12_untell  a k) (h : fn_X12_untell  v1 z = some Rz) : SA z Rz.2 a k := by
  unfold fn_X12_untell at h
  obtain ⟨r2, z3, h1, h⟩ := bd_s h
  refine SA.tr (ff_X12_isIn   trivial h1) ?_
  rcases Decidable.em (r2 = 0) with c4 | c4
  · rw [if_pos c4] at h
    cases h
    exact SA.rf
  · rw [if_neg c4] at h
    obtain ⟨g5, h⟩ := gd_s h
    rcases Decidable.em ((z3.1 209 (Int32.toNatClampNeg v1)) < 0) with c6 | c6
    · rw [if_pos c6] at h
      obtain ⟨g7, h⟩ := gd_s h
      obtain ⟨z8, e_z8, h⟩ := nm_s h
      refine SA.tr (sa_Ia e_z8 hf) ?_
      cases h
      exact SA.rf
    · rw [if_neg c6] at h
      cases h
      exact SA.rf
theorem ff_X12_later {a k : Nat} {v1 : Int32} {z : St} {Rz : Int32 × St}  (hf : Nf_X12_later  a k) (h : fn_X12_later  v1 z = some Rz) : SA z Rz.2 a k := by
  unfold fn_X12_later at h
  rcases Decidable.em (v1 < 0) with c1 | c1
  · rw [if_pos c1] at h
    cases h
    exact SA.rf
  · rw [if_neg c1] at h
    rcases Decidable.em (1000 < v1) with c2 | c2
    · rw [if_pos c2] at h
      cases h
      exact SA.rf
    · rw [if_neg c2] at h
      rcases Decidable.em (((z.1 172 72) + v1) ≤ 100000) with c3 | c3
      · rw [if_pos c3] at h
        obtain ⟨z4, e_z4, h⟩ := nm_s h
        refine SA.tr (sa_I e_z4 hf) ?_
        cases h
        exact SA.rf
      · rw [if_neg c3] at h
        cases h
        exact SA.rf
theorem ff_X12_hasIcing_46 {a k : Nat} (hf : Nf_X12_hasIcing  a k) {k6 : Int32 → Int32 → Int32 → Int32 → Int32 → St → Option (Int32 × St)} (hk_6 : ∀ (v1 : Int32) (v2 : Int32) (v3 : Int32) (v4 : Int32) (v5 : Int32) (z : St)  (Rz : Int32 × St), k6 v1 v2 v3 v4 v5 z = some Rz → SA z Rz.2 a k) {k15 : Int32 → Int32 → Int32 → Int32 → Int32 → Int32 → St → Option (Int32 × St)} (hk_15 : ∀ (v1 : Int32) (v2 : Int32) (v3 : Int32) (v4 : Int32) (v5 : Int32) (v6 : Int32) (z : St)  (Rz : Int32 × St), k15 v1 v2 v3 v4 v5 v6 z = some Rz → SA z Rz.2 a k) (v1 : Int32) (v2 : Int32) (v3 : Int32) (v5 : Int32) (v6 : Int32) (tv0 : Int32) (z : St)  {Rz : Int32 × St} (h : fn_X12_hasIcing_46  k6 k15 v1 v2 v3 v5 v6 tv0 z = some Rz) : SA z Rz.2 a k := by
  unfold fn_X12_hasIcing_46 at h
  exact hk_15 v1 v2 v3 tv0 v5 (v6 + 1) z  _ h
theorem ff_X12_hasIcing_41 {a k : Nat} (hf : Nf_X12_hasIcing  a k) {k6 : Int32 → Int32 → Int32 → Int32 → Int32 → St → Option (Int32 × St)} (hk_6 : ∀ (v1 : Int32) (v2 : Int32) (v3 : Int32) (v4 : Int32) (v5 : Int32) (z : St)  (Rz : Int32 × St), k6 v1 v2 v3 v4 v5 z = some Rz → SA z Rz.2 a k) {k15 : Int32 → Int32 → Int32 → Int32 → Int32 → Int32 → St → Option (Int32 × St)} (hk_15 : ∀ (v1 : Int32) (v2 : Int32) (v3 : Int32) (v4 : Int32) (v5 : Int32) (v6 : Int32) (z : St)  (Rz : Int32 × St), k15 v1 v2 v3 v4 v5 v6 z = some Rz → SA z Rz.2 a k) (v1 : Int32) (v2 : Int32) (v3 : Int32) (v5 : Int32) (v6 : Int32) (z : St)  {Rz : Int32 × St} (h : fn_X12_hasIcing_41  k6 k15 v1 v2 v3 v5 v6 z = some Rz) : SA z Rz.2 a k := by
  unfold fn_X12_hasIcing_41 at h
  exact ff_X12_hasIcing_46  hf  hk_6 hk_15 v1 v2 v3 v5 v6 1 z  h
theorem ff_X12_hasIcing_15 {a k : Nat} (hf : Nf_X12_hasIcing  a k) {k6 : Int32 → Int32 → Int32 → Int32 → Int32 → St → Option (Int32 × St)} (hk_6 : ∀ (v1 : Int32) (v2 : Int32) (v3 : Int32) (v4 : Int32) (v5 : Int32) (z : St)  (Rz : Int32 × St), k6 v1 v2 v3 v4 v5 z = some Rz → SA z Rz.2 a k) : ∀ (n : Nat) (v1 : Int32) (v2 : Int32) (v3 : Int32) (v4 : Int32) (v5 : Int32) (v6 : Int32) (z : St)  (Rz : Int32 × St), fn_X12_hasIcing_15  k6 n v1 v2 v3 v4 v5 v6 z = some Rz → SA z Rz.2 a k := by
  intro n
  induction n with
  | zero => intro v1 v2 v3 v4 v5 v6 z  Rz h; cases h
  | succ n ih =>
    intro v1 v2 v3 v4 v5 v6 z  Rz h
    rw [fn_X12_hasIcing_15] at h
    rcases Decidable.em (v2 ≤ v6) with c1 | c1
    · rw [if_pos c1] at h
      exact hk_6 v1 v2 v3 v4 (v5 + 1) z  _ h
    · rw [if_neg c1] at h
      rcases Decidable.em (v4 = 0) with c2 | c2
      · rw [if_pos c2] at h
        obtain ⟨r4, z5, h3, h⟩ := bd_s h
        refine SA.tr (ff_X12_gridIcing   trivial h3) ?_
        rcases Decidable.em (r4 = v3) with c6 | c6
        · rw [if_pos c6] at h
          exact ff_X12_hasIcing_41  hf  hk_6 ih v1 v2 v3 v5 v6 z5  h
        · rw [if_neg c6] at h
          exact ff_X12_hasIcing_46  hf  hk_6 ih v1 v2 v3 v5 v6 0 z5  h
      · rw [if_neg c2] at h
        exact ff_X12_hasIcing_41  hf  hk_6 ih v1 v2 v3 v5 v6 z  h
theorem ff_X12_hasIcing_6 {a k : Nat} (hf : Nf_X12_hasIcing  a k) : ∀ (n : Nat) (v1 : Int32) (v2 : Int32) (v3 : Int32) (v4 : Int32) (v5 : Int32) (z : St)  (Rz : Int32 × St), fn_X12_hasIcing_6   n v1 v2 v3 v4 v5 z = some Rz → SA z Rz.2 a k := by
  intro n
  induction n with
  | zero => intro v1 v2 v3 v4 v5 z  Rz h; cases h
  | succ n ih =>
    intro v1 v2 v3 v4 v5 z  Rz h
    rw [fn_X12_hasIcing_6] at h
    rcases Decidable.em (v1 ≤ v5) with c1 | c1
    · rw [if_pos c1] at h
      obtain ⟨g2, h⟩ := gd_s h
      cases h
      exact SA.rf
    · rw [if_neg c1] at h
      exact ff_X12_hasIcing_15  hf  ih fu v1 v2 v3 v4 v5 0 z  _ h
theorem ff_X12_hasIcing {a k : Nat} {v1 : Int32} {v2 : Int32} {v3 : Int32} {z : St} {Rz : Int32 × St}  (hf : Nf_X12_hasIcing  a k) (h : fn_X12_hasIcing  v1 v2 v3 z = some Rz) : SA z Rz.2 a k := by
  unfold fn_X12_hasIcing at h
  exact ff_X12_hasIcing_6  hf   fu v1 v2 v3 0 0 z  _ h
theorem ff_X12_isSo {a k : Nat} {v1 : Int32} {v2 : Int32} {v3 : Int32} {z : St} {Rz : Int32 × St}  (hf : Nf_X12_isSo  a k) (h : fn_X12_isSo  v1 v2 v3 z = some Rz) : SA z Rz.2 a k := by
  unfold fn_X12_isSo at h
  obtain ⟨g1, h⟩ := gd_s h
  rcases Decidable.em ((z.1 206 (Int32.toNatClampNeg v1)) = 0) with c2 | c2
  · rw [if_pos c2] at h
    obtain ⟨g8, h⟩ := gd_s h
    obtain ⟨g9, h⟩ := gd_s h
    obtain ⟨g10, h⟩ := gd_s h
    rcases Decidable.em ((((z.1 188 (Int32.toNatClampNeg 0)) / v2) * ((z.1 189 (Int32.toNatClampNeg 0)) / v3)) = (z.1 207 (Int32.toNatClampNeg v1))) with c11 | c11
    · rw [if_pos c11] at h
      cases h
      exact SA.rf
    · rw [if_neg c11] at h
      cases h
      exact SA.rf
  · rw [if_neg c2] at h
    obtain ⟨g3, h⟩ := gd_s h
    obtain ⟨r5, z6, h4, h⟩ := bd_s h
    refine SA.tr (ff_X12_hasIcing   trivial h4) ?_
    obtain ⟨g7, h⟩ := gd_s h
    cases h
    exact SA.rf
theorem ff_X12_isFit_101 {a k : Nat} (hf : Nf_X12_isFit  a k) {k27 : Int32 → Int32 → Int32 → Int32 → Int32 → St → Option (Int32 × St)} (hk_27 : ∀ (v1 : Int32) (v2 : Int32) (v3 : Int32) (v4 : Int32) (v5 : Int32) (z : St)  (Rz : Int32 × St), k27 v1 v2 v3 v4 v5 z = some Rz → SA z Rz.2 a k) (v1 : Int32) (v2 : Int32) (v3 : Int32) (v4 : Int32) (v5 : Int32) (z : St)  {Rz : Int32 × St} (h : fn_X12_isFit_101  k27 v1 v2 v3 v4 v5 z = some Rz) : SA z Rz.2 a k := by
  unfold fn_X12_isFit_101 at h
  exact hk_27 v1 v2 v3 v4 (v5 + 1) z  _ h
theorem ff_X12_isFit_99 {a k : Nat} (hf : Nf_X12_isFit  a k) {k27 : Int32 → Int32 → Int32 → Int32 → Int32 → St → Option (Int32 × St)} (hk_27 : ∀ (v1 : Int32) (v2 : Int32) (v3 : Int32) (v4 : Int32) (v5 : Int32) (z : St)  (Rz : Int32 × St), k27 v1 v2 v3 v4 v5 z = some Rz → SA z Rz.2 a k) (v1 : Int32) (v2 : Int32) (v3 : Int32) (v5 : Int32) (tv0 : Int32) (z : St)  {Rz : Int32 × St} (h : fn_X12_isFit_99  k27 v1 v2 v3 v5 tv0 z = some Rz) : SA z Rz.2 a k := by
  unfold fn_X12_isFit_99 at h
  exact ff_X12_isFit_101  hf  hk_27 v1 v2 v3 tv0 v5 z  h
theorem ff_X12_isFit_76 {a k : Nat} (hf : Nf_X12_isFit  a k) {k27 : Int32 → Int32 → Int32 → Int32 → Int32 → St → Option (Int32 × St)} (hk_27 : ∀ (v1 : Int32) (v2 : Int32) (v3 : Int32) (v4 : Int32) (v5 : Int32) (z : St)  (Rz : Int32 × St), k27 v1 v2 v3 v4 v5 z = some Rz → SA z Rz.2 a k) (v1 : Int32) (v2 : Int32) (v3 : Int32) (v5 : Int32) (z : St)  {Rz : Int32 × St} (h : fn_X12_isFit_76  k27 v1 v2 v3 v5 z = some Rz) : SA z Rz.2 a k := by
  unfold fn_X12_isFit_76 at h
  obtain ⟨r2, z3, h1, h⟩ := bd_s h
  refine SA.tr (ff_X12_isSo   trivial h1) ?_
  obtain ⟨g4, h⟩ := gd_s h
  rcases Decidable.em (r2 = (z3.1 210 (Int32.toNatClampNeg v5))) with c5 | c5
  · rw [if_pos c5] at h
    exact ff_X12_isFit_99  hf  hk_27 v1 v2 v3 v5 1 z3  h
  · rw [if_neg c5] at h
    exact ff_X12_isFit_99  hf  hk_27 v1 v2 v3 v5 0 z3  h
theorem ff_X12_isFit_27 {a k : Nat} (hf : Nf_X12_isFit  a k) : ∀ (n : Nat) (v1 : Int32) (v2 : Int32) (v3 : Int32) (v4 : Int32) (v5 : Int32) (z : St)  (Rz : Int32 × St), fn_X12_isFit_27   n v1 v2 v3 v4 v5 z = some Rz → SA z Rz.2 a k := by
  intro n
  induction n with
  | zero => intro v1 v2 v3 v4 v5 z  Rz h; cases h
  | succ n ih =>
    intro v1 v2 v3 v4 v5 z  Rz h
    rw [fn_X12_isFit_27] at h
    rcases Decidable.em ((z.1 172 71) ≤ v5) with c1 | c1
    · rw [if_pos c1] at h
      obtain ⟨g2, h⟩ := gd_s h
      cases h
      exact SA.rf
    · rw [if_neg c1] at h
      rcases Decidable.em (v4 = 0) with c3 | c3
      · rw [if_pos c3] at h
        obtain ⟨g4, h⟩ := gd_s h
        cases h
        exact SA.rf
      · rw [if_neg c3] at h
        obtain ⟨g5, h⟩ := gd_s h
        rcases Decidable.em (v3 < (z.1 208 (Int32.toNatClampNeg v5))) with c6 | c6
        · rw [if_pos c6] at h
          exact ff_X12_isFit_101  hf  ih v1 v2 v3 v4 v5 z  h
        · rw [if_neg c6] at h
          obtain ⟨g7, h⟩ := gd_s h
          rcases Decidable.em ((z.1 209 (Int32.toNatClampNeg v5)) < 0) with c8 | c8
          · rw [if_pos c8] at h
            exact ff_X12_isFit_76  hf  ih v1 v2 v3 v5 z  h
          · rw [if_neg c8] at h
            obtain ⟨g9, h⟩ := gd_s h
            rcases Decidable.em (v3 < (z.1 209 (Int32.toNatClampNeg v5))) with c10 | c10
            · rw [if_pos c10] at h
              exact ff_X12_isFit_76  hf  ih v1 v2 v3 v5 z  h
            · rw [if_neg c10] at h
              exact ff_X12_isFit_101  hf  ih v1 v2 v3 v4 v5 z  h
theorem ff_X12_isFit_22 {a k : Nat} (hf : Nf_X12_isFit  a k) (v1 : Int32) (v2 : Int32) (v3 : Int32) (tv0 : Int32) (z : St)  {Rz : Int32 × St} (h : fn_X12_isFit_22   v1 v2 v3 tv0 z = some Rz) : SA z Rz.2 a k := by
  unfold fn_X12_isFit_22 at h
  exact ff_X12_isFit_27  hf   fu v1 v2 v3 tv0 0 z  _ h
theorem ff_X12_isFit_21 {a k : Nat} (hf : Nf_X12_isFit  a k) (v1 : Int32) (v2 : Int32) (v3 : Int32) (z : St)  {Rz : Int32 × St} (h : fn_X12_isFit_21   v1 v2 v3 z = some Rz) : SA z Rz.2 a k := by
  unfold fn_X12_isFit_21 at h
  exact ff_X12_isFit_22  hf   v1 v2 v3 0 z  h
theorem ff_X12_isFit {a k : Nat} {v1 : Int32} {v2 : Int32} {v3 : Int32} {z : St} {Rz : Int32 × St}  (hf : Nf_X12_isFit  a k) (h : fn_X12_isFit  v1 v2 v3 z = some Rz) : SA z Rz.2 a k := by
  unfold fn_X12_isFit at h
  rcases Decidable.em ((z.1 172 43) ≤ 0) with c1 | c1
  · rw [if_pos c1] at h
    exact ff_X12_isFit_21  hf   v1 v2 v3 z  h
  · rw [if_neg c1] at h
    obtain ⟨r3, z4, h2, h⟩ := bd_s h
    refine SA.tr (ff_X12_isGrid   trivial h2) ?_
    rcases Decidable.em (r3 = 0) with c5 | c5
    · rw [if_pos c5] at h
      exact ff_X12_isFit_21  hf   v1 v2 v3 z4  h
    · rw [if_neg c5] at h
      exact ff_X12_isFit_22  hf   v1 v2 v3 1 z4  h
theorem ff_X12_fits_13 {a k : Nat} (hf : Nf_X12_fits  a k) {k4 : Int32 → Int32 → Int32 → St → Option (Int32 × St)} (hk_4 : ∀ (v1 : Int32) (v2 : Int32) (v3 : Int32) (z : St)  (Rz : Int32 × St), k4 v1 v2 v3 z = some Rz → SA z Rz.2 a k) : ∀ (n : Nat) (v1 : Int32) (v2 : Int32) (v3 : Int32) (v4 : Int32) (z : St)  (Rz : Int32 × St), fn_X12_fits_13  k4 n v1 v2 v3 v4 z = some Rz → SA z Rz.2 a k := by
  intro n
  induction n with
  | zero => intro v1 v2 v3 v4 z  Rz h; cases h
  | succ n ih =>
    intro v1 v2 v3 v4 z  Rz h
    rw [fn_X12_fits_13] at h
    rcases Decidable.em (8 < v4) with c1 | c1
    · rw [if_pos c1] at h
      exact hk_4 v1 v2 (v3 + 1) z  _ h
    · rw [if_neg c1] at h
      obtain ⟨r3, z4, h2, h⟩ := bd_s h
      refine SA.tr (ff_X12_isFit   trivial h2) ?_
      obtain ⟨r6, z7, h5, h⟩ := bd_s h
      refine SA.tr (ff_X12_truth   trivial h5) ?_
      obtain ⟨v2_8, e_v2_8, h⟩ := nm_s h
      exact ih v1 v2_8 v3 (v4 + 1) z7  _ h
theorem ff_X12_fits_4 {a k : Nat} (hf : Nf_X12_fits  a k) : ∀ (n : Nat) (v1 : Int32) (v2 : Int32) (v3 : Int32) (z : St)  (Rz : Int32 × St), fn_X12_fits_4   n v1 v2 v3 z = some Rz → SA z Rz.2 a k := by
  intro n
  induction n with
  | zero => intro v1 v2 v3 z  Rz h; cases h
  | succ n ih =>
    intro v1 v2 v3 z  Rz h
    rw [fn_X12_fits_4] at h
    rcases Decidable.em (8 < v3) with c1 | c1
    · rw [if_pos c1] at h
      cases h
      exact SA.rf
    · rw [if_neg c1] at h
      exact ff_X12_fits_13  hf  ih fu v1 v2 v3 1 z  _ h
theorem ff_X12_fits {a k : Nat} {v1 : Int32} {z : St} {Rz : Int32 × St}  (hf : Nf_X12_fits  a k) (h : fn_X12_fits  v1 z = some Rz) : SA z Rz.2 a k := by
  unfold fn_X12_fits at h
  exact ff_X12_fits_4  hf   fu v1 0 1 z  _ h
theorem ff_X12_sure_80 {a k : Nat} (hf : Nf_X12_sure  a k) {k16 : Int32 → Int32 → Int32 → Int32 → St → Option (Int32 × St)} (hk_16 : ∀ (v1 : Int32) (v2 : Int32) (v3 : Int32) (v4 : Int32) (z : St)  (Rz : Int32 × St), k16 v1 v2 v3 v4 z = some Rz → SA z Rz.2 a k) {k26 : Int32 → Int32 → Int32 → Int32 → Int32 → St → Option (Int32 × St)} (hk_26 : ∀ (v1 : Int32) (v2 : Int32) (v3 : Int32) (v4 : Int32) (v5 : Int32) (z : St)  (Rz : Int32 × St), k26 v1 v2 v3 v4 v5 z = some Rz → SA z Rz.2 a k) (v1 : Int32) (v2 : Int32) (v3 : Int32) (v4 : Int32) (v5 : Int32) (z : St)  {Rz : Int32 × St} (h : fn_X12_sure_80  k16 k26 v1 v2 v3 v4 v5 z = some Rz) : SA z Rz.2 a k := by
  unfold fn_X12_sure_80 at h
  exact hk_26 v1 v2 v3 v4 (v5 + 1) z  _ h
theorem ff_X12_sure_79 {a k : Nat} (hf : Nf_X12_sure  a k) {k16 : Int32 → Int32 → Int32 → Int32 → St → Option (Int32 × St)} (hk_16 : ∀ (v1 : Int32) (v2 : Int32) (v3 : Int32) (v4 : Int32) (z : St)  (Rz : Int32 × St), k16 v1 v2 v3 v4 z = some Rz → SA z Rz.2 a k) {k26 : Int32 → Int32 → Int32 → Int32 → Int32 → St → Option (Int32 × St)} (hk_26 : ∀ (v1 : Int32) (v2 : Int32) (v3 : Int32) (v4 : Int32) (v5 : Int32) (z : St)  (Rz : Int32 × St), k26 v1 v2 v3 v4 v5 z = some Rz → SA z Rz.2 a k) (v1 : Int32) (v2 : Int32) (v4 : Int32) (v5 : Int32) (tv0 : Int32) (z : St)  {Rz : Int32 × St} (h : fn_X12_sure_79  k16 k26 v1 v2 v4 v5 tv0 z = some Rz) : SA z Rz.2 a k := by
  unfold fn_X12_sure_79 at h
  exact ff_X12_sure_80  hf  hk_16 hk_26 v1 v2 tv0 v4 v5 z  h
theorem ff_X12_sure_72 {a k : Nat} (hf : Nf_X12_sure  a k) {k16 : Int32 → Int32 → Int32 → Int32 → St → Option (Int32 × St)} (hk_16 : ∀ (v1 : Int32) (v2 : Int32) (v3 : Int32) (v4 : Int32) (z : St)  (Rz : Int32 × St), k16 v1 v2 v3 v4 z = some Rz → SA z Rz.2 a k) {k26 : Int32 → Int32 → Int32 → Int32 → Int32 → St → Option (Int32 × St)} (hk_26 : ∀ (v1 : Int32) (v2 : Int32) (v3 : Int32) (v4 : Int32) (v5 : Int32) (z : St)  (Rz : Int32 × St), k26 v1 v2 v3 v4 v5 z = some Rz → SA z Rz.2 a k) (v1 : Int32) (v2 : Int32) (v4 : Int32) (v5 : Int32) (v6 : Int32) (z : St)  {Rz : Int32 × St} (h : fn_X12_sure_72  k16 k26 v1 v2 v4 v5 v6 z = some Rz) : SA z Rz.2 a k := by
  unfold fn_X12_sure_72 at h
  exact ff_X12_sure_79  hf  hk_16 hk_26 v1 v2 v4 v5 v6 z  h
theorem ff_X12_sure_59 {a k : Nat} (hf : Nf_X12_sure  a k) {k16 : Int32 → Int32 → Int32 → Int32 → St → Option (Int32 × St)} (hk_16 : ∀ (v1 : Int32) (v2 : Int32) (v3 : Int32) (v4 : Int32) (z : St)  (Rz : Int32 × St), k16 v1 v2 v3 v4 z = some Rz → SA z Rz.2 a k) {k26 : Int32 → Int32 → Int32 → Int32 → Int32 → St → Option (Int32 × St)} (hk_26 : ∀ (v1 : Int32) (v2 : Int32) (v3 : Int32) (v4 : Int32) (v5 : Int32) (z : St)  (Rz : Int32 × St), k26 v1 v2 v3 v4 v5 z = some Rz → SA z Rz.2 a k) (v1 : Int32) (v2 : Int32) (v3 : Int32) (v4 : Int32) (v5 : Int32) (tv0 : Int32) (z : St)  {Rz : Int32 × St} (h : fn_X12_sure_59  k16 k26 v1 v2 v3 v4 v5 tv0 z = some Rz) : SA z Rz.2 a k := by
  unfold fn_X12_sure_59 at h
  rcases Decidable.em (v3 = (-1)) with c1 | c1
  · rw [if_pos c1] at h
    exact ff_X12_sure_72  hf  hk_16 hk_26 v1 v2 v4 v5 tv0 z  h
  · rw [if_neg c1] at h
    rcases Decidable.em (v3 = tv0) with c2 | c2
    · rw [if_pos c2] at h
      exact ff_X12_sure_72  hf  hk_16 hk_26 v1 v2 v4 v5 tv0 z  h
    · rw [if_neg c2] at h
      exact ff_X12_sure_79  hf  hk_16 hk_26 v1 v2 v4 v5 (-2) z  h
theorem ff_X12_sure_26 {a k : Nat} (hf : Nf_X12_sure  a k) {k16 : Int32 → Int32 → Int32 → Int32 → St → Option (Int32 × St)} (hk_16 : ∀ (v1 : Int32) (v2 : Int32) (v3 : Int32) (v4 : Int32) (z : St)  (Rz : Int32 × St), k16 v1 v2 v3 v4 z = some Rz → SA z Rz.2 a k) : ∀ (n : Nat) (v1 : Int32) (v2 : Int32) (v3 : Int32) (v4 : Int32) (v5 : Int32) (z : St)  (Rz : Int32 × St), fn_X12_sure_26  k16 n v1 v2 v3 v4 v5 z = some Rz → SA z Rz.2 a k := by
  intro n
  induction n with
  | zero => intro v1 v2 v3 v4 v5 z  Rz h; cases h
  | succ n ih =>
    intro v1 v2 v3 v4 v5 z  Rz h
    rw [fn_X12_sure_26] at h
    rcases Decidable.em (8 < v5) with c1 | c1
    · rw [if_pos c1] at h
      exact hk_16 v1 v2 v3 (v4 + 1) z  _ h
    · rw [if_neg c1] at h
      obtain ⟨r3, z4, h2, h⟩ := bd_s h
      refine SA.tr (ff_X12_isFit   trivial h2) ?_
      rcases Decidable.em (r3 = 0) with c5 | c5
      · rw [if_pos c5] at h
        exact ff_X12_sure_80  hf  hk_16 ih v1 v2 v3 v4 v5 z4  h
      · rw [if_neg c5] at h
        rcases Decidable.em (v1 = 0) with c6 | c6
        · rw [if_pos c6] at h
          exact ff_X12_sure_59  hf  hk_16 ih v1 v2 v3 v4 v5 v4 z4  h
        · rw [if_neg c6] at h
          exact ff_X12_sure_59  hf  hk_16 ih v1 v2 v3 v4 v5 v5 z4  h
theorem ff_X12_sure_16 {a k : Nat} (hf : Nf_X12_sure  a k) : ∀ (n : Nat) (v1 : Int32) (v2 : Int32) (v3 : Int32) (v4 : Int32) (z : St)  (Rz : Int32 × St), fn_X12_sure_16   n v1 v2 v3 v4 z = some Rz → SA z Rz.2 a k := by
  intro n
  induction n with
  | zero => intro v1 v2 v3 v4 z  Rz h; cases h
  | succ n ih =>
    intro v1 v2 v3 v4 z  Rz h
    rw [fn_X12_sure_16] at h
    rcases Decidable.em (8 < v4) with c1 | c1
    · rw [if_pos c1] at h
      cases h
      exact SA.rf
    · rw [if_neg c1] at h
      exact ff_X12_sure_26  hf  ih fu v1 v2 v3 v4 1 z  _ h
theorem ff_X12_sure {a k : Nat} {v1 : Int32} {v2 : Int32} {z : St} {Rz : Int32 × St}  (hf : Nf_X12_sure  a k) (h : fn_X12_sure  v1 v2 z = some Rz) : SA z Rz.2 a k := by
  unfold fn_X12_sure at h
  obtain ⟨r2, z3, h1, h⟩ := bd_s h
  refine SA.tr (ff_X12_isIn   trivial h1) ?_
  rcases Decidable.em (r2 = 0) with c4 | c4
  · rw [if_pos c4] at h
    cases h
    exact SA.rf
  · rw [if_neg c4] at h
    exact ff_X12_sure_16  hf   fu v1 v2 (-1) 1 z3  _ h
theorem ff_X12_leftBy_61 {a k : Nat} (hf : Nf_X12_leftBy  a k) {k8 : Int32 → Int32 → Int32 → Int32 → Int32 → St → Option (Int32 × St)} (hk_8 : ∀ (v1 : Int32) (v2 : Int32) (v3 : Int32) (v4 : Int32) (v5 : Int32) (z : St)  (Rz : Int32 × St), k8 v1 v2 v3 v4 v5 z = some Rz → SA z Rz.2 a k) {k18 : Int32 → Int32 → Int32 → Int32 → Int32 → Int32 → St → Option (Int32 × St)} (hk_18 : ∀ (v1 : Int32) (v2 : Int32) (v3 : Int32) (v4 : Int32) (v5 : Int32) (v6 : Int32) (z : St)  (Rz : Int32 × St), k18 v1 v2 v3 v4 v5 v6 z = some Rz → SA z Rz.2 a k) (v1 : Int32) (v2 : Int32) (v3 : Int32) (v4 : Int32) (v5 : Int32) (v6 : Int32) (z : St)  {Rz : Int32 × St} (h : fn_X12_leftBy_61  k8 k18 v1 v2 v3 v4 v5 v6 z = some Rz) : SA z Rz.2 a k := by
  unfold fn_X12_leftBy_61 at h
  exact hk_18 v1 v2 v3 v4 v5 (v6 + 1) z  _ h
theorem ff_X12_leftBy_18 {a k : Nat} (hf : Nf_X12_leftBy  a k) {k8 : Int32 → Int32 → Int32 → Int32 → Int32 → St → Option (Int32 × St)} (hk_8 : ∀ (v1 : Int32) (v2 : Int32) (v3 : Int32) (v4 : Int32) (v5 : Int32) (z : St)  (Rz : Int32 × St), k8 v1 v2 v3 v4 v5 z = some Rz → SA z Rz.2 a k) : ∀ (n : Nat) (v1 : Int32) (v2 : Int32) (v3 : Int32) (v4 : Int32) (v5 : Int32) (v6 : Int32) (z : St)  (Rz : Int32 × St), fn_X12_leftBy_18  k8 n v1 v2 v3 v4 v5 v6 z = some Rz → SA z Rz.2 a k := by
  intro n
  induction n with
  | zero => intro v1 v2 v3 v4 v5 v6 z  Rz h; cases h
  | succ n ih =>
    intro v1 v2 v3 v4 v5 v6 z  Rz h
    rw [fn_X12_leftBy_18] at h
    rcases Decidable.em (8 < v6) with c1 | c1
    · rw [if_pos c1] at h
      exact hk_8 v1 v2 v3 v4 (v5 + 1) z  _ h
    · rw [if_neg c1] at h
      obtain ⟨r3, z4, h2, h⟩ := bd_s h
      refine SA.tr (ff_X12_isFit   trivial h2) ?_
      rcases Decidable.em (r3 = 0) with c5 | c5
      · rw [if_pos c5] at h
        exact ff_X12_leftBy_61  hf  hk_8 ih v1 v2 v3 v4 v5 v6 z4  h
      · rw [if_neg c5] at h
        obtain ⟨r7, z8, h6, h⟩ := bd_s h
        refine SA.tr (ff_X12_hasIcing   trivial h6) ?_
        rcases Decidable.em (r7 = 0) with c9 | c9
        · rw [if_pos c9] at h
          exact ff_X12_leftBy_61  hf  hk_8 ih v1 v2 v3 (v4 + 1) v5 v6 z8  h
        · rw [if_neg c9] at h
          exact ff_X12_leftBy_61  hf  hk_8 ih v1 v2 (v3 + 1) v4 v5 v6 z8  h
theorem ff_X12_leftBy_8 {a k : Nat} (hf : Nf_X12_leftBy  a k) : ∀ (n : Nat) (v1 : Int32) (v2 : Int32) (v3 : Int32) (v4 : Int32) (v5 : Int32) (z : St)  (Rz : Int32 × St), fn_X12_leftBy_8   n v1 v2 v3 v4 v5 z = some Rz → SA z Rz.2 a k := by
  intro n
  induction n with
  | zero => intro v1 v2 v3 v4 v5 z  Rz h; cases h
  | succ n ih =>
    intro v1 v2 v3 v4 v5 z  Rz h
    rw [fn_X12_leftBy_8] at h
    rcases Decidable.em (8 < v5) with c1 | c1
    · rw [if_pos c1] at h
      rcases Decidable.em (v3 ≤ v4) with c2 | c2
      · rw [if_pos c2] at h
        cases h
        exact SA.rf
      · rw [if_neg c2] at h
        cases h
        exact SA.rf
    · rw [if_neg c1] at h
      exact ff_X12_leftBy_18  hf  ih fu v1 v2 v3 v4 v5 1 z  _ h
theorem ff_X12_leftBy {a k : Nat} {v1 : Int32} {v2 : Int32} {z : St} {Rz : Int32 × St}  (hf : Nf_X12_leftBy  a k) (h : fn_X12_leftBy  v1 v2 z = some Rz) : SA z Rz.2 a k := by
  unfold fn_X12_leftBy at h
  exact ff_X12_leftBy_8  hf   fu v1 v2 0 0 1 z  _ h
theorem ff_X12_ask_53 {a k : Nat} (hf : Nf_X12_ask  a k) {k24 : Int32 → Int32 → Int32 → Int32 → St → Option (Int32 × St)} (hk_24 : ∀ (v1 : Int32) (v2 : Int32) (v3 : Int32) (v4 : Int32) (z : St)  (Rz : Int32 × St), k24 v1 v2 v3 v4 z = some Rz → SA z Rz.2 a k) (v1 : Int32) (v2 : Int32) (v4 : Int32) (tv0 : Int32) (z : St)  {Rz : Int32 × St} (h : fn_X12_ask_53  k24 v1 v2 v4 tv0 z = some Rz) : SA z Rz.2 a k := by
  unfold fn_X12_ask_53 at h
  exact hk_24 v1 v2 tv0 (v4 + 1) z  _ h
theorem ff_X12_ask_24 {a k : Nat} (hf : Nf_X12_ask  a k) : ∀ (n : Nat) (v1 : Int32) (v2 : Int32) (v3 : Int32) (v4 : Int32) (z : St)  (Rz : Int32 × St), fn_X12_ask_24   n v1 v2 v3 v4 z = some Rz → SA z Rz.2 a k := by
  intro n
  induction n with
  | zero => intro v1 v2 v3 v4 z  Rz h; cases h
  | succ n ih =>
    intro v1 v2 v3 v4 z  Rz h
    rw [fn_X12_ask_24] at h
    rcases Decidable.em (32 < v4) with c1 | c1
    · rw [if_pos c1] at h
      rcases Decidable.em (v1 = 0) with c2 | c2
      · rw [if_pos c2] at h
        cases h
        exact SA.rf
      · rw [if_neg c2] at h
        obtain ⟨r4, z5, h3, h⟩ := bd_s h
        refine SA.tr (ff_X12_leftBy   trivial h3) ?_
        cases h
        exact SA.rf
    · rw [if_neg c1] at h
      obtain ⟨r7, z8, h6, h⟩ := bd_s h
      refine SA.tr (ff_X12_leftBy   trivial h6) ?_
      obtain ⟨r10, z11, h9, h⟩ := bd_s h
      refine SA.tr (ff_X12_leftBy   trivial h9) ?_
      rcases Decidable.em (r10 ≤ r7) with c12 | c12
      · rw [if_pos c12] at h
        exact ff_X12_ask_53  hf  ih v1 v2 v4 v3 z11  h
      · rw [if_neg c12] at h
        exact ff_X12_ask_53  hf  ih v1 v2 v4 v4 z11  h
theorem ff_X12_ask {a k : Nat} {v1 : Int32} {v2 : Int32} {z : St} {Rz : Int32 × St}  (hf : Nf_X12_ask  a k) (h : fn_X12_ask  v1 v2 z = some Rz) : SA z Rz.2 a k := by
  unfold fn_X12_ask at h
  obtain ⟨r2, z3, h1, h⟩ := bd_s h
  refine SA.tr (ff_X12_isIn   trivial h1) ?_
  rcases Decidable.em (r2 = 0) with c4 | c4
  · rw [if_pos c4] at h
    cases h
    exact SA.rf
  · rw [if_neg c4] at h
    obtain ⟨r6, z7, h5, h⟩ := bd_s h
    refine SA.tr (ff_X12_fits   trivial h5) ?_
    rcases Decidable.em (r6 = 0) with c8 | c8
    · rw [if_pos c8] at h
      cases h
      exact SA.rf
    · rw [if_neg c8] at h
      exact ff_X12_ask_24  hf   fu v1 v2 0 1 z7  _ h
theorem ff_X12_isBox {a k : Nat} {v0 : Int32} {z : St} {Rz : Int32 × St}  (hf : Nf_X12_isBox  a k) (h : fn_X12_isBox  v0 z = some Rz) : SA z Rz.2 a k := by
  unfold fn_X12_isBox at h
  rcases Decidable.em (v0 < 0) with c1 | c1
  · rw [if_pos c1] at h
    cases h
    exact SA.rf
  · rw [if_neg c1] at h
    rcases Decidable.em (3 ≤ v0) with c2 | c2
    · rw [if_pos c2] at h
      cases h
      exact SA.rf
    · rw [if_neg c2] at h
      cases h
      exact SA.rf
theorem ff_X12_image_18 {a k : Nat} (hf : Nf_X12_image  a k) : ∀ (n : Nat) (v1 : Int32) (v2 : Int32) (z : St)  (Rz : Int32 × St), fn_X12_image_18   n v1 v2 z = some Rz → SA z Rz.2 a k := by
  intro n
  induction n with
  | zero => intro v1 v2 z  Rz h; cases h
  | succ n ih =>
    intro v1 v2 z  Rz h
    rw [fn_X12_image_18] at h
    rcases Decidable.em (171 ≤ v2) with c1 | c1
    · rw [if_pos c1] at h
      cases h
      exact SA.rf
    · rw [if_neg c1] at h
      obtain ⟨g2, h⟩ := gd_s h
      obtain ⟨g3, h⟩ := gd_s h
      obtain ⟨z4, e_z4, h⟩ := nm_s h
      refine SA.tr (sa_Ia e_z4 hf.1) ?_
      exact ih v1 (v2 + 1) z4  _ h
theorem ff_X12_image {a k : Nat} {v1 : Int32} {z : St} {Rz : Int32 × St}  (hf : Nf_X12_image  a k) (h : fn_X12_image  v1 z = some Rz) : SA z Rz.2 a k := by
  unfold fn_X12_image at h
  obtain ⟨r2, z3, h1, h⟩ := bd_s h
  refine SA.tr (ff_X12_isBox   trivial h1) ?_
  rcases Decidable.em (r2 = 0) with c4 | c4
  · rw [if_pos c4] at h
    cases h
    exact SA.rf
  · rw [if_neg c4] at h
    obtain ⟨g5, h⟩ := gd_s h
    obtain ⟨z6, e_z6, h⟩ := nm_s h
    refine SA.tr (sa_Ia e_z6 hf.2) ?_
    exact ff_X12_image_18  hf   fu v1 0 z6  _ h
theorem ff_X12_restore_20 {a k : Nat} (hf : Nf_X12_restore  a k) : ∀ (n : Nat) (v1 : Int32) (v2 : Int32) (z : St)  (Rz : Int32 × St), fn_X12_restore_20   n v1 v2 z = some Rz → SA z Rz.2 a k := by
  intro n
  induction n with
  | zero => intro v1 v2 z  Rz h; cases h
  | succ n ih =>
    intro v1 v2 z  Rz h
    rw [fn_X12_restore_20] at h
    rcases Decidable.em (171 ≤ v2) with c1 | c1
    · rw [if_pos c1] at h
      obtain ⟨z2, e_z2, h⟩ := nm_s h
      refine SA.tr (sa_I e_z2 hf.1) ?_
      obtain ⟨z3, e_z3, h⟩ := nm_s h
      refine SA.tr (sa_I e_z3 hf.2.1) ?_
      cases h
      exact SA.rf
    · rw [if_neg c1] at h
      obtain ⟨g4, h⟩ := gd_s h
      obtain ⟨g5, h⟩ := gd_s h
      obtain ⟨z6, e_z6, h⟩ := nm_s h
      refine SA.tr (sa_Ia e_z6 hf.2.2) ?_
      exact ih v1 (v2 + 1) z6  _ h
theorem ff_X12_restore {a k : Nat} {v1 : Int32} {z : St} {Rz : Int32 × St}  (hf : Nf_X12_restore  a k) (h : fn_X12_restore  v1 z = some Rz) : SA z Rz.2 a k := by
  unfold fn_X12_restore at h
  obtain ⟨r2, z3, h1, h⟩ := bd_s h
  refine SA.tr (ff_X12_isBox   trivial h1) ?_
  rcases Decidable.em (r2 = 0) with c4 | c4
  · rw [if_pos c4] at h
    cases h
    exact SA.rf
  · rw [if_neg c4] at h
    obtain ⟨g5, h⟩ := gd_s h
    rcases Decidable.em ((z3.1 211 (Int32.toNatClampNeg v1)) = 0) with c6 | c6
    · rw [if_pos c6] at h
      cases h
      exact SA.rf
    · rw [if_neg c6] at h
      exact ff_X12_restore_20  hf   fu v1 0 z3  _ h
theorem ff_X12_brokenOnes_4 {a k : Nat} (hf : Nf_X12_brokenOnes  a k) : ∀ (n : Nat) (v1 : Int32) (v2 : Int32) (z : St)  (Rz : Int32 × St), fn_X12_brokenOnes_4   n v1 v2 z = some Rz → SA z Rz.2 a k := by
  intro n
  induction n with
  | zero => intro v1 v2 z  Rz h; cases h
  | succ n ih =>
    intro v1 v2 z  Rz h
    rw [fn_X12_brokenOnes_4] at h
    rcases Decidable.em ((z.1 197 (Int32.toNatClampNeg 168)) ≤ v2) with c1 | c1
    · rw [if_pos c1] at h
      cases h
      exact SA.rf
    · rw [if_neg c1] at h
      obtain ⟨g2, h⟩ := gd_s h
      obtain ⟨v1_3, e_v1_3, h⟩ := nm_s h
      exact ih v1_3 (v2 + 1) z  _ h
theorem ff_X12_brokenOnes {a k : Nat}  {z : St} {Rz : Int32 × St}  (hf : Nf_X12_brokenOnes  a k) (h : fn_X12_brokenOnes   z = some Rz) : SA z Rz.2 a k := by
  unfold fn_X12_brokenOnes at h
  exact ff_X12_brokenOnes_4  hf   fu 0 0 z  _ h
theorem ff_X12_about {a k : Nat} {v1 : Int32} {z : St} {Rz : Int32 × St}  (hf : Nf_X12_about  a k) (h : fn_X12_about  v1 z = some Rz) : SA z Rz.2 a k := by
  unfold fn_X12_about at h
  by_cases c1 : v1 = 0
  · rw [if_pos c1] at h
    cases h
    exact SA.rf
  rw [if_neg c1] at h
  by_cases c2 : v1 = 1
  · rw [if_pos c2] at h
    cases h
    exact SA.rf
  rw [if_neg c2] at h
  by_cases c3 : v1 = 2
  · rw [if_pos c3] at h
    cases h
    exact SA.rf
  rw [if_neg c3] at h
  by_cases c4 : v1 = 3
  · rw [if_pos c4] at h
    cases h
    exact SA.rf
  rw [if_neg c4] at h
  by_cases c5 : v1 = 4
  · rw [if_pos c5] at h
    cases h
    exact SA.rf
  rw [if_neg c5] at h
  by_cases c6 : v1 = 5
  · rw [if_pos c6] at h
    obtain ⟨r8, z9, h7, h⟩ := bd_s h
    refine SA.tr (ff_X12_brokenOnes   trivial h7) ?_
    cases h
    exact SA.rf
  rw [if_neg c6] at h
  by_cases c10 : v1 = 6
  · rw [if_pos c10] at h
    cases h
    exact SA.rf
  rw [if_neg c10] at h
  by_cases c11 : v1 = 7
  · rw [if_pos c11] at h
    cases h
    exact SA.rf
  rw [if_neg c11] at h
  by_cases c12 : v1 = 8
  · rw [if_pos c12] at h
    cases h
    exact SA.rf
  rw [if_neg c12] at h
  by_cases c13 : v1 = 9
  · rw [if_pos c13] at h
    cases h
    exact SA.rf
  rw [if_neg c13] at h
  by_cases c14 : v1 = 10
  · rw [if_pos c14] at h
    cases h
    exact SA.rf
  rw [if_neg c14] at h
  by_cases c15 : v1 = 11
  · rw [if_pos c15] at h
    cases h
    exact SA.rf
  rw [if_neg c15] at h
  by_cases c16 : v1 = 12
  · rw [if_pos c16] at h
    cases h
    exact SA.rf
  rw [if_neg c16] at h
  cases h
  exact SA.rf
