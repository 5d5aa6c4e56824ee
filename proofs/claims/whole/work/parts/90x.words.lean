/-! words on both sides -/
def Let (T : Nat → Int) (s k : Nat) : Prop := ∀ j, j < k → 97 ≤ T (s + j) ∧ T (s + j) ≤ 122
theorem wv_iff {T1 T2 : Nat → Int} {s1 s2 : Nat} : ∀ k1 k2 : Nat, Let T1 s1 k1 → Let T2 s2 k2 → (wvX T1 s1 k1 = wvX T2 s2 k2 ↔ mvM T1 s1 k1 = mvM T2 s2 k2) := by
  intro k1
  induction k1 with
  | zero =>
    intro k2 h1 h2
    cases k2 with
    | zero => exact ⟨fun _ => rfl, fun _ => rfl⟩
    | succ k2 =>
      have := h2 k2 (by omega)
      rw [wvX, mvM, wvX, mvM]
      omega
  | succ k1 ih =>
    intro k2 h1 h2
    have g1 := h1 k1 (by omega)
    cases k2 with
    | zero => rw [wvX, mvM, wvX, mvM]; omega
    | succ k2 =>
      have g2 := h2 k2 (by omega)
      have := ih k2 (fun j hj => h1 j (by omega)) (fun j hj => h2 j (by omega))
      rw [wvX, mvM, wvX, mvM]
      omega
theorem wv_b {T : Nat → Int} {s k : Nat} (h : Let T s k) : wvX T s k < 32 ^ k := by
  induction k with
  | zero => rw [wvX]; decide
  | succ k ih =>
    have h1 := ih fun j hj => h j (by omega)
    have h2 := h k (by omega)
    rw [wvX, Nat.pow_succ]
    generalize 32 ^ k = p at *
    omega
/-- a word as both keep it -/
def NM (J K : Int64) : Prop := ∃ (T : Nat → Int) (s k : Nat), k ≤ 8 ∧ Let T s k ∧ J = jI (wvX T s k : Nat) ∧ K = jI (mvM T s k : Nat)
theorem NM.iff {J K J' K' : Int64} (h : NM J K) (g : NM J' K') : J = J' ↔ K = K' := by
  obtain ⟨T, s, k, h1, h2, rfl, rfl⟩ := h
  obtain ⟨T', s', k', g1, g2, rfl, rfl⟩ := g
  have a1 := wv_b h2
  have a2 := wv_b g2
  have a3 := mv_b h2
  have a4 := mv_b g2
  have p1 : 32 ^ k ≤ 32 ^ 8 := Nat.pow_le_pow_right (by omega) h1
  have p2 : 32 ^ k' ≤ 32 ^ 8 := Nat.pow_le_pow_right (by omega) g1
  have p3 : 256 ^ k ≤ 256 ^ 8 := Nat.pow_le_pow_right (by omega) h1
  have p4 : 256 ^ k' ≤ 256 ^ 8 := Nat.pow_le_pow_right (by omega) g1
  have e1 : 32 ^ 8 = 1099511627776 := by decide
  have e2 : 256 ^ 8 = 18446744073709551616 := by decide
  rw [jI_eq (by omega) (by omega), jI_eq (by omega) (by omega)]
  have := wv_iff k k' h2 g2
  omega
def CO : List Int64 := [1953064306, 25209, 1751738216, 444351214452, 512735736947, 495924372852, 427071202675, 512970880104, 1936484720, 1885430629, 1685217655, 28530, 6385252, 7237492, 1634887009, 452639420007, 108243635103086, 1819242087, 120299592184933]
def KL : List (List Nat) := [[116, 105, 101, 114], [98, 121], [104, 105, 103, 104], [103, 117, 101, 115, 116], [119, 97, 110, 116, 115], [115, 119, 101, 101, 116], [99, 111, 109, 101, 115], [119, 111, 114, 116, 104], [115, 108, 105, 112], [112, 97, 99, 101], [100, 114, 97, 119], [111, 114], [97, 110, 100], [110, 111, 116], [97, 114, 101, 97], [105, 99, 105, 110, 103], [98, 114, 111, 107, 101, 110], [108, 111, 110, 103], [109, 105, 110, 117, 116, 101]]
def TK (k : Nat) : Nat → Int := fun j => (((KL.getD k []).getD j 0 : Nat) : Int)
set_option maxRecDepth 100000 in
theorem KL_ok : ((List.range 19).all fun k => decide ((KL.getD k []).length ≤ 8) && ((List.range (KL.getD k []).length).all fun j => decide (97 ≤ TK k (0 + j) ∧ TK k (0 + j) ≤ 122)) && decide (KW.getD k 0 = jI (wvX (TK k) 0 (KL.getD k []).length : Nat)) && decide (CO.getD k 0 = jI (mvM (TK k) 0 (KL.getD k []).length : Nat)) && decide (kwF (KW.getD k 0) 19 = (k : Int))) = true := by decide +kernel
theorem KL_k {k : Nat} (hk : k < 19) : NM (KW.getD k 0) (CO.getD k 0) ∧ kwF (KW.getD k 0) 19 = (k : Int) := by
  have h := List.all_eq_true.mp KL_ok k (List.mem_range.mpr hk)
  rw [Bool.and_eq_true, Bool.and_eq_true, Bool.and_eq_true, Bool.and_eq_true] at h
  obtain ⟨⟨⟨⟨h1, h2⟩, h3⟩, h4⟩, h5⟩ := h
  exact ⟨⟨TK k, 0, (KL.getD k []).length, of_decide_eq_true h1, fun j hj => of_decide_eq_true (List.all_eq_true.mp h2 j (List.mem_range.mpr hj)), of_decide_eq_true h3, of_decide_eq_true h4⟩, of_decide_eq_true h5⟩
theorem kwF_b (J : Int64) : ∀ i : Nat, -1 ≤ kwF J i ∧ kwF J i < i := by
  intro i
  induction i with
  | zero => rw [kwF]; omega
  | succ i ih => rw [kwF]; split <;> omega
theorem kwF_i (J : Int64) {k : Nat} : ∀ i : Nat, kwF J i = (k : Int) → KW.getD k 0 = J := by
  intro i
  induction i with
  | zero => intro h; rw [kwF] at h; omega
  | succ i ih =>
    intro h
    rw [kwF] at h
    by_cases q : KW.getD i 0 = J
    · rw [if_pos q] at h
      rw [← q, show k = i from by omega]
    · rw [if_neg q] at h
      exact ih h
/-- the own word at s, -1: none -/
def kw (T : Nat → Int) (n s : Nat) : Int := if kx T n s = 1 then kwF (jI (wvX T s (we T n s - s) : Nat)) 19 else -1
theorem kw_b (T : Nat → Int) (n s : Nat) : -1 ≤ kw T n s ∧ kw T n s < 19 := by
  unfold kw; split
  · have := kwF_b (jI (wvX T s (we T n s - s) : Nat)) 19; omega
  · omega
theorem kw_1 {T : Nat → Int} {n s k : Nat} (h : kw T n s = (k : Int)) : kx T n s = 1 := by
  unfold kw at h
  by_cases q : kx T n s = 1
  · exact q
  · rw [if_neg q] at h; omega
section
variable {z w : St} {T : Nat → Int} {n s : Nat}
theorem kx_4 (T : Nat → Int) (n s : Nat) : kx T n s ≤ 4 := by
  unfold kx
  repeat' split
  all_goals omega
theorem kx_1 (h : kx T n s = 1) : s < n ∧ tL (T s) = true ∧ we T n s ≤ s + 8 := by
  unfold kx at h
  by_cases q0 : n ≤ s
  · rw [if_pos q0] at h; omega
  · rw [if_neg q0] at h
    by_cases q1 : tL (T s) = true
    · rw [if_pos q1] at h
      split at h
      · exact ⟨by omega, q1, by assumption⟩
      · omega
    · rw [if_neg q1] at h
      repeat' split at h
      all_goals omega
theorem kx_2 (h : kx T n s = 2) : s < n ∧ tL (T s) = false ∧ tD (T s) = true ∧ de T n s ≤ s + 4 := by
  unfold kx at h
  by_cases q0 : n ≤ s
  · rw [if_pos q0] at h; omega
  · rw [if_neg q0] at h
    by_cases q1 : tL (T s) = true
    · rw [if_pos q1] at h
      split at h <;> omega
    · rw [if_neg q1] at h
      by_cases q2 : tD (T s) = true
      · rw [if_pos q2] at h
        split at h
        · rename_i q3; exact ⟨by omega, Bool.eq_false_iff.mpr q1, q2, q3.1⟩
        · omega
      · rw [if_neg q2] at h
        split at h <;> omega
theorem kx_3 (h : kx T n s = 3) : s < n ∧ tL (T s) = false ∧ tD (T s) = false ∧ tM (T s) = true := by
  unfold kx at h
  by_cases q0 : n ≤ s
  · rw [if_pos q0] at h; omega
  · rw [if_neg q0] at h
    by_cases q1 : tL (T s) = true
    · rw [if_pos q1] at h
      split at h <;> omega
    · rw [if_neg q1] at h
      by_cases q2 : tD (T s) = true
      · rw [if_pos q2] at h
        split at h <;> omega
      · rw [if_neg q2] at h
        by_cases q3 : tM (T s) = true
        · exact ⟨by omega, Bool.eq_false_iff.mpr q1, Bool.eq_false_iff.mpr q2, q3⟩
        · rw [if_neg q3] at h; omega
theorem kx_0 (h : kx T n s = 0) : n ≤ s := by
  unfold kx at h
  by_cases q0 : n ≤ s
  · exact q0
  · rw [if_neg q0] at h
    repeat' split at h
    all_goals omega
theorem kx_b (hT : VT T n) (h : kx T n s = 3) : 37 ≤ T s ∧ T s ≤ 62 := by
  have h3 := (kx_3 h).2.2.2
  unfold tM at h3
  rw [decide_eq_true_iff] at h3
  omega
theorem word_let (h : kx T n s = 1) : we T n s - s ≤ 8 ∧ Let T s (we T n s - s) := by
  obtain ⟨h1, h2, h3⟩ := kx_1 h
  have e := we_p T (n := n) (s := s) (by omega)
  exact ⟨by omega, fun j hj => (pL_i (e.2.2.2 (s + j) (by omega) (by omega))).2⟩
theorem word_nm (hX : XK z T n s) (hM : MK w T n s) (h : kx T n s = 1) : NM (z.2 32 8) (w.2 172 9) := ⟨T, s, we T n s - s, (word_let h).1, (word_let h).2, (hX.2.2.2.1 h).1, hM.2.2.2.1 h⟩
theorem kw_iff (hM : MK w T n s) (h : kx T n s = 1) {k : Nat} (hk : k < 19) : kw T n s = (k : Int) ↔ w.2 172 9 = CO.getD k 0 := by
  have hN : NM (jI (wvX T s (we T n s - s) : Nat)) (w.2 172 9) := ⟨T, s, we T n s - s, (word_let h).1, (word_let h).2, rfl, hM.2.2.2.1 h⟩
  obtain ⟨g1, g2⟩ := KL_k hk
  unfold kw
  rw [if_pos h]
  refine ⟨fun q => (hN.iff g1).mp (kwF_i _ 19 q).symm, fun q => ?_⟩
  rw [(hN.iff g1).mpr q, g2]
/-- the number of a token behind which one goes on -/
theorem en_b (T : Nat → Int) (h : s ≤ n) : s ≤ tEn T n s ∧ tEn T n s ≤ n ∧ (kx T n s ≠ 0 → s < tEn T n s) := by
  unfold tEn
  by_cases q0 : n ≤ s
  · rw [if_pos q0]
    refine ⟨by omega, by omega, fun q => absurd ?_ q⟩
    unfold kx; rw [if_pos q0]
  · rw [if_neg q0]
    have e := we_p T (n := n) (s := s) (by omega)
    have d := de_p T (n := n) (s := s) (by omega)
    by_cases q1 : tL (T s) = true
    · rw [if_pos q1]
      refine ⟨e.1, e.2.1, fun _ => ?_⟩
      rcases Nat.lt_or_ge s (we T n s) with q | q
      · exact q
      · have : we T n s = s := by omega
        have h3 := e.2.2.1
        rw [this] at h3
        unfold pL at h3
        rw [decide_eq_true (by omega), q1] at h3
        exact absurd h3 (by decide)
    · rw [if_neg q1]
      by_cases q2 : tD (T s) = true
      · rw [if_pos q2]
        refine ⟨d.1, d.2.1, fun _ => ?_⟩
        rcases Nat.lt_or_ge s (de T n s) with q | q
        · exact q
        · have : de T n s = s := by omega
          have h3 := d.2.2.1
          rw [this] at h3
          unfold pD at h3
          rw [decide_eq_true (by omega), q2] at h3
          exact absurd h3 (by decide)
      · rw [if_neg q2]; exact ⟨by omega, by omega, fun _ => by omega⟩
/-- where the next token begins -/
def nx (T : Nat → Int) (n s : Nat) : Nat := sk T n (tEn T n s)
theorem nx_b (T : Nat → Int) (h : s ≤ n) : nx T n s ≤ n ∧ (kx T n s ≠ 0 → s < nx T n s) := by
  have e := en_b T h
  have k := sk_p T e.2.1
  exact ⟨k.2.1, fun q => Nat.lt_of_lt_of_le (e.2.2 q) k.1⟩
theorem x_adv (hT : VT T n) (h : XTx z T n) (hs : s ≤ n) (hK : XK z T n s) (h4 : kx T n s ≠ 4) : ∃ w, fn_X6_advance z = some w ∧ XK w T n (nx T n s) := x_advance hT h (en_b T hs).2.1 (hK.2.2.1 h4)
theorem m_tok (hT : VT T n) (h : MTx z T n) (hs : s ≤ n) (hK : MK z T n s) (h4 : kx T n s ≠ 4) : ∃ w, fn_X12_token z = some w ∧ MK w T n (nx T n s) := m_token hT h (en_b T hs).2.1 (hK.2.2.1 h4)
theorem x_isKw (hK : XK z T n s) (hf : z.1 32 11 = 0) (k : Nat) (hk : k < 19) : fn_X6_isKeyword (iI (k : Int)) z = some (iI (tr (kw T n s = (k : Int))), z) := by
  have h4 := kx_4 T n s
  unfold fn_X6_isKeyword
  rw [hf, if_pos rfl, hK.2.1, q_1]
  by_cases h : kx T n s = 1
  · have hb := kwF_b (jI (wvX T s (we T n s - s) : Nat)) 19
    have ek : kw T n s = kwF (jI (wvX T s (we T n s - s) : Nat)) 19 := by unfold kw; rw [if_pos h]
    rw [if_pos (yeq (by omega) (by omega) (by omega)), (hK.2.2.2.1 h).2, ek]
    by_cases q : kwF (jI (wvX T s (we T n s - s) : Nat)) 19 = (k : Int)
    · rw [if_pos (yeq (by omega) (by omega) q), tr_1 q]
    · rw [if_neg (neq (by omega) (by omega) q), tr_n q, q_0]
  · rw [if_neg (neq (by omega) (by omega) (by omega)), tr_n (fun q => h (kw_1 q)), q_0]
theorem ks_1 (hT : VT T n) : tKs T n s = 1 ↔ kx T n s = 1 := by
  have h4 := kx_4 T n s
  unfold tKs
  by_cases q4 : kx T n s = 4
  · rw [if_pos q4]; omega
  · rw [if_neg q4]
    by_cases q3 : kx T n s = 3
    · rw [if_pos q3]; have := kx_b hT q3; omega
    · rw [if_neg q3]; omega
theorem ks_b (hT : VT T n) : 0 ≤ tKs T n s ∧ tKs T n s ≤ 62 := by
  have h4 := kx_4 T n s
  unfold tKs
  by_cases q4 : kx T n s = 4
  · rw [if_pos q4]; omega
  · rw [if_neg q4]
    by_cases q3 : kx T n s = 3
    · rw [if_pos q3]; have := kx_b hT q3; omega
    · rw [if_neg q3]; omega
theorem ks_c (hT : VT T n) {c : Int} (hc : 5 ≤ c) : tKs T n s = c ↔ kx T n s = 3 ∧ T s = c := by
  have h4 := kx_4 T n s
  unfold tKs
  by_cases q4 : kx T n s = 4
  · rw [if_pos q4]; omega
  · rw [if_neg q4]
    by_cases q3 : kx T n s = 3
    · rw [if_pos q3]; omega
    · rw [if_neg q3]; omega
theorem ks_s (hT : VT T n) {c : Int} (hc : c = 0 ∨ c = 2) : tKs T n s = c ↔ (kx T n s : Int) = c := by
  have h4 := kx_4 T n s
  unfold tKs
  by_cases q4 : kx T n s = 4
  · rw [if_pos q4]; omega
  · rw [if_neg q4]
    by_cases q3 : kx T n s = 3
    · rw [if_pos q3]; have := kx_b hT q3; omega
    · rw [if_neg q3]
theorem ks_3 (hT : VT T n) : tKs T n s = 3 ↔ kx T n s = 4 := by
  have h4 := kx_4 T n s
  unfold tKs
  by_cases q4 : kx T n s = 4
  · rw [if_pos q4]; omega
  · rw [if_neg q4]
    by_cases q3 : kx T n s = 3
    · rw [if_pos q3]; have := kx_b hT q3; omega
    · rw [if_neg q3]; omega
theorem m_isWd (hT : VT T n) (hK : MK w T n s) (k : Nat) (hk : k < 19) : fn_X12_isWord (CO.getD k 0) w = some (iI (tr (kw T n s = (k : Int))), w) := by
  have hb := ks_b (s := s) hT
  unfold fn_X12_isWord
  rw [hK.2.1, q_1]
  by_cases h : kx T n s = 1
  · rw [if_pos (yeq (by omega) (by omega) ((ks_1 hT).mpr h))]
    by_cases q : kw T n s = (k : Int)
    · rw [if_pos (show lg_cmp (w.2 172 9) (CO.getD k 0) = 0 from by rw [lgc]; exact (kw_iff hK h hk).mp q), tr_1 q]
    · rw [if_neg (show ¬ lg_cmp (w.2 172 9) (CO.getD k 0) = 0 from by rw [lgc]; exact fun a => q ((kw_iff hK h hk).mpr a)), tr_n q, q_0]
  · rw [if_neg (neq (by omega) (by omega) (fun a => h ((ks_1 hT).mp a))), tr_n (fun q => h (kw_1 q)), q_0]
theorem x_isSg (hT : VT T n) (hK : XK z T n s) (hf : z.1 32 11 = 0) {c : Int} (hc : 0 ≤ c ∧ c ≤ 255) : fn_X6_isSign (iI c) z = some (iI (tr (kx T n s = 3 ∧ T s = c)), z) := by
  have h4 := kx_4 T n s
  unfold fn_X6_isSign
  rw [hf, if_pos rfl, hK.2.1, q_3]
  by_cases h : kx T n s = 3
  · have hb := kx_b hT h
    rw [if_pos (yeq (by omega) (by omega) (by omega)), hK.2.2.2.2.2 h]
    by_cases q : T s = c
    · rw [if_pos (yeq (by omega) (by omega) q), tr_1 ⟨h, q⟩, q_1]
    · rw [if_neg (neq (by omega) (by omega) q), tr_n (fun a => q a.2), q_0]
  · rw [if_neg (neq (by omega) (by omega) (by omega)), tr_n (fun a => h a.1), q_0]
theorem m_isOw (hK : MK w T n s) (h : kx T n s = 1) : fn_X12_isOwn w = some (iI (tr (kw T n s ≠ -1)), w) := by
  have hb := kw_b T n s
  unfold fn_X12_isOwn
  by_cases q : kw T n s = -1
  · have hn : ∀ k, k < 19 → ¬ lg_cmp (w.2 172 9) (CO.getD k 0) = 0 := fun k hk => by
      rw [lgc]
      intro a
      have := (kw_iff hK h hk).mpr a
      omega
    rw [tr_n (fun a => a q), if_neg (show ¬ lg_cmp (w.2 172 9) 1953064306 = 0 from hn 0 (by omega)), if_neg (show ¬ lg_cmp (w.2 172 9) 25209 = 0 from hn 1 (by omega)), if_neg (show ¬ lg_cmp (w.2 172 9) 1751738216 = 0 from hn 2 (by omega)), if_neg (show ¬ lg_cmp (w.2 172 9) 444351214452 = 0 from hn 3 (by omega)), if_neg (show ¬ lg_cmp (w.2 172 9) 512735736947 = 0 from hn 4 (by omega)), if_neg (show ¬ lg_cmp (w.2 172 9) 495924372852 = 0 from hn 5 (by omega)), if_neg (show ¬ lg_cmp (w.2 172 9) 427071202675 = 0 from hn 6 (by omega)), if_neg (show ¬ lg_cmp (w.2 172 9) 512970880104 = 0 from hn 7 (by omega)), if_neg (show ¬ lg_cmp (w.2 172 9) 1936484720 = 0 from hn 8 (by omega)), if_neg (show ¬ lg_cmp (w.2 172 9) 1885430629 = 0 from hn 9 (by omega)), if_neg (show ¬ lg_cmp (w.2 172 9) 1685217655 = 0 from hn 10 (by omega)), if_neg (show ¬ lg_cmp (w.2 172 9) 1634887009 = 0 from hn 14 (by omega)), if_neg (show ¬ lg_cmp (w.2 172 9) 452639420007 = 0 from hn 15 (by omega)), if_neg (show ¬ lg_cmp (w.2 172 9) 108243635103086 = 0 from hn 16 (by omega)), if_neg (show ¬ lg_cmp (w.2 172 9) 1819242087 = 0 from hn 17 (by omega)), if_neg (show ¬ lg_cmp (w.2 172 9) 120299592184933 = 0 from hn 18 (by omega)), if_neg (show ¬ lg_cmp (w.2 172 9) 6385252 = 0 from hn 12 (by omega)), if_neg (show ¬ lg_cmp (w.2 172 9) 28530 = 0 from hn 11 (by omega)), if_neg (show ¬ lg_cmp (w.2 172 9) 7237492 = 0 from hn 13 (by omega)), q_0]
  · obtain ⟨k, hk⟩ : ∃ k : Nat, kw T n s = (k : Int) := ⟨(kw T n s).toNat, by omega⟩
    have hJ := (kw_iff hK h (k := k) (by omega)).mp hk
    rw [tr_1 q, hJ]
    have h19 : k < 19 := by omega
    have hc : k = 0 ∨ k = 1 ∨ k = 2 ∨ k = 3 ∨ k = 4 ∨ k = 5 ∨ k = 6 ∨ k = 7 ∨ k = 8 ∨ k = 9 ∨ k = 10 ∨ k = 11 ∨ k = 12 ∨ k = 13 ∨ k = 14 ∨ k = 15 ∨ k = 16 ∨ k = 17 ∨ k = 18 := by omega
    rcases hc with rfl | rfl | rfl | rfl | rfl | rfl | rfl | rfl | rfl | rfl | rfl | rfl | rfl | rfl | rfl | rfl | rfl | rfl | rfl <;> rfl
/-- what may be asked: 0 area .. 5 minute; -1: nothing -/
def au (T : Nat → Int) (n s : Nat) : Int := if kw T n s = 14 then 0 else if kw T n s = 15 then 1 else if kw T n s = 5 then 2 else if kw T n s = 16 then 3 else if kw T n s = 17 then 4 else if kw T n s = 18 then 5 else -1
theorem au_b (T : Nat → Int) (n s : Nat) : -1 ≤ au T n s ∧ au T n s ≤ 5 := by
  unfold au
  repeat' split
  all_goals omega
theorem au_1 {T : Nat → Int} {n s : Nat} (h : 0 ≤ au T n s) : kx T n s = 1 := by
  unfold au at h
  by_cases q : kx T n s = 1
  · exact q
  · have : kw T n s = -1 := by unfold kw; rw [if_neg q]
    rw [this] at h
    exact absurd h (by decide)
theorem m_ask (hT : VT T n) (hK : MK w T n s) : fn_X12_asked w = some (iI (au T n s), w) := by
  have hb := ks_b (s := s) hT
  unfold fn_X12_asked
  rw [hK.2.1]
  by_cases h : kx T n s = 1
  · rw [if_pos (show iI (tKs T n s) = 1 from by rw [q_1]; exact yeq (by omega) (by omega) ((ks_1 hT).mpr h))]
    have ht : ∀ k : Nat, k < 19 → (lg_cmp (w.2 172 9) (CO.getD k 0) = 0) = (kw T n s = (k : Int)) := fun k hk => by rw [lgc]; exact propext (kw_iff hK h hk).symm
    unfold au
    have e14 : (lg_cmp (w.2 172 9) 1634887009 = 0) = (kw T n s = 14) := ht 14 (by omega)
    have e15 : (lg_cmp (w.2 172 9) 452639420007 = 0) = (kw T n s = 15) := ht 15 (by omega)
    have e5 : (lg_cmp (w.2 172 9) 495924372852 = 0) = (kw T n s = 5) := ht 5 (by omega)
    have e16 : (lg_cmp (w.2 172 9) 108243635103086 = 0) = (kw T n s = 16) := ht 16 (by omega)
    have e17 : (lg_cmp (w.2 172 9) 1819242087 = 0) = (kw T n s = 17) := ht 17 (by omega)
    have e18 : (lg_cmp (w.2 172 9) 120299592184933 = 0) = (kw T n s = 18) := ht 18 (by omega)
    by_cases c14 : kw T n s = 14
    · rw [if_pos (e14.mpr c14), if_pos c14, q_0]
    rw [if_neg (fun a => c14 (e14.mp a)), if_neg c14]
    by_cases c15 : kw T n s = 15
    · rw [if_pos (e15.mpr c15), if_pos c15, q_1]
    rw [if_neg (fun a => c15 (e15.mp a)), if_neg c15]
    by_cases c5 : kw T n s = 5
    · rw [if_pos (e5.mpr c5), if_pos c5, q_2]
    rw [if_neg (fun a => c5 (e5.mp a)), if_neg c5]
    by_cases c16 : kw T n s = 16
    · rw [if_pos (e16.mpr c16), if_pos c16, q_3]
    rw [if_neg (fun a => c16 (e16.mp a)), if_neg c16]
    by_cases c17 : kw T n s = 17
    · rw [if_pos (e17.mpr c17), if_pos c17, q_4]
    rw [if_neg (fun a => c17 (e17.mp a)), if_neg c17]
    by_cases c18 : kw T n s = 18
    · rw [if_pos (e18.mpr c18), if_pos c18, q_5]
    rw [if_neg (fun a => c18 (e18.mp a)), if_neg c18]
    rw [q_m1]
  · have : kw T n s = -1 := by unfold kw; rw [if_neg h]
    rw [if_neg (show ¬ iI (tKs T n s) = 1 from by rw [q_1]; exact neq (by omega) (by omega) (fun a => h ((ks_1 hT).mp a)))]
    unfold au
    rw [this]
    rfl
/-- a unit as x's step: 0 a number, 1 to 6 what is asked, -1 none -/
def pu (T : Nat → Int) (n s : Nat) : Int := if kx T n s = 2 then 0 else if au T n s < 0 then -1 else au T n s + 1
theorem x_plain (hK : XK z T n s) : fn_X6_plainUnit z = some (iI (pu T n s), z) := by
  have h4 := kx_4 T n s
  unfold fn_X6_plainUnit pu
  rw [hK.2.1, q_2]
  by_cases h2 : kx T n s = 2
  · rw [if_pos (yeq (by omega) (by omega) (by omega)), if_pos h2, q_0]
  · rw [if_neg (neq (by omega) (by omega) (by omega)), if_neg h2, q_1]
    by_cases h1 : kx T n s = 1
    · have hb := kwF_b (jI (wvX T s (we T n s - s) : Nat)) 19
      have ek : kw T n s = kwF (jI (wvX T s (we T n s - s) : Nat)) 19 := by unfold kw; rw [if_pos h1]
      rw [if_pos (yeq (by omega) (by omega) (by omega)), (hK.2.2.2.1 h1).2, ← ek]
      rw [← ek] at hb
      unfold au
      generalize kw T n s = v at hb
      have hc : v = -1 ∨ v = 0 ∨ v = 1 ∨ v = 2 ∨ v = 3 ∨ v = 4 ∨ v = 5 ∨ v = 6 ∨ v = 7 ∨ v = 8 ∨ v = 9 ∨ v = 10 ∨ v = 11 ∨ v = 12 ∨ v = 13 ∨ v = 14 ∨ v = 15 ∨ v = 16 ∨ v = 17 ∨ v = 18 := by omega
      rcases hc with rfl | rfl | rfl | rfl | rfl | rfl | rfl | rfl | rfl | rfl | rfl | rfl | rfl | rfl | rfl | rfl | rfl | rfl | rfl | rfl <;> rfl
    · have : kw T n s = -1 := by unfold kw; rw [if_neg h1]
      rw [if_neg (neq (by omega) (by omega) (by omega))]
      unfold au
      rw [this]
      rfl
/-- a sign between units: 0 none -/
def sg (T : Nat → Int) (n s : Nat) : Int := if kw T n s = 12 then 38 else if kw T n s = 11 then 124 else if kx T n s = 3 ∧ (T s = 60 ∨ T s = 62 ∨ T s = 61 ∨ T s = 43 ∨ T s = 45 ∨ T s = 42 ∨ T s = 47 ∨ T s = 37) then T s else 0
theorem sg_op {T : Nat → Int} {n s : Nat} (h : sg T n s ≠ 0) : isOp (sg T n s) := by
  unfold sg at h ⊢
  unfold isOp
  by_cases q1 : kw T n s = 12
  · rw [if_pos q1]; omega
  · rw [if_neg q1] at h ⊢
    by_cases q2 : kw T n s = 11
    · rw [if_pos q2]; omega
    · rw [if_neg q2] at h ⊢
      split at h
      · rename_i q3; rw [if_pos q3]; omega
      · exact absurd rfl h
theorem sg_k {T : Nat → Int} {n s : Nat} (h : sg T n s ≠ 0) : kx T n s = 1 ∨ kx T n s = 3 := by
  unfold sg at h
  by_cases q1 : kw T n s = 12
  · exact Or.inl (kw_1 (k := 12) q1)
  · rw [if_neg q1] at h
    by_cases q2 : kw T n s = 11
    · exact Or.inl (kw_1 (k := 11) q2)
    · rw [if_neg q2] at h
      split at h
      · rename_i q3; exact Or.inr q3.1
      · exact absurd rfl h
theorem m_sg (hT : VT T n) (hK : MK w T n s) : fn_X12_sign w = some (iI (sg T n s), w) := by
  have hb := ks_b (s := s) hT
  unfold fn_X12_sign
  have e12 : fn_X12_isWord 6385252 w = some (iI (tr (kw T n s = 12)), w) := m_isWd hT hK 12 (by omega)
  have e11 : fn_X12_isWord 28530 w = some (iI (tr (kw T n s = 11)), w) := m_isWd hT hK 11 (by omega)
  rw [bd_o e12]
  unfold sg
  by_cases q1 : kw T n s = 12
  · rw [tr_1 q1, if_neg (show ¬ iI 1 = 0 from by decide), if_pos q1, q_38]
  rw [tr_n q1, if_pos (show iI 0 = 0 from q_0.symm), if_neg q1, bd_o e11]
  by_cases q2 : kw T n s = 11
  · rw [tr_1 q2, if_neg (show ¬ iI 1 = 0 from by decide), if_pos q2, q_124]
  rw [tr_n q2, if_pos (show iI 0 = 0 from q_0.symm), if_neg q2, hK.2.1]
  by_cases q3 : kx T n s = 3 ∧ (T s = 60 ∨ T s = 62 ∨ T s = 61 ∨ T s = 43 ∨ T s = 45 ∨ T s = 42 ∨ T s = 47 ∨ T s = 37)
  · have ek : tKs T n s = T s := (ks_c hT (by omega)).mpr ⟨q3.1, rfl⟩
    rw [if_pos q3, ek]
    rcases q3.2 with e | e | e | e | e | e | e | e <;> rw [e] <;> rfl
  · have hn : ∀ c : Int, 5 ≤ c → (c = 60 ∨ c = 62 ∨ c = 61 ∨ c = 43 ∨ c = 45 ∨ c = 42 ∨ c = 47 ∨ c = 37) → ¬ tKs T n s = c := fun c h5 hc a => q3 ⟨((ks_c hT h5).mp a).1, by rw [((ks_c hT h5).mp a).2]; exact hc⟩
    rw [if_neg q3, if_neg (show ¬ iI (tKs T n s) = 60 from by rw [q_60]; exact neq (by omega) (by omega) (hn 60 (by omega) (by omega))), if_neg (show ¬ iI (tKs T n s) = 62 from by rw [q_62]; exact neq (by omega) (by omega) (hn 62 (by omega) (by omega))), if_neg (show ¬ iI (tKs T n s) = 61 from by rw [q_61]; exact neq (by omega) (by omega) (hn 61 (by omega) (by omega))), if_neg (show ¬ iI (tKs T n s) = 43 from by rw [q_43]; exact neq (by omega) (by omega) (hn 43 (by omega) (by omega))), if_neg (show ¬ iI (tKs T n s) = 45 from by rw [q_45]; exact neq (by omega) (by omega) (hn 45 (by omega) (by omega))), if_neg (show ¬ iI (tKs T n s) = 42 from by rw [q_42]; exact neq (by omega) (by omega) (hn 42 (by omega) (by omega))), if_neg (show ¬ iI (tKs T n s) = 47 from by rw [q_47]; exact neq (by omega) (by omega) (hn 47 (by omega) (by omega))), if_neg (show ¬ iI (tKs T n s) = 37 from by rw [q_37]; exact neq (by omega) (by omega) (hn 37 (by omega) (by omega))), q_0]
end
