theorem ii (v : Int32) : ∃ n : Int, v = iI n ∧ -2147483648 ≤ n ∧ n < 2147483648 := ⟨v.toInt, (iI_self v).symm, iI_lo v, iI_hi v⟩
theorem tr_c {P Q : Prop} [Decidable P] [Decidable Q] (h : P ↔ Q) : tr P = tr Q := by
  unfold tr
  by_cases hP : P
  · rw [if_pos hP, if_pos (h.mp hP)]
  · rw [if_neg hP, if_neg (fun q => hP (h.mpr q))]
theorem tr_1 {P : Prop} [Decidable P] (h : P) : tr P = 1 := if_pos h
theorem tr_n {P : Prop} [Decidable P] (h : ¬ P) : tr P = 0 := if_neg h
theorem three (z : St) {P Q : Prop} [Decidable P] [Decidable Q] : (if P then some ((0 : Int32), z) else (if Q then some (0, z) else some (1, z))) = some (iI (tr (¬ P ∧ ¬ Q)), z) := by
  by_cases hP : P
  · rw [if_pos hP, tr_n (fun q => q.1 hP), q_0]
  · rw [if_neg hP]
    by_cases hQ : Q
    · rw [if_pos hQ, tr_n (fun q => q.2 hQ), q_0]
    · rw [if_neg hQ, tr_1 ⟨hP, hQ⟩, q_1]
section
variable {z : St} {c : RC} {b : BD} {n : Int} {p : Nat}
theorem x_isGuest (hR : XR z c) (hC : VC c) (hn : -2147483648 ≤ n ∧ n < 2147483648) : fn_X7_isGuest 2 (iI n) z = some (iI (tr (0 ≤ n ∧ n < c 6 1)), z) := by
  have := hC.2.1
  unfold fn_X7_isGuest
  rw [hR.2.1, three]
  congr 3
  refine tr_c ?_
  rw [q_0, iI_lt (by omega) (by omega), iI_le (by omega) (by omega)]
  omega
theorem x_isTier (hR : XR z c) (hC : VC c) (hn : -2147483648 ≤ n ∧ n < 2147483648) : fn_X7_isTier 2 (iI n) z = some (iI (tr (0 ≤ n ∧ n < c 6 0)), z) := by
  have := hC.1
  unfold fn_X7_isTier
  rw [hR.1, three]
  congr 3
  refine tr_c ?_
  rw [q_0, iI_lt (by omega) (by omega), iI_le (by omega) (by omega)]
  omega
theorem x_isPiece {q : Nat} (hB : XB q z b) (hV : VB c b) (hn : -2147483648 ≤ n ∧ n < 2147483648) : fn_X1_isPiece q (iI n) z = some (iI (tr (0 ≤ n ∧ n < b 168)), z) := by
  have := hV.1
  unfold fn_X1_isPiece
  rw [hB.1, three]
  congr 3
  refine tr_c ?_
  rw [q_0, iI_lt (by omega) (by omega), iI_le (by omega) (by omega)]
  omega
theorem m_isIn {lo hi : Int} (hn : -2147483648 ≤ n ∧ n < 2147483648) (h1 : -2147483648 ≤ lo ∧ lo < 2147483648) (h2 : -2147483648 ≤ hi ∧ hi < 2147483648) : fn_X12_isIn (iI n) (iI lo) (iI hi) z = some (iI (tr (lo ≤ n ∧ n ≤ hi)), z) := by
  unfold fn_X12_isIn
  rw [three]
  congr 3
  refine tr_c ?_
  rw [iI_lt (by omega) (by omega), iI_lt (by omega) (by omega)]
  omega
theorem m_isGuest (hR : MR z c) (hC : VC c) (hn : -2147483648 ≤ n ∧ n < 2147483648) : fn_X12_isGuest (iI n) z = some (iI (tr (0 ≤ n ∧ n < c 6 1)), z) := by
  have := hC.2.1
  unfold fn_X12_isGuest
  rw [hR.2.1, q_1, iI_sub, q_0, bd_o (m_isIn hn (by omega) (by omega)), gd_t (tr_z _), tr_c (Q := 0 ≤ n ∧ n < c 6 1) (by omega)]
theorem m_isTier (hR : MR z c) (hC : VC c) (hn : -2147483648 ≤ n ∧ n < 2147483648) : fn_X12_isTier (iI n) z = some (iI (tr (0 ≤ n ∧ n < c 6 0)), z) := by
  have := hC.1
  unfold fn_X12_isTier
  rw [hR.1, q_1, iI_sub, q_0, bd_o (m_isIn hn (by omega) (by omega)), gd_t (tr_z _), tr_c (Q := 0 ≤ n ∧ n < c 6 0) (by omega)]
theorem m_isPiece (hB : MB 197 0 z b) (hV : VB c b) (hn : -2147483648 ≤ n ∧ n < 2147483648) : fn_X12_isPiece (iI n) z = some (iI (tr (0 ≤ n ∧ n < b 168)), z) := by
  have := hV.1
  unfold fn_X12_isPiece
  rw [c_168, show z.1 197 168 = iI (b 168) from hB.1, q_1, iI_sub, q_0, bd_o (m_isIn hn (by omega) (by omega)), gd_t (tr_z _), tr_c (Q := 0 ≤ n ∧ n < b 168) (by omega)]
/-! area, icing, free -/
theorem x_area {s : Nat} {v : Nat → Int} (hR : XR z c) (hC : VC c) (hS : XS s z v) (hV : VP c v) : fn_X7_areaOf 2 s z = some (iI (ar c v), z) := by
  have hs := hV.s hC
  have ht := hV.t
  have h1 := hV.1
  unfold fn_X7_areaOf
  rw [hS 0 (by omega), bd_o (x_isTier hR hC (by omega)), tr_1 (by omega), if_neg (by decide), hS 0 (by omega), gd_t (iI_ix (by omega)), hS 3 (by omega), hS 4 (by omega), iI_clamp (by omega), (hR.2.2.2.1 _ ht.2).2.2, iI_mul, iI_mul]
  rfl
theorem m_area (hR : MR z c) (hC : VC c) (hB : MB 198 0 z b) (hV : VB c b) (hp : (p : Int) < b 168) : fn_X12_areaOf (iI p) z = some (iI (ar c (pc b p)), z) := by
  have hv := hV.2.2.1 p hp
  have hs := hv.s hC
  have ht := hv.t
  have h24 := hV.n hp
  have e := hB.2.2.2 p hp
  simp only [Nat.zero_add] at e
  unfold fn_X12_areaOf
  rw [gd_t (x7_3 h24), gd_t (x7_4 h24), gd_t (x7_0 h24), c7_0 h24, c7_3 h24, c7_4 h24, e 3 (by omega), e 4 (by omega), show z.1 198 (7 * p) = iI (pc b p 0) from e 0 (by omega), gd_t (iI_ix (by omega)), iI_clamp (by omega), (hR.2.2.2.1 _ ht.2).2.2, iI_mul, iI_mul]
  rfl
theorem x_icing {s : Nat} {v : Nat → Int} (hR : XR z c) (hC : VC c) (hS : XS s z v) (hV : VP c v) : fn_X7_icingOf 2 s z = some (iI (ic c v), z) := by
  have hs := hV.s hC
  have ht := hV.t
  have h1 := hV.1
  have e := hR.2.2.2.1 _ ht.2
  unfold fn_X7_icingOf
  rw [hS 0 (by omega), bd_o (x_isTier hR hC (by omega)), tr_1 (by omega), if_neg (by decide), hS 1 (by omega), hS 4 (by omega)]
  unfold ic
  simp only [fn_X7_icingOf_28, fn_X7_icingOf_57, fn_X7_icingOf_71, hS 0 (by omega), hS 1 (by omega), hS 2 (by omega), hS 3 (by omega), hS 4 (by omega), iI_clamp (show -2147483648 ≤ v 0 ∧ v 0 < 2147483648 from by omega), gd_t (iI_ix (show 0 ≤ v 0 ∧ v 0 < (3 : Nat) ∧ 3 ≤ 2147483648 from by omega)), e.1, e.2.1, nm_o, q_0, iI_add, iI_eq (show -2147483648 ≤ v 1 ∧ v 1 < 2147483648 from by omega) (show -2147483648 ≤ (0 : Int) ∧ (0 : Int) < 2147483648 from by omega), iI_eq (show -2147483648 ≤ v 2 ∧ v 2 < 2147483648 from by omega) (show -2147483648 ≤ (0 : Int) ∧ (0 : Int) < 2147483648 from by omega), iI_eq (show -2147483648 ≤ v 1 + v 3 ∧ v 1 + v 3 < 2147483648 from by omega) (show -2147483648 ≤ c 0 (v 0).toNat ∧ c 0 (v 0).toNat < 2147483648 from by omega), iI_eq (show -2147483648 ≤ v 2 + v 4 ∧ v 2 + v 4 < 2147483648 from by omega) (show -2147483648 ≤ c 1 (v 0).toNat ∧ c 1 (v 0).toNat < 2147483648 from by omega)]
  simp only [tr]
  by_cases a1 : v 1 = 0 <;> (first | simp only [if_pos a1] | simp only [if_neg a1]) <;> by_cases a2 : v 1 + v 3 = c 0 (v 0).toNat <;> (first | simp only [if_pos a2] | simp only [if_neg a2]) <;> by_cases a3 : v 2 = 0 <;> (first | simp only [if_pos a3] | simp only [if_neg a3]) <;> by_cases a4 : v 2 + v 4 = c 1 (v 0).toNat <;> (first | simp only [if_pos a4] | simp only [if_neg a4]) <;> congr 3 <;> omega
theorem m_truth (n : Int32) : fn_X12_truth n z = some (iI (tr (n ≠ 0)), z) := by
  unfold fn_X12_truth
  by_cases h : n = 0
  · rw [if_pos h, tr_n (fun q => q h), q_0]
  · rw [if_neg h, tr_1 h, q_1]
theorem m_truth1 : fn_X12_truth 1 z = some (1, z) := rfl
theorem m_truth0 : fn_X12_truth 0 z = some (0, z) := rfl
theorem m_truthI1 : fn_X12_truth (iI 1) z = some (iI 1, z) := by rw [← q_1]; rfl
theorem m_truthI0 : fn_X12_truth (iI 0) z = some (iI 0, z) := by rw [← q_0]; rfl
theorem m_icing (hR : MR z c) (hC : VC c) (hB : MB 198 0 z b) (hV : VB c b) (hp : (p : Int) < b 168) : fn_X12_icingOf (iI p) z = some (iI (ic c (pc b p)), z) := by
  have hv := hV.2.2.1 p hp
  have hs := hv.s hC
  have ht := hv.t
  have h24 := hV.n hp
  have e := hB.2.2.2 p hp
  simp only [Nat.zero_add] at e
  have hr := hR.2.2.2.1 _ ht.2
  unfold fn_X12_icingOf
  rw [gd_t (x7_0 h24), nm_o, gd_t (x7_1 h24), nm_o, gd_t (x7_2 h24), nm_o, gd_t (x7_3 h24), nm_o, gd_t (x7_4 h24), nm_o, c7_0 h24, c7_1 h24, c7_2 h24, c7_3 h24, c7_4 h24, show z.1 198 (7 * p) = iI (pc b p 0) from e 0 (by omega), e 1 (by omega), e 2 (by omega), e 3 (by omega), e 4 (by omega)]
  generalize pc b p = v at *
  simp only [fn_X12_icingOf_73, fn_X12_icingOf_95, fn_X12_icingOf_111, fn_X12_icingOf_132, m_truthI0, m_truthI1, bd_e, iI_clamp (show -2147483648 ≤ v 0 ∧ v 0 < 2147483648 from by omega), gd_t (iI_ix (show 0 ≤ v 0 ∧ v 0 < (3 : Nat) ∧ 3 ≤ 2147483648 from by omega)), hr.1, hr.2.1, q_0, q_1, iI_add, iI_mul, iI_eq (show -2147483648 ≤ v 1 ∧ v 1 < 2147483648 from by omega) (show -2147483648 ≤ (0 : Int) ∧ (0 : Int) < 2147483648 from by omega), iI_eq (show -2147483648 ≤ v 2 ∧ v 2 < 2147483648 from by omega) (show -2147483648 ≤ (0 : Int) ∧ (0 : Int) < 2147483648 from by omega), iI_eq (show -2147483648 ≤ v 1 + v 3 ∧ v 1 + v 3 < 2147483648 from by omega) (show -2147483648 ≤ c 0 (v 0).toNat ∧ c 0 (v 0).toNat < 2147483648 from by omega), iI_eq (show -2147483648 ≤ v 2 + v 4 ∧ v 2 + v 4 < 2147483648 from by omega) (show -2147483648 ≤ c 1 (v 0).toNat ∧ c 1 (v 0).toNat < 2147483648 from by omega)]
  unfold ic
  simp only [tr]
  by_cases a1 : v 1 = 0 <;> (first | simp only [if_pos a1] | simp only [if_neg a1]) <;> by_cases a2 : v 1 + v 3 = c 0 (v 0).toNat <;> (first | simp only [if_pos a2] | simp only [if_neg a2]) <;> by_cases a3 : v 2 = 0 <;> (first | simp only [if_pos a3] | simp only [if_neg a3]) <;> by_cases a4 : v 2 + v 4 = c 1 (v 0).toNat <;> (first | simp only [if_pos a4] | simp only [if_neg a4])
/-- is on no plate -/
def fr (b : BD) (p : Nat) : Prop := pc b p 6 = -1
theorem two (z : St) {P : Prop} [Decidable P] : (if P then some ((1 : Int32), z) else some (0, z)) = some (iI (tr P), z) := by
  by_cases hP : P
  · rw [if_pos hP, tr_1 hP, q_1]
  · rw [if_neg hP, tr_n hP, q_0]
theorem m_isFree (hC : VC c) (hB : MB 198 0 z b) (hV : VB c b) (hp : (p : Int) < b 168) : fn_X12_isFree (iI p) z = some (iI (tr (pc b p 6 = -1)), z) := by
  have hs := (hV.2.2.1 p hp).s hC
  have h24 := hV.n hp
  have e := hB.2.2.2 p hp 6 (by omega)
  rw [Nat.zero_add] at e
  unfold fn_X12_isFree
  rw [gd_t (x7_6 h24), c7_6 h24, e, two]
  congr 3
  refine tr_c ?_
  rw [q_m1, iI_eq (by omega) (by omega)]
theorem x_isFreeP (hC : VC c) {q : Nat} (hB : XB q z b) (hV : VB c b) (hp : (p : Int) < b 168) : fn_X1_isFree q (iI p) z = some (iI (tr (pc b p 6 = -1)), z) := by
  have hs := (hV.2.2.1 p hp).s hC
  have h24 := hV.n hp
  have e := hB.2.2.2.1 p hp 6 (by omega)
  unfold fn_X1_isFree
  rw [bd_o (x_isPiece hB hV (by omega)), tr_1 (by omega), if_neg (by decide), gd_t (iI_ix (by omega)), iI_clampN (by omega), show q + 1 + 1 + p = q + 2 + p from rfl, e, two]
  congr 3
  refine tr_c ?_
  rw [q_m1, iI_eq (by omega) (by omega)]
theorem x_isFreeN (hC : VC c) {q : Nat} (hB : XB q z b) (hV : VB c b) (hn : -2147483648 ≤ n ∧ n < 2147483648) (hp : ¬ (0 ≤ n ∧ n < b 168)) : fn_X1_isFree q (iI n) z = some (0, z) := by
  unfold fn_X1_isFree
  rw [bd_o (x_isPiece hB hV hn), tr_n hp, if_pos (show iI 0 = 0 from q_0.symm)]
end
/-! pieces and guests -/
theorem pof_r (b : BD) (g : Int) : ∀ k : Nat, pof b g k = -1 ∨ ∃ p : Nat, p < k ∧ pof b g k = p ∧ pc b p 6 = g := by
  intro k
  induction k with
  | zero => exact Or.inl rfl
  | succ k ih =>
    unfold pof
    by_cases h : pc b k 6 = g
    · rw [if_pos h]; exact Or.inr ⟨k, by omega, rfl, h⟩
    · rw [if_neg h]
      rcases ih with e | ⟨p, h1, h2, h3⟩
      · exact Or.inl e
      · exact Or.inr ⟨p, by omega, h2, h3⟩
theorem pof_b (b : BD) (g : Int) (k : Nat) : -1 ≤ pof b g k ∧ pof b g k < k := by
  rcases pof_r b g k with e | ⟨p, h1, h2, -⟩ <;> omega
theorem m_pieceOf {z : St} {c : RC} {b : BD} {g : Int} (hC : VC c) (hB : MB 198 0 z b) (hV : VB c b) (hg : -2147483648 ≤ g ∧ g < 2147483648) : fn_X12_pieceOf (iI g) z = some (iI (hp b g), z) := by
  have h0 := hV.1
  have e168 : z.1 198 168 = iI (b 168) := hB.1
  obtain ⟨m, hm⟩ := loopK (fun m k => fn_X12_pieceOf_4 m (iI g) (iI (pof b g k)) (iI (k : Int)) z) (b 168).toNat (by omega) (fun k m hk => by
    have hp : (k : Int) < b 168 := by omega
    have hs := (hV.2.2.1 k hp).s hC
    have h24 := hV.n hp
    have e := hB.2.2.2 k hp 6 (by omega)
    rw [Nat.zero_add] at e
    show fn_X12_pieceOf_4 (m + 1) _ _ _ _ = _
    rw [fn_X12_pieceOf_4, c_168, e168, if_neg (nle (by omega) (by omega) (by omega)), gd_t (x7_6 h24), c7_6 h24, e]
    unfold fn_X12_pieceOf_34
    have ek : iI (k : Int) + 1 = iI ((k + 1 : Nat) : Int) := by rw [q_1, iI_add]; rfl
    by_cases h : pc b k 6 = g
    · rw [if_pos (yeq (by omega) hg h), ek, pof, if_pos h]
    · rw [if_neg (neq (by omega) hg h), ek, pof, if_neg h])
  unfold fn_X12_pieceOf
  refine Eq.trans (show _ = _ from ?_) (hm.trans ?_)
  · show _ = fn_X12_pieceOf_4 fu (iI g) (iI (-1)) (iI ((0 : Nat) : Int)) z
    rw [← q_m1, show iI ((0 : Nat) : Int) = 0 from q_0.symm]
  · rw [fn_X12_pieceOf_4, c_168, e168, if_pos (yle (by omega) (by omega) (by omega))]
    rfl
/-- what load leaves -/
def ldz (z : St) : St := (fun q j => if q = 198 ∧ j < 171 then z.1 197 j else z.1 q j, z.2)
theorem m_load (z : St) : fn_X12_load z = some (ldz z) := by
  obtain ⟨m, hm⟩ := loopK (fun m k => fn_X12_load_2 m (iI (k : Int)) (fun q j => if q = 198 ∧ j < k then z.1 197 j else z.1 q j, z.2)) 171 (by omega) (fun k m hk => by
    show fn_X12_load_2 (m + 1) _ _ = _
    rw [fn_X12_load_2, q_171, if_neg (nle (by omega) (by omega) (by omega)), gd_t (iI_ix (by omega)), gd_t (iI_ix (by omega)), nm_o, iI_clampN (by omega), q_1, iI_add]
    congr 1
    unfold sI
    congr 1
    funext q j
    by_cases h1 : q = 198
    · subst h1
      by_cases h2 : j = k
      · subst h2; simp
      · have : (j < k + 1) = (j < k) := propext (by omega)
        simp [h2, this]
    · simp [h1])
  unfold fn_X12_load
  refine Eq.trans (show _ = _ from ?_) (hm.trans ?_)
  · show _ = fn_X12_load_2 fu (iI ((0 : Nat) : Int)) (fun q j => if q = 198 ∧ j < 0 then z.1 197 j else z.1 q j, z.2)
    rw [show iI ((0 : Nat) : Int) = 0 from q_0.symm]
    refine congrArg (fn_X12_load_2 fu 0) ?_
    simp
  · rw [fn_X12_load_2, q_171, if_pos (yle (by omega) (by omega) (by omega))]
    rfl
theorem ldz_B {z : St} {b : BD} (h : MB 197 0 z b) (hn : b 168 ≤ 24) : MB 198 0 (ldz z) b := by
  obtain ⟨h1, h2, h3, h4⟩ := h
  refine ⟨h1, h2, h3, fun p hp f hf => ?_⟩
  rw [← h4 p hp f hf]
  show (if 198 = 198 ∧ 0 + (7 * p + f) < 171 then z.1 197 (0 + (7 * p + f)) else z.1 198 (0 + (7 * p + f))) = _
  rw [if_pos (by omega)]
theorem ldz_S {z : St} {a k : Nat} (h : a ≠ 198) : SA z (ldz z) a k := ⟨by show (if a = 198 ∧ k < 171 then _ else _) = _; rw [if_neg (by omega)], rfl⟩
