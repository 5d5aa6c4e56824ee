/-! within a formula: both sides -/
def mSf (m : Nat) (w : St) : Option St := fn_X12_formula_50 m 1 w
def mUf (k m : Nat) (w : St) : Option St := bv (fn_X12_unit_2 k 1 w) (fun w' => fn_X12_formula_50 m 1 w')
abbrev xFr (q : Nat) (a j : Nat) : Prop := ¬ (a = 32 ∧ 4 ≤ j ∧ j ≤ 12) ∧ ¬ a = q + 1 ∧ ¬ (a = q ∧ (j = 2 ∨ j = 3))
abbrev mFr (f : Nat) (a j : Nat) : Prop := ¬ (a = 172 ∧ (j = 2 ∨ j = 3 ∨ j = 4 ∨ j = 6 ∨ j = 7 ∨ j = 8 ∨ j = 9 ∨ j = 21 ∨ j = 22 ∨ j = 24 ∨ j = 25)) ∧ ¬ a = 181 ∧ aFr f a j
def XSt (z : St) (T : Nat → Int) (n s q : Nat) (o : SL) (u : Nat) : Prop := XTx z T n ∧ XK z T n s ∧ z.1 32 11 = 0 ∧ XOt q z o ∧ z.1 q 3 = iI (u : Int)
def MSt (w : St) (T : Nat → Int) (n s f : Nat) (σ : List Int) (o : SL) (u v : Nat) : Prop := MTx w T n ∧ MK w T n s ∧ w.1 172 2 = 0 ∧ MS w f σ o u v
/-- the fault that is told at s -/
def ft (T : Nat → Int) (n s : Nat) : Int := if kx T n s = 4 then 1 else 2
theorem ft_b (T : Nat → Int) (n s : Nat) : 1 ≤ ft T n s ∧ ft T n s ≤ 2 := by unfold ft; split <;> omega
section
variable {z w : St} {T : Nat → Int} {n s q f u v : Nat} {σ : List Int} {o : SL}
theorem XK.fr (h : XK z T n s) (hs : ∀ j, 4 ≤ j → j ≤ 10 → SA z w 32 j) : XK w T n s := by
  obtain ⟨h1, h2, h3, h4, h5, h6⟩ := h
  exact ⟨(hs 6 (by omega) (by omega)).1.trans h1, (hs 5 (by omega) (by omega)).1.trans h2, fun q => (hs 4 (by omega) (by omega)).1.trans (h3 q), fun q => ⟨(hs 8 (by omega) (by omega)).2.trans (h4 q).1, (hs 9 (by omega) (by omega)).1.trans (h4 q).2⟩, fun q => (hs 7 (by omega) (by omega)).1.trans (h5 q), fun q => (hs 10 (by omega) (by omega)).1.trans (h6 q)⟩
theorem MK.fr (h : MK z T n s) (hs : ∀ j, j = 4 ∨ (6 ≤ j ∧ j ≤ 9) → SA z w 172 j) : MK w T n s := by
  obtain ⟨h1, h2, h3, h4, h5⟩ := h
  exact ⟨(hs 7 (by omega)).1.trans h1, (hs 6 (by omega)).1.trans h2, fun q => (hs 4 (by omega)).1.trans (h3 q), fun q => (hs 9 (by omega)).2.trans (h4 q), fun q => (hs 8 (by omega)).1.trans (h5 q)⟩
/-! x with a fault -/
theorem ef_sg (h : z.1 32 11 ≠ 0) (c : Int32) : fn_X6_isSign c z = some (0, z) := by unfold fn_X6_isSign; rw [if_neg h]
theorem ef_kw (h : z.1 32 11 ≠ 0) (c : Int32) : fn_X6_isKeyword c z = some (0, z) := by unfold fn_X6_isKeyword; rw [if_neg h]
theorem ef_keep (h : z.1 32 11 ≠ 0) (c : Int32) : fn_X6_keepFault c z = some z := by unfold fn_X6_keepFault; rw [if_neg h]
theorem ef_ref (h : z.1 32 11 ≠ 0) : fn_X6_refuse z = some z := by
  unfold fn_X6_refuse fn_X6_refuse_14
  rw [bv_o (ef_keep h 1), bv_o (ef_keep h 2)]
  split <;> rfl
theorem ef_exs (h : z.1 32 11 ≠ 0) (c : Int32) : fn_X6_expectSign c z = some z := by
  unfold fn_X6_expectSign
  rw [bd_o (ef_sg h c), if_pos rfl, bv_o (ef_ref h)]
theorem ef_exk (h : z.1 32 11 ≠ 0) (c : Int32) : fn_X6_expectKeyword c z = some z := by
  unfold fn_X6_expectKeyword
  rw [bd_o (ef_kw h c), if_pos rfl, bv_o (ef_ref h)]
theorem plain_s (z : St) : ∃ r, fn_X6_plainUnit z = some (r, z) := by
  unfold fn_X6_plainUnit fn_X6_plainUnit_26
  repeat (first | exact ⟨_, rfl⟩ | refine ite_snd ?_ ?_)
theorem ef_unit (kE : Nat → Int32 → St → Option St) (v2 : Int32) (h : z.1 32 11 ≠ 0) : fn_X6_unit kE q v2 z = some z := by
  obtain ⟨r, hr⟩ := plain_s z
  have h42 : ∀ v3 v4 tv0 : Int32, fn_X6_unit_42 kE q v2 v3 v4 tv0 z = some z := fun v3 v4 tv0 => by
    unfold fn_X6_unit_42 fn_X6_unit_63
    rw [if_neg h, bv_o (ef_ref h)]
  unfold fn_X6_unit
  rw [bd_o (ef_sg h 40), bd_o hr, if_pos rfl]
  split <;> exact h42 _ _ _
theorem ef_term8 (kE : Nat → Int32 → St → Option St) (v2 v3 : Int32) (m : Nat) (h : z.1 32 11 ≠ 0) : fn_X6_term_8 kE (m + 1) q v2 v3 z = some z := by
  rw [fn_X6_term_8, bd_o (ef_sg h 42), bd_o (ef_sg h 47), bd_o (ef_sg h 37)]
  split <;> rfl
theorem ef_term (kE : Nat → Int32 → St → Option St) (v2 : Int32) (h : z.1 32 11 ≠ 0) : fn_X6_term kE q v2 z = some z := by
  unfold fn_X6_term
  rw [bv_o (ef_unit kE v2 h)]
  exact ef_term8 kE v2 0 999999 h
theorem ef_sum8 (kE : Nat → Int32 → St → Option St) (v2 v3 : Int32) (m : Nat) (h : z.1 32 11 ≠ 0) : fn_X6_sum_8 kE (m + 1) q v2 v3 z = some z := by
  rw [fn_X6_sum_8, bd_o (ef_sg h 43), bd_o (ef_sg h 45)]
  split <;> rfl
theorem ef_sum (kE : Nat → Int32 → St → Option St) (v2 : Int32) (h : z.1 32 11 ≠ 0) : fn_X6_sum kE q v2 z = some z := by
  unfold fn_X6_sum
  rw [bv_o (ef_term kE v2 h)]
  exact ef_sum8 kE v2 0 999999 h
theorem ef_both8 (kE kO : Nat → Int32 → St → Option St) (v2 v3 : Int32) (m : Nat) (h : z.1 32 11 ≠ 0) : fn_X6_both_8 kE kO (m + 1) q v2 v3 z = some z := by
  rw [fn_X6_both_8, bd_o (ef_kw h 12)]
  split <;> rfl
theorem ef_either8 (kE kO : Nat → Int32 → St → Option St) (v2 v3 : Int32) (m : Nat) (h : z.1 32 11 ≠ 0) : fn_X6_either_8 kE kO (m + 1) q v2 v3 z = some z := by
  rw [fn_X6_either_8, bd_o (ef_kw h 11)]
  split <;> rfl
/-! the reference with a fault -/
theorem mf_u101 {e : Int} (he : 1 ≤ e ∧ e ≤ 4) (h : w.1 172 2 = iI e) : fn_X12_unit_101 w = some w := by
  unfold fn_X12_unit_101
  rw [h, if_neg (show ¬ iI e ≤ 0 from by rw [q_0]; exact nle (by omega) (by omega) (by omega))]
theorem mf_u2 {e : Int} (he : 1 ≤ e ∧ e ≤ 4) (h : w.1 172 2 = iI e) (k : Nat) (x : Int32) : fn_X12_unit_2 (k + 1) x w = some w := by
  rw [fn_X12_unit_2, mf_u101 he h, h, if_neg (show ¬ iI e = 0 from by rw [q_0]; exact neq (by omega) (by omega) (by omega))]
  split <;> rfl
theorem mf_177 {e : Int} (he : 1 ≤ e ∧ e ≤ 4) (h : w.1 172 2 = iI e) : fn_X12_formula_177 w = some w := by
  unfold fn_X12_formula_177 fn_X12_formula_196
  rw [h, if_neg (show ¬ iI e = 0 from by rw [q_0]; exact neq (by omega) (by omega) (by omega)), if_neg (show ¬ iI e = 0 from by rw [q_0]; exact neq (by omega) (by omega) (by omega))]
theorem mf_S {e : Int} (he : 1 ≤ e ∧ e ≤ 4) (h : w.1 172 2 = iI e) (m : Nat) : mSf (m + 1) w = some w := by
  unfold mSf
  rw [fn_X12_formula_50, if_neg (show ¬ (1 : Int32) = 0 from by decide), h, if_neg (show ¬ iI e = 0 from by rw [q_0]; exact neq (by omega) (by omega) (by omega)), mf_177 he h]
/-! a fault is told -/
theorem x_keep (hf : z.1 32 11 = 0) (hK : XK z T n s) (c : Int32) : ∃ z', fn_X6_keepFault c z = some z' ∧ z'.1 32 11 = c ∧ z'.1 32 12 = iI (s : Int) ∧ ∀ a j, ¬ (a = 32 ∧ (j = 11 ∨ j = 12)) → SA z z' a j := by
  unfold fn_X6_keepFault
  rw [hf, if_pos rfl, nm_o, nm_o]
  refine ⟨_, rfl, by rw [sI_at, if_neg (by omega), sI_at, if_pos rfl], by rw [sI_at, if_pos rfl, sI_at, if_neg (by omega), hK.1], fun a j q => (sa_I rfl (by omega)).tr (sa_I rfl (by omega))⟩
theorem x_ref (hf : z.1 32 11 = 0) (hK : XK z T n s) : ∃ z', fn_X6_refuse z = some z' ∧ z'.1 32 11 = iI (ft T n s) ∧ z'.1 32 12 = iI (s : Int) ∧ ∀ a j, ¬ (a = 32 ∧ (j = 11 ∨ j = 12)) → SA z z' a j := by
  have h4 := kx_4 T n s
  obtain ⟨z1, a1, a2, a3, a4⟩ := x_keep hf hK 1
  obtain ⟨z2, b1, b2, b3, b4⟩ := x_keep hf hK 2
  unfold fn_X6_refuse fn_X6_refuse_14 ft
  rw [hK.2.1, bv_o a1, bv_o b1]
  by_cases q : kx T n s = 4
  · rw [if_pos (show iI (kx T n s : Int) = 4 from by rw [q]; exact q_4.symm), if_pos q]
    exact ⟨z1, rfl, by rw [a2, q_1], a3, a4⟩
  · rw [if_neg (show ¬ iI (kx T n s : Int) = 4 from by rw [q_4]; exact neq (by omega) (by omega) (by omega)), if_neg q]
    exact ⟨z2, rfl, by rw [b2, q_2], b3, b4⟩
theorem m_wrongC (hT : VT T n) (hf : w.1 172 2 = 0) (hK : MK w T n s) (c : Int) : ∃ w', fn_X12_wrong (iI c) w = some w' ∧ w'.1 172 2 = iI (if kx T n s = 4 then 1 else c) ∧ w'.1 172 3 = iI (s : Int) ∧ ∀ a j, ¬ (a = 172 ∧ (j = 2 ∨ j = 3)) → SA w w' a j := by
  have hb := ks_b (s := s) hT
  have l22 : ∀ c : Int32, ∃ w', fn_X12_wrong_22 c w = some w' ∧ w'.1 172 2 = c ∧ w'.1 172 3 = iI (s : Int) ∧ ∀ a j, ¬ (a = 172 ∧ (j = 2 ∨ j = 3)) → SA w w' a j := fun c => by
    unfold fn_X12_wrong_22
    rw [nm_o, nm_o]
    exact ⟨_, rfl, by rw [sI_at, if_neg (by omega), sI_at, if_pos rfl], by rw [sI_at, if_pos rfl, sI_at, if_neg (by omega), hK.1], fun a j q => (sa_I rfl (by omega)).tr (sa_I rfl (by omega))⟩
  unfold fn_X12_wrong
  rw [hf, if_pos (show (0 : Int32) ≤ 0 from by decide), hK.2.1]
  by_cases q : kx T n s = 4
  · rw [if_pos (show iI (tKs T n s) = 3 from by rw [(ks_3 hT).mpr q]; exact q_3.symm), if_pos q, q_1]
    exact l22 _
  · rw [if_neg (show ¬ iI (tKs T n s) = 3 from by rw [q_3]; exact neq (by omega) (by omega) (fun a => q ((ks_3 hT).mp a))), if_neg q]
    exact l22 _
theorem m_wrong2 (hT : VT T n) (hf : w.1 172 2 = 0) (hK : MK w T n s) : ∃ w', fn_X12_wrong 2 w = some w' ∧ w'.1 172 2 = iI (ft T n s) ∧ w'.1 172 3 = iI (s : Int) ∧ ∀ a j, ¬ (a = 172 ∧ (j = 2 ∨ j = 3)) → SA w w' a j := by
  rw [q_2]; exact m_wrongC hT hf hK 2
/-! a sign is pushed, and the next unit looked for -/
theorem m_unstop (hσ : ∀ x ∈ σ, vsE x) (hM : MSt w T n s f σ o u v) (hT : VT T n) (h160 : σ.length ≤ 160) (m : Nat) (h41 : ¬ (kx T n s = 3 ∧ T s = 41)) : mSf (m + 1) w = fn_X12_formula_114 (fn_X12_formula_50 m) 1 (iI (sg T n s)) w := by
  obtain ⟨hX, hK, h0, hS⟩ := hM
  have hb := ks_b (s := s) hT
  unfold mSf
  rw [fn_X12_formula_50, if_neg (show ¬ (1 : Int32) = 0 from by decide), h0, if_pos rfl, bd_o (m_sg hT hK), hK.2.1, if_neg (show ¬ iI (tKs T n s) = 41 from by rw [q_41]; exact neq (by omega) (by omega) (fun a => h41 ((ks_c hT (by omega)).mp a)))]
theorem sg_41 (h : kx T n s = 3 ∧ T s = 41) : sg T n s = 0 := by
  unfold sg kw
  rw [h.1, h.2, if_neg (show ¬ (3 : Nat) = 1 from by decide)]
  decide
theorem sg_n41 (h : sg T n s ≠ 0) : ¬ (kx T n s = 3 ∧ T s = 41) := fun a => h (sg_41 a)
theorem m_push {π : List Int} (hT : VT T n) (hs : s ≤ n) (hf : f < 2) (hσ : ∀ x ∈ σ, vsE x) (hπ : ∀ x ∈ π, vsE x ∧ x ≠ 20 ∧ tg (sg T n s) ≤ tg x) (hst : stpL (tg (sg T n s)) σ) (hop : sg T n s ≠ 0) (hr : tg (sg T n s) = 4 → hrl (π ++ σ) = false) (hM : MSt w T n s f (π ++ σ) o u v) (ho : o.length + π.length ≤ 300) (h160 : (π ++ σ).length ≤ 150) (m : Nat) : ∃ w', mSf (m + 1) w = mUf fu m w' ∧ MSt w' T n (nx T n s) f (sg T n s :: σ) (o ++ fl π) u v ∧ ∀ a j, mFr f a j → SA w w' a j := by
  have hop' := sg_op hop
  have hvs : vsE (sg T n s) := Or.inr (Or.inr hop')
  have hb := vs_b hvs
  have ht := tg_b (sg T n s)
  have hk := sg_k hop
  have hall : ∀ x ∈ π ++ σ, vsE x := fun x hx => by
    rcases List.mem_append.mp hx with h | h
    · exact (hπ x h).1
    · exact hσ x h
  have hσl : σ.length ≤ 150 := by rw [List.length_append] at h160; omega
  rw [m_unstop hall hM hT (by omega) m (sg_n41 hop)]
  obtain ⟨hX, hK, h0, hS⟩ := hM
  have h133 : fn_X12_formula_114 (fn_X12_formula_50 m) 1 (iI (sg T n s)) w = fn_X12_formula_133 (fn_X12_formula_50 m) 1 (iI (sg T n s)) w := by
    unfold fn_X12_formula_114
    rw [if_neg (show ¬ iI (sg T n s) = 0 from by rw [q_0]; exact neq (by omega) (by omega) hop), bd_o (m_tight hvs)]
    by_cases e4 : tg (sg T n s) = 4
    · rw [if_pos (show iI ((tg (sg T n s) : Nat) : Int) = 4 from by rw [e4]; exact q_4.symm), bd_o (m_hasRel hS hall (by omega)), hr e4, tr_n (by decide), if_pos (show iI 0 = 0 from q_0.symm)]
    · rw [if_neg (show ¬ iI ((tg (sg T n s) : Nat) : Int) = 4 from by rw [q_4]; exact neq (by omega) (by omega) (by omega))]
  obtain ⟨w1, a1, a2, a3⟩ := m_close hf ht.2 hst hσ hS hπ ho (by omega)
  rw [h133]
  unfold fn_X12_formula_133
  rw [bd_o (m_tight hvs), bv_o a1, a2.2.2.1, gd_t (iI_ix (by omega)), nm_o, nm_o, iI_clampN (by omega)]
  have e21 : (sI w1 181 σ.length (iI (sg T n s))).1 172 21 = iI (σ.length : Int) := a2.2.2.1
  rw [e21, k1]
  generalize hw2 : sI (sI w1 181 σ.length (iI (sg T n s))) 172 21 (iI ((σ.length + 1 : Nat) : Int)) = w2
  have k2 : ∀ a j, ¬ (a = 181 ∧ j = σ.length) → ¬ (a = 172 ∧ j = 21) → SA w1 w2 a j := fun a j q1 q2 => (sa_I rfl q1).tr (sa_I hw2.symm q2)
  have k02 : ∀ a j, cFr f a j → ¬ (a = 181 ∧ j = σ.length) → SA w w2 a j := fun a j q1 q2 => (a3 a j q1).tr (k2 a j q2 (by unfold cFr at q1; omega))
  have X2 : MTx w2 T n := hX.fr fun a j q => k02 a j (by unfold cFr aFr; omega) (by omega)
  have K2 : MK w2 T n s := hK.fr fun j q => k02 172 j (by unfold cFr aFr; omega) (by omega)
  have h4 : kx T n s ≠ 4 := by omega
  obtain ⟨w3, b1, b2⟩ := m_tok hT X2 hs K2 h4
  have k3 : ∀ a j, ¬ (a = 172 ∧ j = 4) ∧ ¬ (a = 172 ∧ j = 6) ∧ ¬ (a = 172 ∧ j = 9) ∧ ¬ (a = 172 ∧ j = 8) ∧ ¬ (a = 172 ∧ j = 7) → SA w2 w3 a j := fun a j q => ff_X12_token q b1
  rw [bv_o b1]
  refine ⟨w3, ?_, ⟨X2.fr fun a j q => k3 a j (by omega), b2, ?_, ?_⟩, fun a j q => (k02 a j (by unfold mFr at q; unfold cFr; omega) (by unfold mFr at q; omega)).tr (k3 a j (by unfold mFr at q; omega))⟩
  · unfold mUf fn_X12_formula_174 fn_X12_unit
    rfl
  · rw [(k3 172 2 (by omega)).1, (k02 172 2 (by unfold cFr aFr; omega) (by omega)).1, h0]
  · have hS2 : MS w2 f (sg T n s :: σ) (o ++ fl π) u v := by
      obtain ⟨c1, c2, c3, c4, c5, c6, c7⟩ := a2
      refine ⟨(k2 172 20 (by omega) (by omega)).1.trans c1, c2.fr fun a j q => k2 a j (by omega) (by omega), ?_, ⟨?_, c4.fr fun j hj => k2 181 j (by omega) (by omega)⟩, ?_, (k2 172 24 (by omega) (by omega)).1.trans c6, (k2 172 22 (by omega) (by omega)).1.trans c7⟩
      · rw [← hw2, sI_at, if_pos rfl]; rfl
      · rw [← hw2, (sa_Ia (z := sI w1 181 σ.length (iI (sg T n s))) (a := 181) (k := σ.length) rfl (by omega)).1, sI_at, if_pos rfl]
      · rw [(k2 172 25 (by omega) (by omega)).1, c5]
        show _ = iI ((nb σ + (if sg T n s = 20 ∨ sg T n s = 21 then 1 else 0) : Nat) : Int)
        rw [if_neg (by unfold isOp at hop'; omega)]; rfl
    have hol : (o ++ fl π).length ≤ 320 := by rw [List.length_append, show (fl π).length = π.length from List.length_map ..]; omega
    exact hS2.fr hol fun a j q => k3 a j (by unfold msF at q; omega)
/-- the end of a formula, or of what a bracket holds -/
theorem m_stop (hT : VT T n) (hσ : ∀ x ∈ σ, vsE x) (h160 : σ.length ≤ 160) (hM : MSt w T n s f σ o u v) (hs : sg T n s = 0 ∨ (tg (sg T n s) = 4 ∧ hrl σ = true)) (hb : ¬ (kx T n s = 3 ∧ T s = 41) ∨ hbk σ σ.length = false) (m : Nat) : mSf (m + 2) w = fn_X12_formula_177 w := by
  have hS := hM.2.2.2
  have e172 : fn_X12_formula_172 (fn_X12_formula_50 (m + 1)) w = fn_X12_formula_177 w := by
    unfold fn_X12_formula_172 fn_X12_formula_174
    rw [fn_X12_formula_50, if_pos rfl]
  have e114 : fn_X12_formula_114 (fn_X12_formula_50 (m + 1)) 1 (iI (sg T n s)) w = fn_X12_formula_177 w := by
    unfold fn_X12_formula_114
    by_cases h0 : sg T n s = 0
    · rw [if_pos (show iI (sg T n s) = 0 from by rw [h0]; exact q_0.symm), e172]
    · have hvs : vsE (sg T n s) := Or.inr (Or.inr (sg_op h0))
      have hbb := vs_b hvs
      obtain ⟨h4, hr⟩ := hs.resolve_left h0
      rw [if_neg (show ¬ iI (sg T n s) = 0 from by rw [q_0]; exact neq (by omega) (by omega) h0), bd_o (m_tight hvs), if_pos (show iI ((tg (sg T n s) : Nat) : Int) = 4 from by rw [h4]; exact q_4.symm), bd_o (m_hasRel hS hσ h160), tr_1 hr, if_neg (show ¬ iI 1 = 0 from by decide), e172]
  by_cases h41 : kx T n s = 3 ∧ T s = 41
  · have hbf := hb.resolve_left (fun a => a h41)
    obtain ⟨hX, hK, h0, -⟩ := hM
    unfold mSf
    rw [fn_X12_formula_50, if_neg (show ¬ (1 : Int32) = 0 from by decide), h0, if_pos rfl, bd_o (m_sg hT hK), hK.2.1, if_pos (show iI (tKs T n s) = 41 from by rw [(ks_c hT (by omega)).mpr h41]; exact q_41.symm), bd_o (m_hasBr hS hσ h160), hbf, tr_n (by decide), if_pos (show iI 0 = 0 from q_0.symm), e114]
  · rw [m_unstop hσ hM hT h160 (m + 1) h41, e114]
end
