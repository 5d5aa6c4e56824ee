abbrev FO : Type := Nat × (Nat → Nat) × (Nat → Int)
def VF (F : FO) : Prop := F.1 = 0 ∨ FV F.1 F.2.1 F.2.2
def XFo (q f : Nat) (z : St) (F : FO) : Prop := (F.1 = 0 ∧ XF q z 1 (fun _ => if f = 0 then 1 else 0) (fun _ => 0)) ∨ (F.1 ≠ 0 ∧ XF q z F.1 F.2.1 F.2.2)
def MFo (f : Nat) (z : St) (F : FO) : Prop := MF f z F.1 F.2.1 F.2.2
def wv (F : FO) (o : Int32) (A : Nat → Int32) : Int32 := if F.1 = 0 then o else ev A F.2.1 F.2.2 F.1 0
theorem XF.fr {q N : Nat} {fk : Nat → Nat} {fa : Nat → Int} {z w : St} (h : XF q z N fk fa) (hs : ∀ a k, a = q ∧ k = 2 ∨ a = q + 1 → SA z w a k) : XF q w N fk fa :=
  ⟨(hs _ _ (Or.inl ⟨rfl, rfl⟩)).1.trans h.1, fun k hk => by rw [(hs _ _ (Or.inr rfl)).1]; exact h.2 k hk⟩
theorem XFo.fr {q f : Nat} {F : FO} {z w : St} (h : XFo q f z F) (hs : ∀ a k, a = q ∧ k = 2 ∨ a = q + 1 → SA z w a k) : XFo q f w F := by
  rcases h with ⟨h1, h2⟩ | ⟨h1, h2⟩
  · exact Or.inl ⟨h1, h2.fr hs⟩
  · exact Or.inr ⟨h1, h2.fr hs⟩
theorem MFo.fr {f : Nat} {F : FO} {z w : St} (h : MFo f z F) (hs : ∀ a k, 178 ≤ a ∧ a ≤ 180 → SA z w a k) : MFo f w F :=
  ⟨(hs _ _ (by omega)).1.trans h.1, fun k hk => ⟨(hs _ _ (by omega)).1.trans (h.2 k hk).1, (hs _ _ (by omega)).1.trans (h.2 k hk).2⟩⟩
theorem x_out {q f : Nat} {z : St} {F : FO} (hq : q ≠ 142 ∧ q ≠ 143) (hX : XFo q f z F) (hV : VF F) {A : Nat → Int32} (hA : ∀ j, j < 6 → z.1 144 (j + 1) = A j) : ∃ w, fn_X2_outcome q 144 z = some (wv F (if f = 0 then A 0 else 0) A, w) := by
  unfold wv
  rcases hX with ⟨h1, h2⟩ | ⟨h1, h2⟩
  · obtain ⟨w, hw⟩ := x_outcome hq h2 (by
      refine ⟨by omega, ?_, fun k hk => ?_⟩
      · rw [dp]; by_cases hf : f = 0 <;> simp [hf]
      · have : k = 0 := by omega
        subst this
        refine ⟨by rw [dp]; omega, ?_⟩
        by_cases hf : f = 0
        · exact Or.inr (Or.inl ⟨if_pos hf, Int.le_refl 0, by decide⟩)
        · exact Or.inl ⟨if_neg hf, Int.le_refl 0, by decide⟩) hA
    refine ⟨w, hw.trans ?_⟩
    rw [if_pos h1, ev]
    by_cases hf : f = 0
    · simp [hf, dp]
    · simp only [hf, dp, if_false, if_true]
      rw [q_0]
  · obtain ⟨w, hw⟩ := x_outcome hq h2 (hV.resolve_left h1) hA
    exact ⟨w, by rw [hw, if_neg h1]⟩
theorem m_wk {f : Nat} {z : St} {F : FO} (hf : f < 2) (hX : MFo f z F) (hV : VF F) {A : Nat → Int32} (hA : ∀ j, j < 6 → z.1 184 j = A j) (o : Int32) : ∃ w, fn_X12_worked (iI f) o z = some (wv F o A, w) := m_worked hf hX hV hA o
/-- what a formula asks of a piece -/
def As (c : RC) (v : Nat → Int) (sw al mi : Int) : Nat → Int32 := fun j => if j = 0 then iI (ar c v) else if j = 1 then iI (ic c v) else if j = 2 then iI sw else if j = 3 then iI (v 5) else if j = 4 then iI al else iI mi
def wo (c : RC) (F : FO) (v : Nat → Int) (sw mi : Int) : Int32 := wv F (iI (ar c v)) (As c v sw 0 mi)
def so (c : RC) (F : FO) (v : Nat → Int) (al mi : Int) : Int32 := wv F 0 (As c v 0 al mi)
theorem kd_36 {p : Nat} (h : p < 24) : kd (36 + p) = 9 := by
  have : ∀ p, p < 24 → kd (36 + p) = 9 := by decide +kernel
  exact this p h
theorem kd_ne {s : Nat} (h : kd s = 9) : s ≠ 144 := fun q => by rw [q] at h; exact absurd h (by decide)
section
variable {z : St} {c : RC} {b : BD} {F : FO} {v : Nat → Int} {s : Nat} {mi : Int} {g p : Nat}
theorem x_measure (hR : XR z c) (hC : VC c) (hk : kd s = 9) (hS : XS s z v) (hV : VP c v) (hm : z.1 34 3 = iI mi) : ∃ w, fn_X10_measure s z = some w ∧ (∀ j, j < 6 → w.1 144 (j + 1) = As c v 0 0 mi j) := by
  have hs := kd_ne hk
  unfold fn_X10_measure
  rw [bd_o (x_area hR hC hS hV), nm_o, c_1]
  generalize e1 : sI z 144 1 (iI (ar c v)) = z1
  have k1 : ∀ a k, a ≠ 144 → SA z z1 a k := fun a k h => sa_Ia e1.symm h
  rw [bd_o (x_icing (hR.fr fun a k h => k1 a k (by unfold QX at h; omega)) hC (hS.fr fun k => k1 s k hs) hV), nm_o, c_2]
  generalize e2 : sI z1 144 2 (iI (ic c v)) = z2
  have k2 : ∀ a k, a ≠ 144 → SA z z2 a k := fun a k h => (k1 a k h).tr (sa_Ia e2.symm h)
  rw [nm_o, c_3]
  generalize e3 : sI z2 144 3 0 = z3
  have k3 : ∀ a k, a ≠ 144 → SA z z3 a k := fun a k h => (k2 a k h).tr (sa_Ia e3.symm h)
  have h5 := hV.2.2.2.1
  rw [(k3 s 5 hs).1, hS 5 (by omega), q_0]
  have e4 : (if iI (v 5) = iI 0 then fn_X10_measure_52 4 (iI 0) z3 else fn_X10_measure_52 4 1 z3) = fn_X10_measure_52 4 (iI (v 5)) z3 := by
    by_cases h : v 5 = 0
    · rw [if_pos (by rw [h]), h]
    · rw [if_neg (neq (by omega) (by omega) h), show v 5 = 1 from by omega, q_1]
  rw [e4]
  unfold fn_X10_measure_52
  rw [gd_t (by decide), nm_o, nm_o, nm_o, c_4, c_5, c_6]
  refine ⟨_, rfl, fun j hj => ?_⟩
  have hz : (sI (sI z3 144 4 (iI (v 5))) 144 5 0).1 34 3 = iI mi := by
    have := (k3 34 3 (by omega)).1
    simp only [sI, show ¬ (34 = 144) from by omega, if_false]
    rw [this, hm]
  rw [hz]
  rw [← e3, ← e2, ← e1]
  have hj' : j = 0 ∨ j = 1 ∨ j = 2 ∨ j = 3 ∨ j = 4 ∨ j = 5 := by omega
  rcases hj' with rfl | rfl | rfl | rfl | rfl | rfl <;> simp [sI, As, q_0]
theorem x_ofSlab (hR : XR z c) (hC : VC c) (hk : kd s = 9) (hS : XS s z v) (hV : VP c v) (hm : z.1 34 3 = iI mi) (hF : XFo 11 0 z F) (hVF : VF F) (hg : (g : Int) < c 6 1) : ∃ w, fn_X10_ofSlab (iI g) s z = some (wo c F v (c 4 g) mi, w) := by
  obtain ⟨w, hw, ha⟩ := x_measure hR hC hk hS hV hm
  have k1 : ∀ a k, a ≠ 144 → SA z w a k := fun a k h => ff_X10_measure hk (by show ¬ a = 144; exact h) hw
  have h6 := hC.g hg
  unfold fn_X10_ofSlab fn_X10_ofSlab_34
  have hR1 := hR.fr (w := w) fun a k h => k1 a k (by unfold QX at h; omega)
  rw [bv_o hw, bd_o (x_isGuest hR1 hC (by omega)), tr_1 (by omega), if_neg (by decide), gd_t (iI_ix (by omega)), iI_clampN (by omega), (hR1.2.2.2.2 g hg).2.1, gd_t (by decide), nm_o, c_3]
  generalize e3 : sI w 144 3 (iI (c 4 g)) = w3
  have k3 : ∀ a k, a ≠ 144 → SA z w3 a k := fun a k h => (k1 a k h).tr (sa_Ia e3.symm h)
  obtain ⟨w4, hw4⟩ := x_out (q := 11) (f := 0) (z := w3) (F := F) (by omega) (hF.fr fun a k h => k3 a k (by omega)) hVF (A := As c v (c 4 g) 0 mi) (fun j hj => by
    rw [← e3]
    rw [sI_at]
    by_cases hj2 : j + 1 = 3
    · rw [if_pos hj2]; have : j = 2 := by omega
      subst this; rfl
    · rw [if_neg hj2, ha j hj]
      unfold As
      have : j ≠ 2 := by omega
      simp [this])
  rw [bd_o hw4]
  exact ⟨w4, rfl⟩
theorem x_ofPiece (hR : XR z c) (hC : VC c) (hB : XB 34 z b) (hV : VB c b) (hF : XFo 11 0 z F) (hVF : VF F) (hg : (g : Int) < c 6 1) (hp : (p : Int) < b 168) (o : Int32) : ∃ w, fn_X10_ofPiece (iI g) (iI p) o z = some (wo c F (pc b p) (c 4 g) (b 169), w) := by
  have h24 := hV.n hp
  obtain ⟨w, hw⟩ := x_ofSlab hR hC (s := 36 + p) (kd_36 h24) (hB.2.2.2.1 p hp) (hV.2.2.1 p hp) hB.2.1 hF hVF hg
  unfold fn_X10_ofPiece
  rw [bd_o (x_isPiece hB hV (by omega)), tr_1 (by omega), if_neg (by decide), gd_t (iI_ix (by omega)), iI_clampN (by omega), bd_o hw]
  exact ⟨w, rfl⟩
theorem x_ofPieceN {n : Int} {G : Int32} (hB : XB 34 z b) (hV : VB c b) (hn : -2147483648 ≤ n ∧ n < 2147483648) (hp : ¬ (0 ≤ n ∧ n < b 168)) (o : Int32) : fn_X10_ofPiece G (iI n) o z = some (o, z) := by
  unfold fn_X10_ofPiece
  rw [bd_o (x_isPiece hB hV hn), tr_n hp, if_pos (show iI 0 = 0 from q_0.symm)]
theorem x_slipOf {y : Int32} (hR : XR z c) (hC : VC c) (hB : XB 34 z b) (hV : VB c b) (hF : XFo 14 1 z F) (hVF : VF F) (hp : (p : Int) < b 168) : ∃ w, fn_X10_slipOf (iI p) y z = some (so c F (pc b p) (if y = 0 then pc b p 4 else pc b p 3) (b 169), w) := by
  have h24 := hV.n hp
  have hS := hB.2.2.2.1 p hp
  obtain ⟨w, hw, ha⟩ := x_measure hR hC (s := 36 + p) (kd_36 h24) hS (hV.2.2.1 p hp) hB.2.1
  have k1 : ∀ a k, a ≠ 144 → SA z w a k := fun a k h => ff_X10_measure (kd_36 h24) (by show ¬ a = 144; exact h) hw
  have hS1 : XS (36 + p) w (pc b p) := XS.fr (s := 36 + p) hS fun k => k1 _ k (by omega)
  unfold fn_X10_slipOf
  rw [bd_o (x_isPiece hB hV (by omega)), tr_1 (by omega), if_neg (by decide), gd_t (iI_ix (by omega)), iI_clampN (by omega), bv_o hw, gd_t (iI_ix (by omega))]
  have e9 : fn_X9_along (35 + 1 + p) y w = some (iI (if y = 0 then pc b p 4 else pc b p 3), w) := by
    unfold fn_X9_along
    rw [show 35 + 1 + p = 36 + p from by omega, hS1 4 (by omega), hS1 3 (by omega)]
    by_cases h : y = 0
    · rw [if_pos h, if_pos h]
    · rw [if_neg h, if_neg h]
  rw [bd_o e9, nm_o, c_5]
  generalize e3 : sI w 144 5 (iI (if y = 0 then pc b p 4 else pc b p 3)) = w3
  have k3 : ∀ a k, a ≠ 144 → SA z w3 a k := fun a k h => (k1 a k h).tr (sa_Ia e3.symm h)
  obtain ⟨w4, hw4⟩ := x_out (q := 14) (f := 1) (z := w3) (F := F) (by omega) (hF.fr fun a k h => k3 a k (by omega)) hVF (A := As c (pc b p) 0 (if y = 0 then pc b p 4 else pc b p 3) (b 169)) (fun j hj => by
    rw [← e3]
    rw [sI_at]
    by_cases hj2 : j + 1 = 5
    · rw [if_pos hj2]; have : j = 4 := by omega
      subst this; rfl
    · rw [if_neg hj2, ha j hj]
      unfold As
      have : j ≠ 4 := by omega
      simp [this])
  rw [bd_o hw4]
  exact ⟨w4, rfl⟩
/-! the reference -/
theorem m_askOf (hR : MR z c) (hC : VC c) (hB : MB 198 0 z b) (hV : VB c b) (hp : (p : Int) < b 168) (sw al : Int) : ∃ w, fn_X12_askOf (iI p) (iI sw) (iI al) z = some w ∧ (∀ j, j < 6 → w.1 184 j = As c (pc b p) sw al (b 169) j) := by
  have h24 := hV.n hp
  unfold fn_X12_askOf
  rw [bd_o (m_area hR hC hB hV hp), nm_o, c_0]
  generalize e1 : sI z 184 0 (iI (ar c (pc b p))) = z1
  have k1 : ∀ a k, a ≠ 184 → SA z z1 a k := fun a k h => sa_Ia e1.symm h
  have hB1 := hB.fr fun k => k1 198 k (by omega)
  rw [bd_o (m_icing (hR.fr fun a k h => k1 a k (by unfold QR at h; omega)) hC hB1 hV hp), nm_o, nm_o, c_1, c_2, gd_t (x7_5 h24), nm_o, nm_o, nm_o, c_3, c_4, c_5, c7_5 h24, c_169]
  refine ⟨_, rfl, fun j hj => ?_⟩
  have e5 : z1.1 198 (7 * p + 5) = iI (pc b p 5) := by
    have := hB1.2.2.2 p hp 5 (by omega)
    rwa [Nat.zero_add] at this
  have e6 : z1.1 198 169 = iI (b 169) := hB1.2.1
  have hj' : j = 0 ∨ j = 1 ∨ j = 2 ∨ j = 3 ∨ j = 4 ∨ j = 5 := by omega
  rcases hj' with rfl | rfl | rfl | rfl | rfl | rfl <;> simp [sI, As, e5, e6] <;> rw [← e1] <;> simp [sI]
theorem m_worthOf (hR : MR z c) (hC : VC c) (hB : MB 198 0 z b) (hV : VB c b) (hF : MFo 0 z F) (hVF : VF F) (hg : (g : Int) < c 6 1) (hp : (p : Int) < b 168) : ∃ w, fn_X12_worthOf (iI g) (iI p) z = some (wo c F (pc b p) (c 4 g) (b 169), w) := by
  have h6 := hC.g hg
  obtain ⟨w, hw, ha⟩ := m_askOf hR hC hB hV hp (c 4 g) 0
  have k1 : ∀ a k, a ≠ 184 → SA z w a k := fun a k h => ff_X12_askOf (by show ¬ a = 184; exact h) hw
  unfold fn_X12_worthOf
  rw [gd_t (iI_ix (by omega)), iI_clampN (by omega), (hR.2.2.2.2 g hg).2.1, show (0 : Int32) = iI 0 from q_0, bv_o hw]
  obtain ⟨w4, hw4⟩ := m_wk (f := 0) (z := w) (F := F) (by omega) (hF.fr fun a k h => k1 a k (by omega)) hVF ha (iI (ar c (pc b p)))
  rw [← q_0, c_0, ha 0 (by omega)]
  rw [bd_o (show fn_X12_worked 0 (As c (pc b p) (c 4 g) 0 (b 169) 0) w = _ from hw4)]
  exact ⟨w4, rfl⟩
def clp (x : Int32) : Int32 := if 0 ≤ x then (if x ≤ 100 then x else 100) else 0
theorem m_slipOf {y : Int32} (hR : MR z c) (hC : VC c) (hB : MB 198 0 z b) (hV : VB c b) (hF : MFo 1 z F) (hVF : VF F) (hp : (p : Int) < b 168) : ∃ w, fn_X12_slipOf (iI p) y z = some (clp (so c F (pc b p) (if y = 0 then pc b p 4 else pc b p 3) (b 169)), w) := by
  have h24 := hV.n hp
  have e := hB.2.2.2 p hp
  simp only [Nat.zero_add] at e
  have key : ∀ al : Int, ∃ w, (bv (fn_X12_askOf (iI p) 0 (iI al) z) (fun z3 => bd (fn_X12_worked 1 0 z3) (fun r5 z6 => (if 0 ≤ r5 then (if r5 ≤ 100 then some (r5, z6) else some (100, z6)) else some (0, z6))))) = some (clp (so c F (pc b p) al (b 169)), w) := by
    intro al
    obtain ⟨w, hw, ha⟩ := m_askOf hR hC hB hV hp 0 al
    have k1 : ∀ a k, a ≠ 184 → SA z w a k := fun a k h => ff_X12_askOf (by show ¬ a = 184; exact h) hw
    obtain ⟨w4, hw4⟩ := m_wk (f := 1) (z := w) (F := F) (by omega) (hF.fr fun a k h => k1 a k (by omega)) hVF ha 0
    rw [← q_0] at hw
    rw [bv_o hw, bd_o (show fn_X12_worked 1 0 w = _ from hw4)]
    refine ⟨w4, ?_⟩
    unfold clp so
    split
    · split <;> rfl
    · rfl
  unfold fn_X12_slipOf fn_X12_slipOf_20
  by_cases h : y = 0
  · rw [if_pos h, if_pos h, gd_t (x7_4 h24), c7_4 h24, e 4 (by omega)]
    exact key _
  · rw [if_neg h, if_neg h, gd_t (x7_3 h24), c7_3 h24, e 3 (by omega)]
    exact key _
end
