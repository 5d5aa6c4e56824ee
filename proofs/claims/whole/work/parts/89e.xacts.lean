section
variable {z : St} {c : RC} {F0 F1 : FO} {b : BD} {v : Nat → Int}
theorem i0_ne {n : Int} (h : -2147483648 ≤ n ∧ n < 2147483648) (h0 : ¬ n = 0) : ¬ iI n = 0 := by rw [q_0]; exact neq h (by omega) h0
theorem i1_ne {n : Int} (h : -2147483648 ≤ n ∧ n < 2147483648) (h0 : ¬ n = 1) : ¬ iI n = 1 := by rw [q_1]; exact neq h (by omega) h0
/-! slabs -/
theorem x_takeFrom {s t : Nat} (hst : s ≠ t) (hS : XS t z v) (h5 : 0 ≤ v 5 ∧ v 5 ≤ 1) : ∃ w, fn_X9_takeFrom s t z = some w ∧ XS s w v ∧ ∀ a k, a ≠ s → SA z w a k := by
  have hts : ¬ t = s := fun h => hst h.symm
  unfold fn_X9_takeFrom
  simp only [nm_o, sI, hts, if_false, hS 0 (by omega), hS 1 (by omega), hS 2 (by omega), hS 3 (by omega), hS 4 (by omega), hS 5 (by omega), hS 6 (by omega)]
  rw [gd_t (by
    have : v 5 = 0 ∨ v 5 = 1 := by omega
    rcases this with e | e <;> rw [e] <;> decide)]
  refine ⟨_, rfl, fun f hf => ?_, fun a k ha => ⟨by simp [ha], rfl⟩⟩
  have hf' : f = 0 ∨ f = 1 ∨ f = 2 ∨ f = 3 ∨ f = 4 ∨ f = 5 ∨ f = 6 := by omega
  rcases hf' with rfl | rfl | rfl | rfl | rfl | rfl | rfl <;> simp
def kb (v : Nat → Int) (y : Nat) (k : Int) : Nat → Int := fun f => if f = 1 + y then v f + k else if f = 3 + y then v f - k else v f
def ka (v : Nat → Int) (y : Nat) (k : Int) : Nat → Int := fun f => if f = 3 + y then k else v f
theorem x_keepBehind {s y : Nat} {k : Int} (hy : y < 2) (hS : XS s z v) : ∃ w, fn_X9_keepBehind s (iI y) (iI k) z = some w ∧ XS s w (kb v y k) ∧ ∀ a k, a ≠ s → SA z w a k := by
  have h : y = 0 ∨ y = 1 := by omega
  unfold fn_X9_keepBehind
  rcases h with rfl | rfl
  · rw [if_pos z0, nm_o, nm_o]
    simp only [sI, hS 1 (by omega), hS 3 (by omega), if_true, if_false, show ¬ (3 : Nat) = 1 from by omega, iI_add, iI_sub]
    refine ⟨_, rfl, fun f hf => ?_, fun a k ha => ⟨by simp [ha], rfl⟩⟩
    have hf' : f = 0 ∨ f = 1 ∨ f = 2 ∨ f = 3 ∨ f = 4 ∨ f = 5 ∨ f = 6 := by omega
    rcases hf' with rfl | rfl | rfl | rfl | rfl | rfl | rfl <;> simp [kb] <;> exact hS _ (by omega)
  · rw [if_neg (i0_ne (by omega) (by omega)), nm_o, nm_o]
    simp only [sI, hS 2 (by omega), hS 4 (by omega), if_true, if_false, show ¬ (4 : Nat) = 2 from by omega, iI_add, iI_sub]
    refine ⟨_, rfl, fun f hf => ?_, fun a k ha => ⟨by simp [ha], rfl⟩⟩
    have hf' : f = 0 ∨ f = 1 ∨ f = 2 ∨ f = 3 ∨ f = 4 ∨ f = 5 ∨ f = 6 := by omega
    rcases hf' with rfl | rfl | rfl | rfl | rfl | rfl | rfl <;> simp [kb] <;> exact hS _ (by omega)
theorem x_keepAhead {s y : Nat} {k : Int} (hy : y < 2) (hS : XS s z v) : ∃ w, fn_X9_keepAhead s (iI y) (iI k) z = some w ∧ XS s w (ka v y k) ∧ ∀ a k, a ≠ s → SA z w a k := by
  have h : y = 0 ∨ y = 1 := by omega
  unfold fn_X9_keepAhead
  rcases h with rfl | rfl
  · rw [if_pos z0, nm_o]
    refine ⟨_, rfl, fun f hf => ?_, fun a k ha => sa_Ia rfl ha⟩
    have hf' : f = 0 ∨ f = 1 ∨ f = 2 ∨ f = 3 ∨ f = 4 ∨ f = 5 ∨ f = 6 := by omega
    rcases hf' with rfl | rfl | rfl | rfl | rfl | rfl | rfl <;> simp [ka, sI] <;> exact hS _ (by omega)
  · rw [if_neg (i0_ne (by omega) (by omega)), nm_o]
    refine ⟨_, rfl, fun f hf => ?_, fun a k ha => sa_Ia rfl ha⟩
    have hf' : f = 0 ∨ f = 1 ∨ f = 2 ∨ f = 3 ∨ f = 4 ∨ f = 5 ∨ f = 6 := by omega
    rcases hf' with rfl | rfl | rfl | rfl | rfl | rfl | rfl <;> simp [ka, sI] <;> exact hS _ (by omega)
theorem goC_kb {p w : Nat} {k : Int} (h : canS b p w k) (hn : 0 ≤ b 168) {q : Nat} (hq : (q : Int) = b 168) {f : Nat} (hf : f < 7) : pc (goC b p w k) q f = kb (pc b p) w k f := by
  obtain ⟨h1, h2, h3, h4, h5, h6⟩ := h
  rw [goC_pc (by omega) h1 h4 (by omega) hf, if_pos hq]
  rfl
theorem goC_ka {p w : Nat} {k : Int} (h : canS b p w k) (hn : 0 ≤ b 168) {f : Nat} (hf : f < 7) : pc (goC b p w k) p f = ka (pc b p) w k f := by
  obtain ⟨h1, h2, h3, h4, h5, h6⟩ := h
  rw [goC_pc (by omega) h1 h4 (by omega) hf, if_neg (by omega), ka]
  by_cases hf3 : f = 3 + w
  · rw [if_pos ⟨rfl, hf3⟩, if_pos hf3]
  · rw [if_neg (by omega), if_neg hf3]
theorem XS.ex {s : Nat} {u : Nat → Int} (h : XS s z v) (e : ∀ f, f < 7 → u f = v f) : XS s z u := fun f hf => by rw [e f hf]; exact h f hf
/-! bCut -/
theorem bCut_168 {p w : Nat} {k : Int} (h : canS b p w k) (hn : 0 ≤ b 168) : bCut c F1 b p w k 168 = b 168 + 1 ∧ bCut c F1 b p w k 169 = b 169 + c 6 2 ∧ bCut c F1 b p w k 170 = sd b := by
  have e := goC_168 (k := k) ⟨hn, h.2.2.1⟩ h.1 h.2.2.2.1
  have h3 := h.2.2.1
  unfold bCut
  refine ⟨?_, ?_, if_pos rfl⟩
  · rw [if_neg (by omega), if_neg (by omega), if_neg (by omega)]; exact e.1
  · rw [if_neg (by omega), if_pos rfl]
theorem bCut_pc {p w : Nat} {k : Int} (h : canS b p w k) (hn : 0 ≤ b 168) {q f : Nat} (hq : q < 24) (hf : f < 7) : pc (bCut c F1 b p w k) q f = if ((q : Int) = b 168 ∧ f = 5) ∧ sd b % 100 < (slp c F1 b p w).toInt then 1 else pc (goC b p w k) q f := by
  unfold bCut
  have e : (7 * q + f = 7 * (b 168).toNat + 5 ∧ sd b % 100 < (slp c F1 b p w).toInt) = (((q : Int) = b 168 ∧ f = 5) ∧ sd b % 100 < (slp c F1 b p w).toInt) := propext (by omega)
  show (if 7 * q + f = 170 then _ else if 7 * q + f = 169 then _ else if 7 * q + f = 7 * (b 168).toNat + 5 ∧ sd b % 100 < (slp c F1 b p w).toInt then 1 else goC b p w k (7 * q + f)) = _
  rw [if_neg (by omega), if_neg (by omega)]
  simp only [e]
  rfl
theorem sd_b (b : BD) : 0 ≤ sd b ∧ sd b < 1000 := by unfold sd; omega
theorem VB_bCut (hV : VB c b) {p w : Nat} {k : Int} (h : canS b p w k) : VB c (bCut c F1 b p w k) := by
  have hn := hV.1
  have hG := VB_goC hV h
  have e := goC_168 (k := k) ⟨hn.1, h.2.2.1⟩ h.1 h.2.2.2.1
  obtain ⟨e1, e2, e3⟩ := bCut_168 (c := c) (F1 := F1) h hn.1
  have h3 := h.2.2.1
  have x : ∀ q : Nat, (q : Int) < b 168 + 1 → ∀ f, f < 7 → f ≠ 5 → pc (bCut c F1 b p w k) q f = pc (goC b p w k) q f := fun q hq f hf h5 => by
    rw [bCut_pc h hn.1 (by omega) hf, if_neg (fun q => h5 q.1.2)]
  refine ⟨by rw [e1]; omega, by rw [e3]; exact sd_b b, fun q hq => ?_, fun q r hq hr hqr he => ?_, fun q r hq hr hqr he => ?_⟩
  · rw [e1] at hq
    have := hG.2.2.1 q (by rw [e.1]; exact hq)
    unfold VP at this ⊢
    rw [x q hq 0 (by omega) (by omega), x q hq 1 (by omega) (by omega), x q hq 2 (by omega) (by omega), x q hq 3 (by omega) (by omega), x q hq 4 (by omega) (by omega), x q hq 6 (by omega) (by omega), bCut_pc h hn.1 (by omega) (show 5 < 7 from by omega)]
    refine ⟨this.1, this.2.1, this.2.2.1, ?_, this.2.2.2.2⟩
    split
    · omega
    · exact this.2.2.2.1
  · rw [e1] at hq hr
    rw [x q hq 6 (by omega) (by omega), x r hr 6 (by omega) (by omega)] at he
    rw [x q hq 6 (by omega) (by omega)]
    exact hG.2.2.2.1 q r (by rw [e.1]; exact hq) (by rw [e.1]; exact hr) hqr he
  · rw [e1] at hq hr
    rw [x q hq 0 (by omega) (by omega), x r hr 0 (by omega) (by omega)] at he
    have := hG.2.2.2.2 q r (by rw [e.1]; exact hq) (by rw [e.1]; exact hr) hqr he
    unfold apart at this ⊢
    rw [x q hq 1 (by omega) (by omega), x q hq 2 (by omega) (by omega), x q hq 3 (by omega) (by omega), x q hq 4 (by omega) (by omega), x r hr 1 (by omega) (by omega), x r hr 2 (by omega) (by omega), x r hr 3 (by omega) (by omega), x r hr 4 (by omega) (by omega)]
    exact this
/-- a cut gives nobody anything -/
theorem hp_cut (hV : VB c b) {p w : Nat} {k : Int} (h : canS b p w k) (g : Nat) : hp (bCut c F1 b p w k) g = hp b g := by
  have hn := hV.1
  obtain ⟨e1, e2, e3⟩ := bCut_168 (c := c) (F1 := F1) h hn.1
  have h3 := h.2.2.1
  unfold hp
  rw [e1, show (b 168 + 1).toNat = (b 168).toNat + 1 from by omega, pof]
  have x : ∀ q : Nat, (q : Int) < b 168 + 1 → pc (bCut c F1 b p w k) q 6 = pc (goC b p w k) q 6 := fun q hq => by
    rw [bCut_pc h hn.1 (by omega) (by omega), if_neg (by omega)]
  rw [if_neg (by
    rw [x _ (by omega), (goC_new h hn.1 (show (((b 168).toNat : Nat) : Int) = b 168 from by omega)).2.2.1, h.2.1]
    omega)]
  refine pof_congr _ (fun q hq => ?_)
  rw [x q (by omega)]
  by_cases hqp : q = p
  · subst hqp; rw [(goC_old h hn.1).2.2.1]
  · rw [goC_oth h hn.1 (by omega) hqp (by omega)]
/-- what an act leaves alone on x's side -/
def NC (a k : Nat) : Prop := ¬ (a = 34 ∧ (k = 2 ∨ k = 3 ∨ k = 4)) ∧ ¬ (36 ≤ a ∧ a ≤ 60) ∧ a ≠ 144 ∧ a ≠ 16
theorem x_split {p w : Nat} {k : Int} (hC : VC c) (hB : XB 34 z b) (hV : VB c b) (h : canS b p w k) : ∃ u, fn_X1_split 34 (iI p) (iI w) (iI k) (slp c F1 b p w) (iI (c 6 2)) z = some u ∧ XB 34 u (bCut c F1 b p w k) ∧ ∀ a k, NC a k → SA z u a k := by
  have hn := hV.1
  have hk := h
  obtain ⟨h1, h2, h3, h4, h5, h6⟩ := hk
  have h24 := hV.n h1
  have hvp := hV.2.2.1 p h1
  have hs := hvp.s hC
  have hsd := sd_b b
  have hse := hV.2.1
  have hSp : XS (36 + p) z (pc b p) := hB.2.2.2.1 p h1
  generalize hN : (b 168).toNat = N
  have hNb : (N : Int) = b 168 := by omega
  have hcs : cs b p w k := by
    refine ⟨by omega, h1, h2, h3, ?_⟩
    have hw : w = 0 ∨ w = 1 := by omega
    rcases hw with rfl | rfl
    · exact Or.inl ⟨rfl, h5, h6⟩
    · exact Or.inr ⟨rfl, h5, h6⟩
  have hk8 : k < 2147483648 ∧ -2147483648 ≤ k := by
    have hw : w = 0 ∨ w = 1 := by omega
    rcases hw with rfl | rfl
    · have : k < pc b p 3 := h6
      omega
    · have : k < pc b p 4 := h6
      omega
  unfold fn_X1_split
  rw [bd_o (x_canSplit hC hB hV (by omega) (by omega) (by omega)), tr_1 hcs, if_neg (by decide), gd_t (iI_ix (by omega)), hB.1, gd_t (iI_ix (by omega)), iI_clampN (by omega), iI_clamp (by omega), hN, show 34 + 1 + 1 + N = 36 + N from by omega, show 34 + 1 + 1 + p = 36 + p from by omega]
  obtain ⟨z1, g1, s1, k1'⟩ := x_takeFrom (s := 36 + N) (t := 36 + p) (by omega) hSp hvp.2.2.2.1
  obtain ⟨z2, g2, s2, k2'⟩ := x_keepBehind (k := k) h4 s1
  have hSp2 : XS (36 + p) z2 (pc b p) := hSp.fr fun j => (k1' _ j (by omega)).tr (k2' _ j (by omega))
  obtain ⟨z3, g3, s3, k3'⟩ := x_keepAhead (k := k) h4 hSp2
  have s3n : XS (36 + N) z3 (kb (pc b p) w k) := s2.fr fun j => k3' _ j (by omega)
  have fr3 : ∀ a j, a ≠ 36 + N → a ≠ 36 + p → SA z z3 a j := fun a j ha hb => ((k1' a j ha).tr (k2' a j ha)).tr (k3' a j hb)
  rw [bv_o g1, bv_o g2, bv_o g3, nm_o, nm_o, (fr3 34 2 (by omega) (by omega)).1, hB.1]
  generalize e4 : sI z3 34 2 (iI (b 168) + 1) = z4
  have f4 : z4.1 34 4 = iI (b 170) := by rw [← e4, sI_at, if_neg (by omega), (fr3 34 4 (by omega) (by omega)).1, hB.2.2.1]
  rw [f4, q_137, q_71, iI_mul, iI_add, q_1000, iI_mod (by omega) (by omega), show (b 170 * 137 + 71) % 1000 = sd b from rfl]
  generalize e5 : sI z4 34 4 (iI (sd b)) = z5
  have f5 : z5.1 34 4 = iI (sd b) := by rw [← e5, sI_at, if_pos rfl]
  rw [f5, q_100, iI_mod (by omega) (by omega)]
  have hsl : slp c F1 b p w = iI (slp c F1 b p w).toInt := (iI_self _).symm
  have hlo := iI_lo (slp c F1 b p w)
  have hhi := iI_hi (slp c F1 b p w)
  -- the store at the end, by cases of breaking
  have fin : ∀ z6 : St, (∀ a j, ¬ (a = 36 + N ∧ j = 5) → SA z5 z6 a j) → z6.1 (36 + N) 5 = iI (pc (bCut c F1 b p w k) N 5) → ∃ u, fn_X1_split_98 34 (iI (c 6 2)) z6 = some u ∧ XB 34 u (bCut c F1 b p w k) ∧ ∀ a k, NC a k → SA z u a k := by
    intro z6 hz6 hb6
    obtain ⟨e168, e169, e170⟩ := bCut_168 (c := c) (F1 := F1) h hn.1
    unfold fn_X1_split_98
    refine ⟨_, rfl, ?_, ?_⟩
    · have g56 : ∀ a j, a ≠ 34 → ¬ (a = 36 + N ∧ j = 5) → SA z3 (sI z6 34 3 (z6.1 34 3 + iI (c 6 2))) a j := fun a j ha hb => (((sa_Ia e4.symm ha).tr (sa_Ia e5.symm ha)).tr (hz6 a j hb)).tr (sa_Ia rfl ha)
      refine ⟨?_, ?_, ?_, fun q hq f hf => ?_, fun g hg => ?_⟩
      · rw [sI_at, if_neg (by omega), (hz6 34 2 (by omega)).1, ← e5, sI_at, if_neg (by omega), ← e4, sI_at, if_pos rfl, e168, q_1, iI_add]
      · rw [sI_at, if_pos rfl, (hz6 34 3 (by omega)).1, ← e5, sI_at, if_neg (by omega), ← e4, sI_at, if_neg (by omega), (fr3 34 3 (by omega) (by omega)).1, hB.2.1, e169, iI_add]
      · rw [sI_at, if_neg (by omega), (hz6 34 4 (by omega)).1, f5, e170]
      · rw [e168] at hq
        by_cases hqN : q = N
        · rw [hqN]
          by_cases hf5 : f = 5
          · rw [hf5]
            have : (sI z6 34 3 (z6.1 34 3 + iI (c 6 2))).1 (34 + 2 + N) 5 = z6.1 (36 + N) 5 := (sa_Ia (z := z6) (a := 36 + N) (k := 5) rfl (by omega)).1
            rw [this, hb6]
          · rw [(g56 (34 + 2 + N) f (by omega) (by omega)).1, s3n f hf, bCut_pc h hn.1 (by omega) hf, if_neg (by omega), goC_kb h hn.1 hNb hf]
        · rw [(g56 (34 + 2 + q) f (by omega) (by omega)).1, bCut_pc h hn.1 (by omega) hf, if_neg (by omega)]
          by_cases hqp : q = p
          · rw [hqp, goC_ka h hn.1 hf]
            exact s3 f hf
          · rw [(fr3 (34 + 2 + q) f (by omega) (by omega)).1, goC_oth h hn.1 (by omega) hqp hf]
            exact hB.2.2.2.1 q (by omega) f hf
      · rw [(g56 (34 + 26) g (by omega) (by omega)).1, (fr3 (34 + 26) g (by omega) (by omega)).1, hp_cut hV h]
        exact hB.2.2.2.2 g hg
    · intro a j hN'
      unfold NC at hN'
      refine ((fr3 a j (by omega) (by omega)).tr ?_)
      have t1 : SA z3 z4 a j := sa_I e4.symm (by omega)
      have t2 : SA z4 z5 a j := sa_I e5.symm (by omega)
      exact ((t1.tr t2).tr (hz6 a j (by omega))).tr (sa_I rfl (by omega))
  have hz5 : ∀ f, f < 7 → z5.1 (36 + N) f = iI (kb (pc b p) w k f) := fun f hf => by
    rw [← e5, (sa_Ia (z := z4) (a := 36 + N) (k := f) rfl (by omega)).1, ← e4, (sa_Ia (z := z3) (a := 36 + N) (k := f) rfl (by omega)).1, s3n f hf]
  by_cases hbr : sd b % 100 < (slp c F1 b p w).toInt
  · rw [if_neg (by rw [hsl]; exact nle (by omega) (by omega) (by omega)), nm_o]
    refine fin _ (fun a j ha => sa_I rfl ha) ?_
    rw [sI_at, if_pos rfl, bCut_pc h hn.1 (by omega) (by omega), if_pos ⟨⟨hNb, rfl⟩, hbr⟩, q_1]
  · rw [if_pos (by rw [hsl]; exact yle (by omega) (by omega) (by omega))]
    refine fin _ (fun a j ha => SA.rf) ?_
    rw [hz5 5 (by omega), bCut_pc h hn.1 (by omega) (by omega), if_neg (by omega), goC_kb h hn.1 hNb (by omega)]
end
