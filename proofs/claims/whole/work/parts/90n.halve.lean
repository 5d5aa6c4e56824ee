section
variable {z w : St} {c : RC} {F0 F1 : FO} {b : BD}
/-! the halves -/
/-- worth of the part ahead, of the part behind -/
def hA (c : RC) (F : FO) (b : BD) (p g j : Nat) : Int32 := wo c F (pc (goC b p (j / 8) ((j % 8 : Nat) : Int)) p) (c 4 g) (b 169)
def hB (c : RC) (F : FO) (b : BD) (p g j : Nat) : Int32 := wo c F (pc (goC b p (j / 8) ((j % 8 : Nat) : Int)) (b 168).toNat) (c 4 g) (b 169)
def hT (c : RC) (F : FO) (b : BD) (p o j : Nat) : Int := if hB c F b p o j ≤ hA c F b p o j then 0 else 1
def hW (c : RC) (F : FO) (b : BD) (p g o j : Nat) : Int32 := if hB c F b p o j ≤ hA c F b p o j then hB c F b p g j else hA c F b p g j
def hvJ (c : RC) (F : FO) (b : BD) (p g o : Nat) : Nat → Int × Int × Int32
  | 0 => (-1, 0, 0)
  | j + 1 => if canB b p j then (if (hvJ c F b p g o j).1 < 0 ∨ (hvJ c F b p g o j).2.2 < hW c F b p g o j then ((j : Int), hT c F b p o j, hW c F b p g o j) else hvJ c F b p g o j) else hvJ c F b p g o j
theorem hvJ_b {p g o : Nat} : ∀ j : Nat, -1 ≤ (hvJ c F0 b p g o j).1 ∧ (hvJ c F0 b p g o j).1 < (j : Int) ∧ ((hvJ c F0 b p g o j).2.1 = 0 ∨ (hvJ c F0 b p g o j).2.1 = 1) := by
  intro j
  induction j with
  | zero => rw [hvJ]; exact ⟨by decide, by decide, Or.inl rfl⟩
  | succ j ih =>
    rw [hvJ]
    have hT' : hT c F0 b p o j = 0 ∨ hT c F0 b p o j = 1 := by
      unfold hT; split
      · exact Or.inl rfl
      · exact Or.inr rfl
    split
    · split
      · exact ⟨by show -1 ≤ (j : Int); omega, by show (j : Int) < ((j + 1 : Nat) : Int); omega, hT'⟩
      · exact ⟨ih.1, by omega, ih.2.2⟩
    · exact ⟨ih.1, by omega, ih.2.2⟩
theorem hvJ_skip {p g o j : Nat} (h : canB b p j = false) : hvJ c F0 b p g o (j + 1) = hvJ c F0 b p g o j := by rw [hvJ, h]; rfl
theorem hvJ_no {p g o : Nat} (h : ∀ j, canB b p j = false) : ∀ j, hvJ c F0 b p g o j = (-1, 0, 0) := by
  intro j
  induction j with
  | zero => rfl
  | succ j ih => rw [hvJ_skip (h j), ih]
/-- x's halves yet -/
def XH (u : St) (s : Int × Int × Int32) : Prop := s.1 = -1 ∨ (0 ≤ s.1 ∧ u.1 156 12 = iI (s.1 / 8) ∧ u.1 156 13 = iI (s.1 % 8) ∧ u.1 156 14 = iI s.2.1 ∧ u.1 156 15 = s.2.2)
theorem XH.fr {s : Int × Int × Int32} {u v : St} (h : XH u s) (hs : ∀ k, v.1 156 k = u.1 156 k) : XH v s := by
  unfold XH at h ⊢
  rw [hs 12, hs 13, hs 14, hs 15]
  exact h
abbrev hFr (a j : Nat) : Prop := ¬ a = 144 ∧ ¬ a = 13 ∧ ¬ a = 157 ∧ ¬ a = 158 ∧ ¬ (a = 156 ∧ 12 ≤ j ∧ j ≤ 15)
theorem RXs.hfr (h : RXs z c F0 F1 b) (hs : ∀ a j, hFr a j → SA z w a j) : RXs w c F0 F1 b := h.fr fun a j q => hs a j (by unfold QXs QX at q; unfold hFr; omega)
/-- one cut of x -/
theorem x_half {p g o y : Nat} {k : Nat} (hX : RXs z c F0 F1 b) (hg : (g : Int) < c 6 1) (ho : (o : Int) < c 6 1) (hy : y < 2) (hk : k < 8) (hcb : canB b p (8 * y + k) = true) {s0 : Int × Int × Int32} (hs0 : -1 ≤ s0.1) (hN : XH z s0) (k30 : Int32 → Int32 → Nat → Int32 → Int32 → St → Option (Int32 × St)) (m : Nat) :
    ∃ u, (XH u (if s0.1 < 0 ∨ s0.2.2 < hW c F0 b p g o (8 * y + k) then (((8 * y + k : Nat) : Int), hT c F0 b p o (8 * y + k), hW c F0 b p g o (8 * y + k)) else s0) ∧ ∀ a j, hFr a j → SA z u a j) ∧ fn_X5_findHalves_39 k30 (m + 1) (iI (g : Int)) (iI (o : Int)) (35 + 1 + p) (iI (tr (0 ≤ s0.1))) (iI (y : Int)) (iI (k : Int)) z = fn_X5_findHalves_39 k30 m (iI (g : Int)) (iI (o : Int)) (35 + 1 + p) (iI (tr (0 ≤ (if s0.1 < 0 ∨ s0.2.2 < hW c F0 b p g o (8 * y + k) then (((8 * y + k : Nat) : Int), hT c F0 b p o (8 * y + k), hW c F0 b p g o (8 * y + k)) else s0).1))) (iI (y : Int)) (iI ((k + 1 : Nat) : Int)) u := by
  have hC := hX.1
  have hV := hX.2.1
  have hn := hV.1
  have hcs : canS b p y ((k : Nat) : Int) := by
    have := canB_s (b := b) (p := p) (j := 8 * y + k) (by omega) hcb
    rw [show (8 * y + k) % 8 = k from by omega, show (8 * y + k) / 8 = y from by omega] at this
    exact this
  have hp := hcs.1
  have hS36 : XS (35 + 1 + p) z (pc b p) := by rw [show 35 + 1 + p = 34 + 2 + p from by omega]; exact hX.2.2.2.2.2.1.2.2.2.1 p hp
  have hvp := hV.2.2.1 p hp
  have hs := hvp.s hC
  have hp24 := hV.n hp
  have hVg := VB_goC hV hcs
  have hNb : (((b 168).toNat : Nat) : Int) = b 168 := by omega
  obtain ⟨e168, e169, -⟩ := goC_168 (k := (k : Int)) ⟨hn.1, hcs.2.2.1⟩ hp hy
  have ex : fn_X9_extent (35 + 1 + p) (iI (y : Int)) z = some (iI (pc b p (3 + y)), z) := by
    unfold fn_X9_extent
    have hy' : y = 0 ∨ y = 1 := by omega
    rcases hy' with rfl | rfl
    · rw [if_pos z0, hS36 3 (by omega)]
    · rw [if_neg (by decide), hS36 4 (by omega)]
  have hE : 1 ≤ pc b p (3 + y) ∧ pc b p (3 + y) ≤ 8 := by
    have hy' : y = 0 ∨ y = 1 := by omega
    rcases hy' with rfl | rfl
    · exact hs.2.2.2.1
    · exact hs.2.2.2.2.1
  obtain ⟨u1, a1, a2, a3⟩ := x_takeFrom (s := 157) (by omega) hS36 hvp.2.2.2.1
  obtain ⟨u2, b1, b2, b3⟩ := x_keepAhead (k := (k : Int)) hy a2
  obtain ⟨u3, d1, d2, d3⟩ := x_takeFrom (s := 158) (by omega) (hS36.fr fun j => (a3 _ j (by omega)).tr (b3 _ j (by omega))) hvp.2.2.2.1
  obtain ⟨u4, g1, g2, g3⟩ := x_keepBehind (k := (k : Int)) hy d2
  have f4 : ∀ a j, ¬ a = 157 → ¬ a = 158 → SA z u4 a j := fun a j q1 q2 => (((a3 a j q1).tr (b3 a j q1)).tr (d3 a j q2)).tr (g3 a j q2)
  have A4 : XS 157 u4 (pc (goC b p y (k : Int)) p) := (b2.fr fun j => (d3 157 j (by omega)).tr (g3 157 j (by omega))).ex fun f hf => goC_ka hcs hn.1 hf
  have B4 : XS 158 u4 (pc (goC b p y (k : Int)) (b 168).toNat) := g2.ex fun f hf => goC_kb hcs hn.1 hNb hf
  have vA : VP c (pc (goC b p y (k : Int)) p) := hVg.2.2.1 p (by omega)
  have vB : VP c (pc (goC b p y (k : Int)) (b 168).toNat) := hVg.2.2.1 _ (by omega)
  have eA : ∀ g, hA c F0 b p g (8 * y + k) = wo c F0 (pc (goC b p y (k : Int)) p) (c 4 g) (b 169) := fun g => by unfold hA; rw [show (8 * y + k) % 8 = k from by omega, show (8 * y + k) / 8 = y from by omega]
  have eB : ∀ g, hB c F0 b p g (8 * y + k) = wo c F0 (pc (goC b p y (k : Int)) (b 168).toNat) (c 4 g) (b 169) := fun g => by unfold hB; rw [show (8 * y + k) % 8 = k from by omega, show (8 * y + k) / 8 = y from by omega]
  have look : ∀ (t : Nat) (u : St), (∀ a j, ¬ a = 157 → ¬ a = 158 → ¬ a = 144 → ¬ a = 13 → SA z u a j) → (∀ a j, a = 157 ∨ a = 158 → SA u4 u a j) → (t : Int) < c 6 1 → (∃ v, fn_X10_ofSlab (iI (t : Int)) 157 u = some (hA c F0 b p t (8 * y + k), v) ∧ (∀ a j, ¬ a = 144 → ¬ a = 13 → SA u v a j)) ∧ (∃ v, fn_X10_ofSlab (iI (t : Int)) 158 u = some (hB c F0 b p t (8 * y + k), v) ∧ (∀ a j, ¬ a = 144 → ¬ a = 13 → SA u v a j)) := by
    intro t u h1 h2 ht
    have hXu : RXs u c F0 F1 b := hX.fr fun a j q => h1 a j (by unfold QXs QX at q; omega) (by unfold QXs QX at q; omega) (by unfold QXs QX at q; omega) (by unfold QXs QX at q; omega)
    have hm : u.1 34 3 = iI (b 169) := hXu.2.2.2.2.2.1.2.1
    obtain ⟨v, hv⟩ := x_ofSlab (s := 157) hXu.2.2.2.2.1 hC k_157 (A4.fr fun j => h2 157 j (by omega)) vA hm hXu.2.2.2.2.2.2.1 hX.2.2.1 ht
    obtain ⟨v', hv'⟩ := x_ofSlab (s := 158) hXu.2.2.2.2.1 hC k_158 (B4.fr fun j => h2 158 j (by omega)) vB hm hXu.2.2.2.2.2.2.1 hX.2.2.1 ht
    exact ⟨⟨v, by rw [eA]; exact hv, fun a j q1 q2 => ff_X10_ofSlab k_157 (show ¬ a = 144 ∧ ¬ a = 13 from ⟨q1, q2⟩) hv⟩, v', by rw [eB]; exact hv', fun a j q1 q2 => ff_X10_ofSlab k_158 (show ¬ a = 144 ∧ ¬ a = 13 from ⟨q1, q2⟩) hv'⟩
  obtain ⟨-, u5, m1, m2⟩ := look o u4 (fun a j q1 q2 _ _ => f4 a j q1 q2) (fun a j _ => SA.rf) ho
  obtain ⟨⟨u6, n1, n2⟩, -⟩ := look o u5 (fun a j q1 q2 q3 q4 => (f4 a j q1 q2).tr (m2 a j q3 q4)) (fun a j q => m2 a j (by omega) (by omega)) ho
  obtain ⟨⟨u7, r1, r2⟩, u8, t1, t2⟩ := look g u6 (fun a j q1 q2 q3 q4 => ((f4 a j q1 q2).tr (m2 a j q3 q4)).tr (n2 a j q3 q4)) (fun a j q => (m2 a j (by omega) (by omega)).tr (n2 a j (by omega) (by omega))) hg
  have f6 : ∀ a j, hFr a j → SA z u6 a j := fun a j q => ((f4 a j (by unfold hFr at q; omega) (by unfold hFr at q; omega)).tr (m2 a j q.1 q.2.1)).tr (n2 a j q.1 q.2.1)
  have f6' : ∀ j, SA z u6 156 j := fun j => ((f4 156 j (by omega) (by omega)).tr (m2 156 j (by omega) (by omega))).tr (n2 156 j (by omega) (by omega))
  have step : ∀ (t : Nat) (T : Int) (W : Int32) (u : St), t < 2 → (∀ a j, ¬ a = 144 → ¬ a = 13 → SA u6 u a j) → T = (t : Int) → ∃ u', (XH u' (if s0.1 < 0 ∨ s0.2.2 < W then (((8 * y + k : Nat) : Int), T, W) else s0) ∧ ∀ a j, hFr a j → SA z u' a j) ∧ (if iI (tr (0 ≤ s0.1)) = 0 then fn_X5_findHalves_165 k30 (fn_X5_findHalves_39 k30 m) (iI (g : Int)) (iI (o : Int)) (35 + 1 + p) (iI (y : Int)) (iI (k : Int)) (iI (t : Int)) W u else (if W ≤ (u.1 156 15) then fn_X5_findHalves_200 k30 (fn_X5_findHalves_39 k30 m) (iI (g : Int)) (iI (o : Int)) (35 + 1 + p) (iI (tr (0 ≤ s0.1))) (iI (y : Int)) (iI (k : Int)) u else fn_X5_findHalves_165 k30 (fn_X5_findHalves_39 k30 m) (iI (g : Int)) (iI (o : Int)) (35 + 1 + p) (iI (y : Int)) (iI (k : Int)) (iI (t : Int)) W u)) = fn_X5_findHalves_39 k30 m (iI (g : Int)) (iI (o : Int)) (35 + 1 + p) (iI (tr (0 ≤ (if s0.1 < 0 ∨ s0.2.2 < W then (((8 * y + k : Nat) : Int), T, W) else s0).1))) (iI (y : Int)) (iI ((k + 1 : Nat) : Int)) u' := by
    intro t T W u ht hu hT
    have fu' : ∀ a j, hFr a j → SA z u a j := fun a j q => (f6 a j q).tr (hu a j q.1 q.2.1)
    have f15 : ∀ j, u.1 156 j = z.1 156 j := fun j => ((f6' j).tr (hu 156 j (by omega) (by omega))).1
    have put : (s0.1 < 0 ∨ s0.2.2 < W) → ∃ u', (XH u' (((8 * y + k : Nat) : Int), T, W) ∧ ∀ a j, hFr a j → SA z u' a j) ∧ fn_X5_findHalves_165 k30 (fn_X5_findHalves_39 k30 m) (iI (g : Int)) (iI (o : Int)) (35 + 1 + p) (iI (y : Int)) (iI (k : Int)) (iI (t : Int)) W u = fn_X5_findHalves_39 k30 m (iI (g : Int)) (iI (o : Int)) (35 + 1 + p) (iI (tr (0 ≤ ((8 * y + k : Nat) : Int)))) (iI (y : Int)) (iI ((k + 1 : Nat) : Int)) u' := by
      intro _
      refine ⟨sI (sI (sI (sI u 156 12 (iI (y : Int))) 156 13 (iI (k : Int))) 156 14 (iI (t : Int))) 156 15 W, ⟨Or.inr ⟨by show 0 ≤ ((8 * y + k : Nat) : Int); omega, ?_, ?_, ?_, ?_⟩, fun a j q => ?_⟩, ?_⟩
      · show _ = iI (((8 * y + k : Nat) : Int) / 8)
        rw [show ((8 * y + k : Nat) : Int) / 8 = (y : Int) from by omega]; simp [sI]
      · show _ = iI (((8 * y + k : Nat) : Int) % 8)
        rw [show ((8 * y + k : Nat) : Int) % 8 = (k : Int) from by omega]; simp [sI]
      · show _ = iI T
        rw [hT]; simp [sI]
      · simp [sI]
      · have q5 := q.2.2.2.2
        exact ((((fu' a j q).tr (sa_I rfl (by omega))).tr (sa_I rfl (by omega))).tr (sa_I rfl (by omega))).tr (sa_I rfl (by omega))
      · unfold fn_X5_findHalves_165
        rw [nm_o, nm_o, tr_1 (by omega)]
        have ht' : t = 0 ∨ t = 1 := by omega
        rcases ht' with rfl | rfl
        · rw [if_pos z0]
          unfold fn_X5_findHalves_191 fn_X5_findHalves_200
          rw [k1, nm_o, nm_o]
          rfl
        · rw [if_neg (show ¬ iI ((1 : Nat) : Int) = 0 from by decide)]
          unfold fn_X5_findHalves_191 fn_X5_findHalves_200
          rw [k1, nm_o, nm_o]
          rfl
    rcases hN with q | ⟨q1, q2, q3, q4, q5⟩
    · rw [tr_n (by omega), if_pos (show iI 0 = 0 from q_0.symm), if_pos (show s0.1 < 0 ∨ s0.2.2 < W from Or.inl (by omega))]
      exact put (Or.inl (by omega))
    · rw [tr_1 q1, if_neg (show ¬ iI 1 = 0 from by decide), f15, q5]
      by_cases hlt : s0.2.2 < W
      · rw [if_neg (show ¬ W ≤ s0.2.2 from Int32.not_le.mpr hlt), if_pos (show s0.1 < 0 ∨ s0.2.2 < W from Or.inr hlt)]
        exact put (Or.inr hlt)
      · rw [if_pos (show W ≤ s0.2.2 from Int32.not_lt.mp hlt), if_neg (show ¬ (s0.1 < 0 ∨ s0.2.2 < W) from fun q => by rcases q with q | q; omega; exact hlt q)]
        refine ⟨u, ⟨Or.inr ⟨q1, by rw [f15]; exact q2, by rw [f15]; exact q3, by rw [f15]; exact q4, by rw [f15]; exact q5⟩, fu'⟩, ?_⟩
        unfold fn_X5_findHalves_200
        rw [k1, tr_1 q1]
  rw [fn_X5_findHalves_39, bd_o ex, if_neg (show ¬ iI (pc b p (3 + y)) ≤ iI (k : Int) from nle (by omega) (by omega) (by have := hcs.2.2.2.2.2; omega)), bv_o a1, bv_o b1, bv_o d1, bv_o g1, bd_o m1, bd_o n1]
  by_cases hc : hB c F0 b p o (8 * y + k) ≤ hA c F0 b p o (8 * y + k)
  · have eT : hT c F0 b p o (8 * y + k) = ((0 : Nat) : Int) := if_pos hc
    have eW : hW c F0 b p g o (8 * y + k) = hB c F0 b p g (8 * y + k) := if_pos hc
    rw [if_pos hc]
    unfold fn_X5_findHalves_123 fn_X5_findHalves_146
    rw [if_pos rfl, bd_o t1, eW]
    exact step 0 _ _ u8 (by omega) t2 eT
  · have eT : hT c F0 b p o (8 * y + k) = ((1 : Nat) : Int) := if_neg hc
    have eW : hW c F0 b p g o (8 * y + k) = hA c F0 b p g (8 * y + k) := if_neg hc
    rw [if_neg hc]
    unfold fn_X5_findHalves_123 fn_X5_findHalves_146
    rw [if_neg (show ¬ (1 : Int32) = 0 from by decide), bd_o r1, eW]
    exact step 1 _ _ u7 (by omega) r2 eT
end
