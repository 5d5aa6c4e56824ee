theorem ite_c {α : Type} {P Q : Prop} [Decidable P] [Decidable Q] {a b : α} (h : P ↔ Q) : (if P then a else b) = (if Q then a else b) := by
  by_cases hP : P
  · rw [if_pos hP, if_pos (h.mp hP)]
  · rw [if_neg hP, if_neg fun q => hP (h.mpr q)]
section
variable {z w : St} {c : RC} {F0 F1 : FO} {b : BD}
theorem WL_ext {C C' : Nat → Bool} {V V' : Nat → Nat} : ∀ k, (∀ g, g < k → C g = C' g ∧ V g = V' g) → WL C V k = WL C' V' k := by
  intro k
  induction k with
  | zero => intro _; rfl
  | succ k ih => intro h; rw [WL, WL, (h k (by omega)).1, (h k (by omega)).2, ih fun g hg => h g (by omega)]
theorem cA_ext {C C' : Nat → Bool} {V V' : Nat → Nat} {x : Nat} : ∀ k, (∀ g, g < k → C g = C' g ∧ (C g = true → V g = V' g)) → cA C V x k = cA C' V' x k := by
  intro k
  induction k with
  | zero => intro _; rfl
  | succ k ih =>
    intro h
    rw [cA, cA, ih fun g hg => h g (by omega), ← (h k (by omega)).1]
    by_cases hc : C k = true
    · rw [(h k (by omega)).2 hc]
    · rw [if_neg fun q => hc q.1, if_neg fun q => hc q.1]
theorem cA_upd {C : Nat → Bool} {V V' : Nat → Nat} {x p : Nat} (hp : C p = true) (hV : ∀ q, q ≠ p → V' q = V q) : ∀ k, cA C V' x k + (if p < k ∧ x ≤ V p then 1 else 0) = cA C V x k + (if p < k ∧ x ≤ V' p then 1 else 0) := by
  intro k
  induction k with
  | zero => rw [cA, cA, if_neg (by omega), if_neg (by omega)]
  | succ k ih =>
    rw [cA, cA]
    by_cases e : k = p
    · subst e
      rw [if_neg (by omega), if_neg (by omega)] at ih
      have a1 : (k < k + 1 ∧ x ≤ V k) = (x ≤ V k) := propext (by omega)
      have a2 : (k < k + 1 ∧ x ≤ V' k) = (x ≤ V' k) := propext (by omega)
      have a3 : (C k = true ∧ x ≤ V k) = (x ≤ V k) := propext ⟨fun q => q.2, fun q => ⟨hp, q⟩⟩
      have a4 : (C k = true ∧ x ≤ V' k) = (x ≤ V' k) := propext ⟨fun q => q.2, fun q => ⟨hp, q⟩⟩
      simp only [a1, a2, a3, a4]
      omega
    · have a1 : (p < k + 1 ∧ x ≤ V p) = (p < k ∧ x ≤ V p) := propext (by omega)
      have a2 : (p < k + 1 ∧ x ≤ V' p) = (p < k ∧ x ≤ V' p) := propext (by omega)
      rw [hV k e]
      simp only [a1, a2]
      omega
theorem hp_goC (hV : VB c b) {p w : Nat} {k : Int} (h : canS b p w k) (g : Nat) : hp (goC b p w k) g = hp b g := by
  have hn := hV.1
  have h3 := h.2.2.1
  obtain ⟨e1, e2, e3⟩ := goC_168 (k := k) ⟨hn.1, h3⟩ h.1 h.2.2.2.1
  unfold hp
  rw [e1, show (b 168 + 1).toNat = (b 168).toNat + 1 from by omega, pof, if_neg (by
    rw [(goC_new h hn.1 (show (((b 168).toNat : Nat) : Int) = b 168 from by omega)).2.2.1, h.2.1]
    omega)]
  refine pof_congr _ (fun q hq => ?_)
  by_cases hqp : q = p
  · subst hqp; rw [(goC_old h hn.1).2.2.1]
  · rw [goC_oth h hn.1 (by omega) hqp (by omega)]
/-- the areas of the two halves -/
theorem area_cut (hC : VC c) (hV : VB c b) {p w : Nat} {k : Int} (h : canS b p w k) {q : Nat} (hq : (q : Int) = b 168) : ar c (pc (goC b p w k) p) = ar c (pc b p) / pc b p (3 + w) * k ∧ ar c (pc (goC b p w k) q) = ar c (pc b p) - ar c (pc b p) / pc b p (3 + w) * k := by
  have hn := hV.1
  have o := goC_old h hn.1
  have nw := goC_new h hn.1 hq
  have hs := (hV.2.2.1 p h.1).s hC
  unfold ar
  rw [o.1, nw.1]
  rcases nw.2.2.2 with ⟨w0, n1, n2, n3, n4⟩ | ⟨w0, n1, n2, n3, n4⟩
  · subst w0
    have o3 : pc (goC b p 0 k) p 3 = k ∧ pc (goC b p 0 k) p 4 = pc b p 4 := by have := o.2.2.2.2.2; omega
    rw [o3.1, o3.2, n3, n4]
    show k * pc b p 4 * c 2 (pc b p 0).toNat = pc b p 3 * pc b p 4 * c 2 (pc b p 0).toNat / pc b p 3 * k ∧ _ = pc b p 3 * pc b p 4 * c 2 (pc b p 0).toNat - pc b p 3 * pc b p 4 * c 2 (pc b p 0).toNat / pc b p 3 * k
    rw [Int.mul_assoc (pc b p 3), Int.mul_ediv_cancel_left _ (show pc b p 3 ≠ 0 from by omega), Int.mul_assoc k, Int.mul_assoc (pc b p 3 - k)]
    refine ⟨Int.mul_comm _ _, ?_⟩
    rw [Int.sub_mul, Int.mul_comm k]
  · subst w0
    have o3 : pc (goC b p 1 k) p 3 = pc b p 3 ∧ pc (goC b p 1 k) p 4 = k := by have := o.2.2.2.2.2; omega
    rw [o3.1, o3.2, n3, n4]
    show pc b p 3 * k * c 2 (pc b p 0).toNat = pc b p 3 * pc b p 4 * c 2 (pc b p 0).toNat / pc b p 4 * k ∧ _ = pc b p 3 * pc b p 4 * c 2 (pc b p 0).toNat - pc b p 3 * pc b p 4 * c 2 (pc b p 0).toNat / pc b p 4 * k
    rw [show pc b p 3 * pc b p 4 * c 2 (pc b p 0).toNat = pc b p 4 * (pc b p 3 * c 2 (pc b p 0).toNat) from by rw [Int.mul_comm (pc b p 3), Int.mul_assoc], Int.mul_ediv_cancel_left _ (show pc b p 4 ≠ 0 from by omega)]
    refine ⟨?_, ?_⟩
    · rw [Int.mul_assoc, Int.mul_assoc, Int.mul_comm k]
    · rw [Int.mul_sub, Int.sub_mul, Int.mul_comm (pc b p 3) (pc b p 4), Int.mul_assoc, Int.mul_assoc (pc b p 3) k, Int.mul_assoc (pc b p 3) (c 2 (pc b p 0).toNat), Int.mul_comm k]
/-- what is served behind a cut -/
theorem sv_goC (hC : VC c) (hV : VB c b) {p w : Nat} {k : Int} (h : canS b p w k) {A1 A2 : Nat} (h1 : (A1 : Int) = ar c (pc b p) / pc b p (3 + w) * k) (h2 : (A2 : Int) = ar c (pc b p) - ar c (pc b p) / pc b p (3 + w) * k) : sv c (goC b p w k) (-1) (-1) 0 = svI (fun x => (cA (Cp b (-1)) (Vp c b) x (b 168).toNat : Int) + (if x ≤ Vp c b p then -1 else 0) + (if x ≤ A1 then 1 else 0) + (if x ≤ A2 then 1 else 0)) (WL (Cg b (-1)) (Vg c 0) (c 6 1).toNat) := by
  have hn := hV.1
  have h3 := h.2.2.1
  obtain ⟨e1, e2, e3⟩ := goC_168 (k := k) ⟨hn.1, h3⟩ h.1 h.2.2.2.1
  have hNb : (((b 168).toNat : Nat) : Int) = b 168 := by omega
  obtain ⟨a1, a2⟩ := area_cut hC hV h hNb
  have o := goC_old h hn.1
  have nw := goC_new h hn.1 hNb
  unfold sv
  rw [WL_ext (C := Cg (goC b p w k) (-1)) (C' := Cg b (-1)) (V := Vg c 0) (V' := Vg c 0) (c 6 1).toNat fun g hg => ⟨by unfold Cg; rw [hp_goC hV h], rfl⟩]
  refine svI_ext _ fun x _ => ?_
  rw [e1, show (b 168 + 1).toNat = (b 168).toNat + 1 from by omega, cA]
  have cn : Cp (goC b p w k) (-1) (b 168).toNat = true := decide_eq_true ⟨by omega, by rw [nw.2.2.1]; exact h.2.1⟩
  have cp : Cp b (-1) p = true := decide_eq_true ⟨by omega, h.2.1⟩
  have vn : Vp c (goC b p w k) (b 168).toNat = A2 := by unfold Vp; rw [a2, ← h2]; rfl
  have vp : Vp c (goC b p w k) p = A1 := by unfold Vp; rw [a1, ← h1]; rfl
  have x1 : cA (Cp (goC b p w k) (-1)) (Vp c (goC b p w k)) x (b 168).toNat = cA (Cp b (-1)) (fun q => if q = p then A1 else Vp c b q) x (b 168).toNat := by
    refine cA_ext _ fun q hq => ?_
    by_cases hqp : q = p
    · subst hqp
      refine ⟨?_, fun _ => by rw [if_pos rfl, vp]⟩
      unfold Cp
      rw [o.2.2.1]
    · refine ⟨?_, fun _ => ?_⟩
      · unfold Cp
        rw [goC_oth h hn.1 (by omega) hqp (by omega)]
      · rw [if_neg hqp]
        unfold Vp ar
        rw [goC_oth h hn.1 (by omega) hqp (show 3 < 7 from by omega), goC_oth h hn.1 (by omega) hqp (show 4 < 7 from by omega), goC_oth h hn.1 (by omega) hqp (show 0 < 7 from by omega)]
  have hpn : p < (b 168).toNat := by have := h.1; omega
  have x2 : cA (Cp b (-1)) (fun q => if q = p then A1 else Vp c b q) x (b 168).toNat + (if x ≤ Vp c b p then 1 else 0) = cA (Cp b (-1)) (Vp c b) x (b 168).toNat + (if x ≤ A1 then 1 else 0) := by
    have := cA_upd (C := Cp b (-1)) (V := Vp c b) (V' := fun q => if q = p then A1 else Vp c b q) (x := x) (p := p) cp (fun q hq => if_neg hq) (b 168).toNat
    have y1 : (p < (b 168).toNat ∧ x ≤ Vp c b p) = (x ≤ Vp c b p) := propext ⟨fun q => q.2, fun q => ⟨hpn, q⟩⟩
    have y2 : (p < (b 168).toNat ∧ x ≤ (fun q => if q = p then A1 else Vp c b q) p) = (x ≤ A1) := propext ⟨fun q => by have := q.2; rwa [show (fun q => if q = p then A1 else Vp c b q) p = A1 from if_pos rfl] at this, fun q => ⟨hpn, by rwa [show (fun q => if q = p then A1 else Vp c b q) p = A1 from if_pos rfl]⟩⟩
    rw [ite_c (Q := x ≤ Vp c b p) (Iff.of_eq y1), ite_c (Q := x ≤ A1) (Iff.of_eq y2)] at this
    exact this
  have y3 : (Cp (goC b p w k) (-1) (b 168).toNat = true ∧ x ≤ A2) = (x ≤ A2) := propext ⟨fun q => q.2, fun q => ⟨cn, q⟩⟩
  rw [x1, vn, ite_c (Q := x ≤ A2) (Iff.of_eq y3)]
  generalize cA (Cp b (-1)) (fun q => if q = p then A1 else Vp c b q) x (b 168).toNat = u at *
  generalize cA (Cp b (-1)) (Vp c b) x (b 168).toNat = v at *
  by_cases q1 : x ≤ Vp c b p <;> (first | rw [if_pos q1] at x2 | rw [if_neg q1] at x2) <;> (first | rw [if_pos q1] | rw [if_neg q1]) <;> by_cases q2 : x ≤ A1 <;> (first | rw [if_pos q2] at x2 | rw [if_neg q2] at x2) <;> (first | rw [if_pos q2] | rw [if_neg q2]) <;> by_cases q3 : x ≤ A2 <;> (first | rw [if_pos q3, if_pos q3] | rw [if_neg q3, if_neg q3] | simp only [if_pos q3] | simp only [if_neg q3]) <;> omega
/-! the best cut, as both seek it: the most that are served, and the code of the first such cut -/
def canB (b : BD) (p j : Nat) : Bool := decide ((p : Int) < b 168 ∧ pc b p 6 = -1 ∧ b 168 < 24 ∧ (1 ≤ (j % 8 : Nat) ∧ ((j % 8 : Nat) : Int) < pc b p (3 + j / 8)))
def nxJ (c : RC) (b : BD) (p : Nat) (s : Int × Nat) : Nat → Int × Nat
  | 0 => s
  | j + 1 => if canB b p j then (if (nxJ c b p s j).1 < sv c (goC b p (j / 8) ((j % 8 : Nat) : Int)) (-1) (-1) 0 then (sv c (goC b p (j / 8) ((j % 8 : Nat) : Int)) (-1) (-1) 0, 16 * p + j) else nxJ c b p s j) else nxJ c b p s j
def nxI (c : RC) (b : BD) : Nat → Int × Nat
  | 0 => (-1, 0)
  | p + 1 => nxJ c b p (nxI c b p) 16
theorem canB_s {p j : Nat} (hj : j < 16) (h : canB b p j = true) : canS b p (j / 8) ((j % 8 : Nat) : Int) := by
  obtain ⟨h1, h2, h3, h4, h5⟩ := of_decide_eq_true h
  exact ⟨h1, h2, h3, by omega, by omega, h5⟩
theorem nxJ_b (hC : VC c) {p : Nat} {s : Int × Nat} (hs : -1 ≤ s.1 ∧ s.1 ≤ 6 ∧ s.2 < 16 * p + 16) : ∀ j : Nat, j ≤ 16 → -1 ≤ (nxJ c b p s j).1 ∧ (nxJ c b p s j).1 ≤ 6 ∧ (nxJ c b p s j).2 < 16 * p + 16 := by
  intro j
  induction j with
  | zero => intro _; exact hs
  | succ j ih =>
    intro hj
    have := ih (by omega)
    have hb := sv_b c (goC b p (j / 8) ((j % 8 : Nat) : Int)) (-1) (-1) 0 hC
    rw [nxJ]
    split
    · split
      · dsimp only; omega
      · exact this
    · exact this
theorem nxI_b (hC : VC c) : ∀ p : Nat, -1 ≤ (nxI c b p).1 ∧ (nxI c b p).1 ≤ 6 ∧ (nxI c b p).2 < 16 * p + 1 := by
  intro p
  induction p with
  | zero => rw [nxI]; dsimp only; omega
  | succ p ih =>
    rw [nxI]
    have := nxJ_b (b := b) hC (p := p) (s := nxI c b p) (by omega) 16 (by omega)
    omega
end
