section
variable {z w : St} {c : RC} {F0 F1 : FO} {b : BD}
/-- x's best cut yet -/
def XN (u : St) (s : Int × Nat) : Prop := (s.1 = -1 ∧ u.1 153 5 = iI (-1)) ∨ (0 ≤ s.1 ∧ u.1 153 5 = iI ((s.2 / 16 : Nat) : Int) ∧ u.1 153 6 = iI ((s.2 / 8 % 2 : Nat) : Int) ∧ u.1 153 7 = iI ((s.2 % 8 : Nat) : Int) ∧ u.1 153 8 = iI s.1)
theorem XN.fr {s : Int × Nat} {u v : St} (h : XN u s) (hs : ∀ k, 5 ≤ k → k ≤ 8 → v.1 153 k = u.1 153 k) : XN v s := by
  unfold XN at h ⊢
  rw [hs 5 (by omega) (by omega), hs 6 (by omega) (by omega), hs 7 (by omega) (by omega), hs 8 (by omega) (by omega)]
  exact h
theorem nxJ_skip {p : Nat} {s : Int × Nat} {j : Nat} (h : canB b p j = false) : nxJ c b p s (j + 1) = nxJ c b p s j := by rw [nxJ, h]; rfl
theorem x_try {p y : Nat} {s0 : Int × Nat} {e1 : Nat → Int} (hy : y < 2) (hX : RXs z c F0 F1 b) (hp : (p : Int) < b 168) (hf : pc b p 6 = -1) (h24 : b 168 < 24) (hs0 : -1 ≤ s0.1 ∧ s0.1 ≤ 6 ∧ s0.2 < 16 * p + 16)
    (hS : SX z (WL (Cg b (-1)) (Vg c 0) (c 6 1).toNat) (fun x => (cA (Cp b (-1)) (Vp c b) x (b 168).toNat : Int) + (if x ≤ Vp c b p then -1 else 0))) (hN : XN z (nxJ c b p s0 (8 * y))) :
    ∃ u, fn_X8_tryCuts (iI (p : Int)) (iI (y : Int)) (iI (ar c (pc b p))) z = some u ∧ SX u (WL (Cg b (-1)) (Vg c 0) (c 6 1).toNat) (fun x => (cA (Cp b (-1)) (Vp c b) x (b 168).toNat : Int) + (if x ≤ Vp c b p then -1 else 0)) ∧ XN u (nxJ c b p s0 (8 * y + 8)) ∧ ∀ a j, sFr a j → SA z u a j := by
  have hC := hX.1
  have hV := hX.2.1
  have hn := hV.1
  have hp24 := hV.n hp
  have hS36 := hX.2.2.2.2.2.1.2.2.2.1 p hp
  have hs := (hV.2.2.1 p hp).s hC
  have hab := ar_b hC (hV.2.2.1 p hp)
  have hdB : ar c (pc b p) / pc b p (3 + y) * pc b p (3 + y) = ar c (pc b p) ∧ 1 ≤ pc b p (3 + y) ∧ pc b p (3 + y) ≤ 8 := by
    unfold ar
    have hy' : y = 0 ∨ y = 1 := by omega
    rcases hy' with rfl | rfl
    · refine ⟨?_, hs.2.2.2.1.1, hs.2.2.2.1.2⟩
      rw [Int.mul_assoc (pc b p 3), Int.mul_ediv_cancel_left _ (show pc b p (3 + 0) ≠ 0 from by have := hs.2.2.2.1.1; show pc b p 3 ≠ 0; omega), Int.mul_comm]
    · refine ⟨?_, hs.2.2.2.2.1.1, hs.2.2.2.2.1.2⟩
      rw [show pc b p 3 * pc b p 4 * c 2 (pc b p 0).toNat = pc b p 4 * (pc b p 3 * c 2 (pc b p 0).toNat) from by rw [Int.mul_comm (pc b p 3), Int.mul_assoc], Int.mul_ediv_cancel_left _ (show pc b p (3 + 1) ≠ 0 from by have := hs.2.2.2.2.1.1; show pc b p 4 ≠ 0; omega), Int.mul_comm]
  generalize hE : pc b p (3 + y) = E at *
  obtain ⟨EN, hEN⟩ : ∃ EN : Nat, E = EN := ⟨E.toNat, by omega⟩
  generalize hQ : ar c (pc b p) / E = Q at *
  have hQ0 : 0 ≤ Q := by rw [← hQ]; exact Int.ediv_nonneg (by omega) (by omega)
  have ex : fn_X9_extent (35 + 1 + p) (iI (y : Int)) z = some (iI E, z) := by
    unfold fn_X9_extent
    have hy' : y = 0 ∨ y = 1 := by omega
    rcases hy' with rfl | rfl
    · rw [if_pos z0, show z.1 (35 + 1 + p) 3 = iI (pc b p 3) from by rw [show 35 + 1 + p = 34 + 2 + p from by omega]; exact hS36 3 (by omega), ← hE]
    · rw [if_neg (by decide), show z.1 (35 + 1 + p) 4 = iI (pc b p 4) from by rw [show 35 + 1 + p = 34 + 2 + p from by omega]; exact hS36 4 (by omega), ← hE]
  -- cuts that can be, by their codes
  have cB : ∀ k : Nat, k < 8 → (canB b p (8 * y + k) = true ↔ 1 ≤ k ∧ (k : Int) < E) := fun k hk => by
    unfold canB
    rw [decide_eq_true_iff, show (8 * y + k) % 8 = k from by omega, show (8 * y + k) / 8 = y from by omega, hE]
    exact ⟨fun q => q.2.2.2, fun q => ⟨hp, hf, h24, q⟩⟩
  obtain ⟨m, u, ⟨i1, i2, i3⟩, hm⟩ := loopE (fun m k u => fn_X8_tryCuts_31 m (iI (p : Int)) (iI (y : Int)) (iI (ar c (pc b p))) (iI E) (iI Q) (iI ((k + 1 : Nat) : Int)) u) (fun k u => SX u (WL (Cg b (-1)) (Vg c 0) (c 6 1).toNat) (fun x => (cA (Cp b (-1)) (Vp c b) x (b 168).toNat : Int) + (if x ≤ Vp c b p then -1 else 0)) ∧ XN u (nxJ c b p s0 (8 * y + (k + 1))) ∧ ∀ a j, sFr a j → SA z u a j) (EN - 1) (by omega) z ⟨hS, by rw [show 8 * y + (0 + 1) = 8 * y + 1 from rfl, nxJ_skip (Bool.eq_false_iff.mpr fun q => by have := (cB 0 (by omega)).mp (by rw [Nat.add_zero]; exact q); omega)]; exact hN, fun a j _ => SA.rf⟩ (fun k m u hk ⟨i1, i2, i3⟩ => by
    have hk8 : k + 1 < 8 := by omega
    have hcb := (cB (k + 1) hk8).mpr (by omega)
    have hcs : canS b p y ((k + 1 : Nat) : Int) := by
      have := canB_s (b := b) (p := p) (j := 8 * y + (k + 1)) (by omega) hcb
      rw [show (8 * y + (k + 1)) % 8 = k + 1 from by omega, show (8 * y + (k + 1)) / 8 = y from by omega] at this
      exact this
    have hQk : 0 ≤ Q * ((k + 1 : Nat) : Int) ∧ Q * ((k + 1 : Nat) : Int) ≤ ar c (pc b p) := by
      refine ⟨Int.mul_nonneg hQ0 (by omega), ?_⟩
      have : Q * ((k + 1 : Nat) : Int) ≤ Q * E := Int.mul_le_mul_of_nonneg_left (by omega) hQ0
      have h1 := hdB.1
      omega
    obtain ⟨A1, hA1⟩ : ∃ A1 : Nat, (A1 : Int) = Q * ((k + 1 : Nat) : Int) := ⟨(Q * ((k + 1 : Nat) : Int)).toNat, by omega⟩
    obtain ⟨A2, hA2⟩ : ∃ A2 : Nat, (A2 : Int) = ar c (pc b p) - Q * ((k + 1 : Nat) : Int) := ⟨(ar c (pc b p) - Q * ((k + 1 : Nat) : Int)).toNat, by omega⟩
    obtain ⟨u1, n1, n2, n3⟩ := x_count (A := A1) (by' := 1) i1 (by omega)
    obtain ⟨u2, o1, o2, o3⟩ := x_count (A := A2) (by' := 1) n2 (by omega)
    obtain ⟨u3, r1, r2, r3⟩ := x_count (A := A1) (by' := -1) o2 (by omega)
    obtain ⟨u4, t1, t2, t3⟩ := x_count (A := A2) (by' := -1) r2 (by omega)
    have t2' := t2.ex (f := fun x => (cA (Cp b (-1)) (Vp c b) x (b 168).toNat : Int) + (if x ≤ Vp c b p then -1 else 0)) fun x _ => by
      by_cases q1 : x ≤ A1 <;> by_cases q2 : x ≤ A2 <;> simp only [q1, q2, if_true, if_false] <;> omega
    have hsv := sv_goC hC hV hcs (A1 := A1) (A2 := A2) (by rw [hE, hQ]; exact hA1) (by rw [hE, hQ]; exact hA2)
    have hsb := sv_b c (goC b p y ((k + 1 : Nat) : Int)) (-1) (-1) 0 hC
    have hmt := x_matched o2 fun x _ => by
      have := cA_b (C := Cp b (-1)) (V := Vp c b) (w := x) (b 168).toNat
      split <;> split <;> split <;> omega
    rw [← hsv] at hmt
    have fr4 : ∀ a j, a ≠ 155 → SA u u4 a j := fun a j ha => (((n3 a j ha).tr (o3 a j ha)).tr (r3 a j ha)).tr (t3 a j ha)
    have hb := nxJ_b (b := b) hC hs0 (8 * y + (k + 1)) (by omega)
    show ∃ s', _ ∧ fn_X8_tryCuts_31 (m + 1) _ _ _ _ _ _ _ = fn_X8_tryCuts_31 m _ _ _ _ _ _ _
    rw [fn_X8_tryCuts_31, if_neg (show ¬ iI E ≤ iI ((k + 1 : Nat) : Int) from nle (by omega) (by omega) (by omega)), iI_mul, iI_sub, ← hA1, show ar c (pc b p) - (A1 : Int) = (A2 : Int) from by omega, show (1 : Int32) = iI 1 from q_1, bv_o n1, bv_o o1, bd_o hmt, iI_neg, bv_o r1, bv_o t1]
    have hN4 : XN u4 (nxJ c b p s0 (8 * y + (k + 1))) := i2.fr fun j _ _ => (fr4 153 j (by omega)).1
    have ej : nxJ c b p s0 (8 * y + (k + 1 + 1)) = if (nxJ c b p s0 (8 * y + (k + 1))).1 < sv c (goC b p y ((k + 1 : Nat) : Int)) (-1) (-1) 0 then (sv c (goC b p y ((k + 1 : Nat) : Int)) (-1) (-1) 0, 16 * p + (8 * y + (k + 1))) else nxJ c b p s0 (8 * y + (k + 1)) := by
      rw [show 8 * y + (k + 1 + 1) = (8 * y + (k + 1)) + 1 from by omega, nxJ, if_pos hcb, show (8 * y + (k + 1)) % 8 = k + 1 from by omega, show (8 * y + (k + 1)) / 8 = y from by omega]
    rw [ej]
    generalize sv c (goC b p y ((k + 1 : Nat) : Int)) (-1) (-1) 0 = V at *
    generalize nxJ c b p s0 (8 * y + (k + 1)) = s at *
    unfold fn_X8_tryCuts_105 fn_X8_tryCuts_127
    rw [k1]
    have put : s.1 < V → ∃ s', ((SX s' (WL (Cg b (-1)) (Vg c 0) (c 6 1).toNat) fun x => (cA (Cp b (-1)) (Vp c b) x (b 168).toNat : Int) + (if x ≤ Vp c b p then -1 else 0)) ∧ XN s' (if s.1 < V then (V, 16 * p + (8 * y + (k + 1))) else s) ∧ ∀ a j, sFr a j → SA z s' a j) ∧ (nm (sI u4 153 5 (iI (p : Int))) fun z1 => nm (sI z1 153 6 (iI (y : Int))) fun z2 => nm (sI z2 153 7 (iI ((k + 1 : Nat) : Int))) fun z3 => nm (sI z3 153 8 (iI V)) fun z4 => fn_X8_tryCuts_31 m (iI (p : Int)) (iI (y : Int)) (iI (ar c (pc b p))) (iI E) (iI Q) (iI ((k + 1 + 1 : Nat) : Int)) z4) = fn_X8_tryCuts_31 m (iI (p : Int)) (iI (y : Int)) (iI (ar c (pc b p))) (iI E) (iI Q) (iI ((k + 1 + 1 : Nat) : Int)) s' := fun hlt => by
      refine ⟨sI (sI (sI (sI u4 153 5 (iI (p : Int))) 153 6 (iI (y : Int))) 153 7 (iI ((k + 1 : Nat) : Int))) 153 8 (iI V), ⟨t2'.fr fun a j q => (((sa_I rfl (by omega)).tr (sa_I rfl (by omega))).tr (sa_I rfl (by omega))).tr (sa_I rfl (by omega)), ?_, fun a j q => ?_⟩, rfl⟩
      · rw [if_pos hlt]
        refine Or.inr ⟨by show 0 ≤ V; omega, ?_, ?_, ?_, ?_⟩
        · show _ = iI (((16 * p + (8 * y + (k + 1))) / 16 : Nat) : Int)
          rw [show (16 * p + (8 * y + (k + 1))) / 16 = p from by omega]; simp [sI]
        · show _ = iI (((16 * p + (8 * y + (k + 1))) / 8 % 2 : Nat) : Int)
          rw [show (16 * p + (8 * y + (k + 1))) / 8 % 2 = y from by omega]; simp [sI]
        · show _ = iI (((16 * p + (8 * y + (k + 1))) % 8 : Nat) : Int)
          rw [show (16 * p + (8 * y + (k + 1))) % 8 = k + 1 from by omega]; simp [sI]
        · simp [sI]
      · unfold sFr at q
        exact ((((i3 a j q).tr (fr4 a j q.2.2)).tr (sa_I rfl (by omega))).tr (sa_I rfl (by omega))).tr ((sa_I rfl (by omega)).tr (sa_I rfl (by omega)))
    rcases hN4 with ⟨a1, a2⟩ | ⟨a1, a2, a3, a4, a5⟩
    · rw [if_pos (show u4.1 153 5 = iI (-1) from a2)]
      exact put (by omega)
    · rw [if_neg (show ¬ u4.1 153 5 = iI (-1) from by rw [a2]; exact neq (by omega) (by omega) (by omega)), a5]
      by_cases hlt : s.1 < V
      · rw [if_neg (show ¬ iI V ≤ iI s.1 from nle (by omega) (by omega) (by omega))]
        exact put hlt
      · rw [if_pos (show iI V ≤ iI s.1 from yle (by omega) (by omega) (by omega)), if_neg hlt]
        exact ⟨u4, ⟨t2', Or.inr ⟨a1, a2, a3, a4, a5⟩, fun a j q => (i3 a j q).tr (fr4 a j q.2.2)⟩, rfl⟩)
  refine ⟨u, ?_, i1, ?_, i3⟩
  · unfold fn_X8_tryCuts
    rw [gd_t (iI_ix (by omega)), iI_clampN (by omega), bd_o ex, if_pos (by rw [q_1]; exact yle (by omega) (by omega) (by omega)), gd_t (bne_iff_ne.mpr (i0_ne (by omega) (by omega))), nm_o, iI_div (by omega) (by omega), hQ]
    refine (show _ = fn_X8_tryCuts_31 fu (iI (p : Int)) (iI (y : Int)) (iI (ar c (pc b p))) (iI E) (iI Q) (iI ((0 + 1 : Nat) : Int)) z from by rw [show iI ((0 + 1 : Nat) : Int) = 1 from q_1.symm]).trans (hm.trans ?_)
    show fn_X8_tryCuts_31 (m + 1) _ _ _ _ _ _ _ = _
    rw [fn_X8_tryCuts_31, if_pos (yle (by omega) (by omega) (by omega))]
  · have top : ∀ d, EN + d ≤ 8 → nxJ c b p s0 (8 * y + (EN + d)) = nxJ c b p s0 (8 * y + EN) := by
      intro d
      induction d with
      | zero => intro _; rfl
      | succ d ih =>
        intro hd
        rw [show 8 * y + (EN + (d + 1)) = (8 * y + (EN + d)) + 1 from by omega, nxJ_skip (Bool.eq_false_iff.mpr fun q => by have := (cB (EN + d) (by omega)).mp q; omega)]
        exact ih (by omega)
    have := top (8 - EN) (by omega)
    rw [show EN + (8 - EN) = 8 from by omega] at this
    rw [this]
    rw [show EN - 1 + 1 = EN from by omega] at i2
    exact i2
end
