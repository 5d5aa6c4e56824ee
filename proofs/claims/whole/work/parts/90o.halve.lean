section
variable {z w : St} {c : RC} {F0 F1 : FO} {b : BD}
theorem x_halves {p g o : Nat} (hX : RXs z c F0 F1 b) (hg : (g : Int) < c 6 1) (ho : (o : Int) < c 6 1) (hp : (p : Int) < b 168) (hf : pc b p 6 = -1) (h24 : b 168 < 24) :
    ∃ u, fn_X5_findHalves_30 fu (iI (g : Int)) (iI (o : Int)) (35 + 1 + p) 0 0 z = some (iI (tr (0 ≤ (hvJ c F0 b p g o 16).1)), u) ∧ XH u (hvJ c F0 b p g o 16) := by
  have hC := hX.1
  have hV := hX.2.1
  have hs := (hV.2.2.1 p hp).s hC
  have hp24 := hV.n hp
  obtain ⟨m, s, ⟨i1, i2⟩, hm⟩ := loopE (fun m y s => fn_X5_findHalves_30 m (iI (g : Int)) (iI (o : Int)) (35 + 1 + p) (iI (tr (0 ≤ (hvJ c F0 b p g o (8 * y)).1))) (iI (y : Int)) s) (fun y s => XH s (hvJ c F0 b p g o (8 * y)) ∧ ∀ a j, hFr a j → SA z s a j) 2 (by omega) z ⟨Or.inl rfl, fun a j _ => SA.rf⟩ (fun y m s hy ⟨i1, i2⟩ => by
    have hXs := hX.hfr i2
    have hS36 : XS (35 + 1 + p) s (pc b p) := by rw [show 35 + 1 + p = 34 + 2 + p from by omega]; exact hXs.2.2.2.2.2.1.2.2.2.1 p hp
    have hE : 1 ≤ pc b p (3 + y) ∧ pc b p (3 + y) ≤ 8 := by
      have hy' : y = 0 ∨ y = 1 := by omega
      rcases hy' with rfl | rfl
      · exact hs.2.2.2.1
      · exact hs.2.2.2.2.1
    obtain ⟨EN, hEN⟩ : ∃ EN : Nat, pc b p (3 + y) = EN := ⟨(pc b p (3 + y)).toNat, by omega⟩
    have cB : ∀ k : Nat, k < 8 → (canB b p (8 * y + k) = true ↔ 1 ≤ k ∧ (k : Int) < pc b p (3 + y)) := fun k hk => by
      unfold canB
      rw [decide_eq_true_iff, show (8 * y + k) % 8 = k from by omega, show (8 * y + k) / 8 = y from by omega]
      exact ⟨fun q => q.2.2.2, fun q => ⟨hp, hf, h24, q⟩⟩
    obtain ⟨m2, t, ⟨j1, j2⟩, hm2⟩ := loopE (fun m2 k t => fn_X5_findHalves_39 (fn_X5_findHalves_30 m) m2 (iI (g : Int)) (iI (o : Int)) (35 + 1 + p) (iI (tr (0 ≤ (hvJ c F0 b p g o (8 * y + (k + 1))).1))) (iI (y : Int)) (iI ((k + 1 : Nat) : Int)) t) (fun k t => XH t (hvJ c F0 b p g o (8 * y + (k + 1))) ∧ ∀ a j, hFr a j → SA z t a j) (EN - 1) (by omega) s ⟨by rw [show 8 * y + (0 + 1) = 8 * y + 1 from rfl, hvJ_skip (Bool.eq_false_iff.mpr fun q => by have := (cB 0 (by omega)).mp q; omega)]; exact i1, i2⟩ (fun k m2 t hk ⟨j1, j2⟩ => by
      have hcb := (cB (k + 1) (by omega)).mpr (by omega)
      have hb := hvJ_b (c := c) (F0 := F0) (b := b) (p := p) (g := g) (o := o) (8 * y + (k + 1))
      obtain ⟨u, ⟨r1, r2⟩, r3⟩ := x_half (p := p) (o := o) (k := k + 1) (hX.hfr j2) hg ho hy (by omega) hcb hb.1 j1 (fn_X5_findHalves_30 m) m2
      have ej : hvJ c F0 b p g o (8 * y + (k + 1 + 1)) = if (hvJ c F0 b p g o (8 * y + (k + 1))).1 < 0 ∨ (hvJ c F0 b p g o (8 * y + (k + 1))).2.2 < hW c F0 b p g o (8 * y + (k + 1)) then (((8 * y + (k + 1) : Nat) : Int), hT c F0 b p o (8 * y + (k + 1)), hW c F0 b p g o (8 * y + (k + 1))) else hvJ c F0 b p g o (8 * y + (k + 1)) := by
        rw [show 8 * y + (k + 1 + 1) = (8 * y + (k + 1)) + 1 from by omega, hvJ, if_pos hcb]
      rw [ej]
      exact ⟨u, ⟨r1, fun a j q => (j2 a j q).tr (r2 a j q)⟩, r3⟩)
    have top : ∀ d, EN + d ≤ 8 → hvJ c F0 b p g o (8 * y + (EN + d)) = hvJ c F0 b p g o (8 * y + EN) := by
      intro d
      induction d with
      | zero => intro _; rfl
      | succ d ih =>
        intro hd
        rw [show 8 * y + (EN + (d + 1)) = (8 * y + (EN + d)) + 1 from by omega, hvJ_skip (Bool.eq_false_iff.mpr fun q => by have := (cB (EN + d) (by omega)).mp q; omega)]
        exact ih (by omega)
    have e8 : hvJ c F0 b p g o (8 * (y + 1)) = hvJ c F0 b p g o (8 * y + (EN - 1 + 1)) := by
      have := top (8 - EN) (by omega)
      rw [show EN + (8 - EN) = 8 from by omega] at this
      rw [show 8 * (y + 1) = 8 * y + 8 from by omega, this, show EN - 1 + 1 = EN from by omega]
    have hXt := hX.hfr j2
    have hS36t : XS (35 + 1 + p) t (pc b p) := by rw [show 35 + 1 + p = 34 + 2 + p from by omega]; exact hXt.2.2.2.2.2.1.2.2.2.1 p hp
    have ex : fn_X9_extent (35 + 1 + p) (iI (y : Int)) t = some (iI (pc b p (3 + y)), t) := by
      unfold fn_X9_extent
      have hy' : y = 0 ∨ y = 1 := by omega
      rcases hy' with rfl | rfl
      · rw [if_pos z0, hS36t 3 (by omega)]
      · rw [if_neg (by decide), hS36t 4 (by omega)]
    refine ⟨t, ⟨by rw [e8]; exact j1, j2⟩, ?_⟩
    show fn_X5_findHalves_30 (m + 1) _ _ _ _ _ _ = fn_X5_findHalves_30 m _ _ _ _ _ _
    rw [fn_X5_findHalves_30, if_neg (show ¬ (1 : Int32) < iI (y : Int) from by rw [q_1]; exact nlt (by omega) (by omega) (by omega))]
    refine (show _ = fn_X5_findHalves_39 (fn_X5_findHalves_30 m) fu (iI (g : Int)) (iI (o : Int)) (35 + 1 + p) (iI (tr (0 ≤ (hvJ c F0 b p g o (8 * y + (0 + 1))).1))) (iI (y : Int)) (iI ((0 + 1 : Nat) : Int)) s from ?_).trans (hm2.trans ?_)
    · rw [show 8 * y + (0 + 1) = 8 * y + 1 from rfl, hvJ_skip (Bool.eq_false_iff.mpr fun q => by have := (cB 0 (by omega)).mp q; omega), show iI ((0 + 1 : Nat) : Int) = 1 from q_1.symm]
    · show fn_X5_findHalves_39 _ (m2 + 1) _ _ _ _ _ _ _ = _
      rw [fn_X5_findHalves_39, bd_o ex, if_pos (show iI (pc b p (3 + y)) ≤ iI ((EN - 1 + 1 : Nat) : Int) from yle (by omega) (by omega) (by omega)), k1, e8])
  refine ⟨s, (show _ = fn_X5_findHalves_30 fu (iI (g : Int)) (iI (o : Int)) (35 + 1 + p) (iI (tr (0 ≤ (hvJ c F0 b p g o (8 * 0)).1))) (iI ((0 : Nat) : Int)) z from by rw [z0, show 8 * 0 = 0 from rfl, hvJ, tr_n (show ¬ (0 : Int) ≤ -1 from by omega), ← q_0]).trans (hm.trans ?_), i1⟩
  show fn_X5_findHalves_30 (m + 1) _ _ _ _ _ _ = _
  rw [fn_X5_findHalves_30, if_pos (show (1 : Int32) < iI ((2 : Nat) : Int) from by decide), gd_t (tr_z _)]
theorem x_findHalves {n : Int} {g o : Nat} (hX : RXs z c F0 F1 b) (hn : -2147483648 ≤ n ∧ n < 2147483648) (hg : (g : Int) < c 6 1) (ho : (o : Int) < c 6 1) :
    ∃ u, fn_X5_findHalves (iI n) (iI (g : Int)) (iI (o : Int)) z = some (iI (tr (0 ≤ n ∧ 0 ≤ (hvJ c F0 b n.toNat g o 16).1)), u) ∧ (0 ≤ n → XH u (hvJ c F0 b n.toNat g o 16)) := by
  have hC := hX.1
  have hV := hX.2.1
  unfold fn_X5_findHalves
  rw [bd_o (x_isCut hC hX.2.2.2.2.2.1 hV hn)]
  by_cases hc : 0 ≤ n ∧ n < b 168 ∧ pc b n.toNat 6 = -1 ∧ b 168 < 24
  · obtain ⟨u, e, i⟩ := x_halves (p := n.toNat) (g := g) (o := o) hX hg ho (by omega) hc.2.2.1 hc.2.2.2
    have h24 := hV.n (p := n.toNat) (by omega)
    rw [tr_1 hc, if_neg (show ¬ iI 1 = 0 from by decide), show iI n = iI ((n.toNat : Nat) : Int) from nn hc.1, gd_t (iI_ix (by omega)), iI_clampN (by omega)]
    refine ⟨u, e.trans ?_, fun _ => i⟩
    rw [tr_c (Q := 0 ≤ n ∧ 0 ≤ (hvJ c F0 b n.toNat g o 16).1) ⟨fun q => ⟨hc.1, q⟩, fun q => q.2⟩]
  · have hno : ∀ j, 0 ≤ n → canB b n.toNat j = false := fun j h0 => canB_no (fun q => hc ⟨h0, by omega, q.2.1, q.2.2⟩) j
    rw [tr_n hc, if_pos (show iI 0 = 0 from q_0.symm)]
    refine ⟨z, ?_, fun h0 => by rw [hvJ_no (fun j => hno j h0)]; exact Or.inl rfl⟩
    rw [tr_n (P := 0 ≤ n ∧ 0 ≤ (hvJ c F0 b n.toNat g o 16).1) (fun q => by rw [hvJ_no (fun j => hno j q.1)] at q; exact absurd q.2 (by decide)), q_0]
/-- the reference's -/
def MH (u : St) (s : Int × Int × Int32) : Prop := u.1 172 58 = iI s.1 ∧ (0 ≤ s.1 → u.1 172 59 = iI s.2.1 ∧ u.1 172 60 = s.2.2)
theorem MH.fr {s : Int × Int × Int32} {u v : St} (h : MH u s) (hs : ∀ k, v.1 172 k = u.1 172 k) : MH v s := by
  unfold MH at h ⊢
  rw [hs 58, hs 59, hs 60]
  exact h
theorem m_layHalve {p g o : Nat} (h : RD z c F0 F1 b) (hg : (g : Int) < c 6 1) (ho : (o : Int) < c 6 1) (hp : (p : Int) < b 168) : ∃ u, fn_X12_layHalve (iI (p : Int)) (iI (g : Int)) (iI (o : Int)) z = some u ∧ MH u (hvJ c F0 b p g o 16) := by
  have hC := h.vc
  have hV := h.vb
  have hn := hV.1
  have h24 := hV.n hp
  have h0 : RD (sI z 172 58 (-1)) c F0 F1 b := h.fr fun a k q => sa_I rfl (by unfold PS at q; omega)
  obtain ⟨m, s, ⟨i1, i2⟩, hm⟩ := loopE (fun m j s => fn_X12_layHalve_8 m (iI (p : Int)) (iI (g : Int)) (iI (o : Int)) (iI (j : Int)) s) (fun j s => RD s c F0 F1 b ∧ MH s (hvJ c F0 b p g o j)) 16 (by omega) (sI z 172 58 (-1)) ⟨h0, by rw [sI_at, if_pos rfl, hvJ]; exact q_m1, fun q => by rw [hvJ] at q; exact absurd q (by decide)⟩ (fun j m t hj ⟨ht, hM⟩ => by
    have hl := ht.ld
    have hld : RD (ldz t) c F0 F1 b := ht.fr fun a k g => ldz_S (by unfold PS at g; omega)
    have hb := hvJ_b (c := c) (F0 := F0) (b := b) (p := p) (g := g) (o := o) j
    show ∃ s', _ ∧ fn_X12_layHalve_8 (m + 1) _ _ _ _ _ = fn_X12_layHalve_8 m _ _ _ _ _
    rw [fn_X12_layHalve_8, if_neg (show ¬ (16 : Int32) ≤ iI (j : Int) from by rw [q_16]; exact nle (by omega) (by omega) (by omega)), bv_o (m_load t), q_8, show iI 8 = iI ((8 : Nat) : Int) from rfl, nmod (by omega) (by omega), ndiv (by omega) (by omega), bd_o (m_canCut hC hl.2.2.2.2.2.1 hV (by omega) (by omega) (by omega)), hvJ]
    have hce : cs b (p : Int) ((j / 8 : Nat) : Int) ((j % 8 : Nat) : Int) ↔ canB b p j = true := by
      unfold cs canB
      rw [decide_eq_true_iff, Int.toNat_natCast]
      have hj8 : j / 8 = 0 ∨ j / 8 = 1 := by omega
      rcases hj8 with e | e <;> rw [e]
      · show _ ↔ (p : Int) < b 168 ∧ pc b p 6 = -1 ∧ b 168 < 24 ∧ 1 ≤ j % 8 ∧ ((j % 8 : Nat) : Int) < pc b p 3
        omega
      · show _ ↔ (p : Int) < b 168 ∧ pc b p 6 = -1 ∧ b 168 < 24 ∧ 1 ≤ j % 8 ∧ ((j % 8 : Nat) : Int) < pc b p 4
        omega
    by_cases hcb : canB b p j = true
    · have hcS := canB_s hj hcb
      obtain ⟨u, e, bu, fu'⟩ := m_goCut hl.2.2.2.2.2.1 hC hV hcS
      have hVu := VB_goC hV hcS
      have hMu : RM u c F0 F1 (goC b p (j / 8) ((j % 8 : Nat) : Int)) := ⟨hC, hVu, hl.2.2.1, hl.2.2.2.1, hl.2.2.2.2.1.fr fun a k g => fu' a k (by unfold QR at g; omega), bu, hl.2.2.2.2.2.2.1.fr fun a k g => fu' a k (by omega), hl.2.2.2.2.2.2.2.fr fun a k g => fu' a k (by omega)⟩
      obtain ⟨e168, e169, -⟩ := goC_168 (k := ((j % 8 : Nat) : Int)) ⟨hn.1, hcS.2.2.1⟩ hp hcS.2.2.2.1
      have look : ∀ (t : Nat) (v : St), (∀ a k, ¬ a = 184 → ¬ a = 182 → SA u v a k) → (t : Int) < c 6 1 → (∃ v', fn_X12_worthOf (iI (t : Int)) (iI (p : Int)) v = some (hA c F0 b p t j, v') ∧ ∀ a k, ¬ a = 184 → ¬ a = 182 → SA u v' a k) ∧ (∃ v', fn_X12_worthOf (iI (t : Int)) (iI (b 168)) v = some (hB c F0 b p t j, v') ∧ ∀ a k, ¬ a = 184 → ¬ a = 182 → SA u v' a k) := by
        intro t v hv ht
        have hMv := hMu.wfr hv
        obtain ⟨v1, e1⟩ := m_worthOf (p := p) hMv.2.2.2.2.1 hC hMv.2.2.2.2.2.1 hVu hMv.2.2.2.2.2.2.1 hMv.2.2.1 ht (by omega)
        obtain ⟨v2, e2⟩ := m_worthOf (p := (b 168).toNat) hMv.2.2.2.2.1 hC hMv.2.2.2.2.2.1 hVu hMv.2.2.2.2.2.2.1 hMv.2.2.1 ht (by omega)
        rw [e169] at e1 e2
        rw [show (((b 168).toNat : Nat) : Int) = b 168 from by omega] at e2
        exact ⟨⟨v1, e1, fun a k q1 q2 => (hv a k q1 q2).tr (ff_X12_worthOf (show ¬ a = 184 ∧ ¬ a = 182 from ⟨q1, q2⟩) e1)⟩, v2, e2, fun a k q1 q2 => (hv a k q1 q2).tr (ff_X12_worthOf (show ¬ a = 184 ∧ ¬ a = 182 from ⟨q1, q2⟩) e2)⟩
      obtain ⟨-, u1, a1, a2⟩ := look o u (fun a k _ _ => SA.rf) ho
      obtain ⟨⟨u2, b1, b2⟩, -⟩ := look o u1 a2 ho
      obtain ⟨⟨u3, d1, d2⟩, u4, g1, g2⟩ := look g u2 b2 hg
      have fin : ∀ (T : Int) (W : Int32) (v : St), (∀ a k, ¬ a = 184 → ¬ a = 182 → SA u v a k) → ∃ s', (RD s' c F0 F1 b ∧ MH s' (if (hvJ c F0 b p g o j).1 < 0 ∨ (hvJ c F0 b p g o j).2.2 < W then ((j : Int), T, W) else hvJ c F0 b p g o j)) ∧ (if v.1 172 58 < 0 then fn_X12_layHalve_121 (fn_X12_layHalve_8 m) (iI (p : Int)) (iI (g : Int)) (iI (o : Int)) (iI (j : Int)) (iI T) W v else (if v.1 172 60 < W then fn_X12_layHalve_121 (fn_X12_layHalve_8 m) (iI (p : Int)) (iI (g : Int)) (iI (o : Int)) (iI (j : Int)) (iI T) W v else fn_X12_layHalve_139 (fn_X12_layHalve_8 m) (iI (p : Int)) (iI (g : Int)) (iI (o : Int)) (iI (j : Int)) v)) = fn_X12_layHalve_8 m (iI (p : Int)) (iI (g : Int)) (iI (o : Int)) (iI ((j + 1 : Nat) : Int)) s' := by
        intro T W v hv
        have fv : ∀ a k, PS a k → SA t v a k := fun a k q => (ldz_S (by unfold PS at q; omega)).tr ((fu' a k (by unfold PS at q; omega)).tr (hv a k (by unfold PS at q; omega) (by unfold PS at q; omega)))
        have hRv : RD v c F0 F1 b := ht.fr fv
        have f172 : ∀ k, v.1 172 k = t.1 172 k := fun k => ((ldz_S (by omega)).tr ((fu' 172 k (by omega)).tr (hv 172 k (by omega) (by omega)))).1
        have hMv := hM.fr f172
        have put : fn_X12_layHalve_121 (fn_X12_layHalve_8 m) (iI (p : Int)) (iI (g : Int)) (iI (o : Int)) (iI (j : Int)) (iI T) W v = fn_X12_layHalve_8 m (iI (p : Int)) (iI (g : Int)) (iI (o : Int)) (iI ((j + 1 : Nat) : Int)) (sI (sI (sI v 172 58 (iI (j : Int))) 172 59 (iI T)) 172 60 W) := by
          unfold fn_X12_layHalve_121 fn_X12_layHalve_139
          rw [k1, nm_o, nm_o, nm_o]
        have pR : RD (sI (sI (sI v 172 58 (iI (j : Int))) 172 59 (iI T)) 172 60 W) c F0 F1 b := hRv.fr fun a k q => ((sa_I rfl (by unfold PS at q; omega)).tr (sa_I rfl (by unfold PS at q; omega))).tr (sa_I rfl (by unfold PS at q; omega))
        have pM : MH (sI (sI (sI v 172 58 (iI (j : Int))) 172 59 (iI T)) 172 60 W) ((j : Int), T, W) := ⟨by simp [sI], fun _ => ⟨by simp [sI], by simp [sI]⟩⟩
        rw [hMv.1]
        by_cases q0 : (hvJ c F0 b p g o j).1 < 0
        · rw [if_pos (show iI (hvJ c F0 b p g o j).1 < 0 from by rw [q_0]; exact ylt (by omega) (by omega) q0), if_pos (show (hvJ c F0 b p g o j).1 < 0 ∨ (hvJ c F0 b p g o j).2.2 < W from Or.inl q0)]
          exact ⟨_, ⟨pR, pM⟩, put⟩
        · rw [if_neg (show ¬ iI (hvJ c F0 b p g o j).1 < 0 from by rw [q_0]; exact nlt (by omega) (by omega) q0), (hMv.2 (by omega)).2]
          by_cases q1 : (hvJ c F0 b p g o j).2.2 < W
          · rw [if_pos q1, if_pos (show (hvJ c F0 b p g o j).1 < 0 ∨ (hvJ c F0 b p g o j).2.2 < W from Or.inr q1)]
            exact ⟨_, ⟨pR, pM⟩, put⟩
          · rw [if_neg q1, if_neg (show ¬ ((hvJ c F0 b p g o j).1 < 0 ∨ (hvJ c F0 b p g o j).2.2 < W) from fun q => q.elim q0 q1)]
            refine ⟨v, ⟨hRv, hMv⟩, ?_⟩
            unfold fn_X12_layHalve_139
            rw [k1]
      rw [tr_1 (hce.mpr hcb), if_neg (show ¬ iI 1 = 0 from by decide), bd_o e, bd_o a1, bd_o b1, if_pos hcb]
      by_cases hc : hB c F0 b p o j ≤ hA c F0 b p o j
      · have eT : hT c F0 b p o j = 0 := if_pos hc
        have eW : hW c F0 b p g o j = hB c F0 b p g j := if_pos hc
        rw [if_pos hc]
        unfold fn_X12_layHalve_78 fn_X12_layHalve_97
        rw [bd_o m_truth0, if_neg (show ¬ (0 : Int32) = 1 from by decide), bd_o g1, eW, eT]
        exact fin 0 _ u4 g2
      · have eT : hT c F0 b p o j = 1 := if_neg hc
        have eW : hW c F0 b p g o j = hA c F0 b p g j := if_neg hc
        rw [if_neg hc]
        unfold fn_X12_layHalve_78 fn_X12_layHalve_97
        rw [bd_o m_truth1, if_pos rfl, bd_o d1, eW, eT]
        exact fin 1 _ u3 d2
    · rw [tr_n (fun q => hcb (hce.mp q)), if_pos (show iI 0 = 0 from q_0.symm), if_neg hcb]
      refine ⟨ldz t, ⟨hld, hM.fr fun k => (ldz_S (by omega)).1⟩, ?_⟩
      unfold fn_X12_layHalve_139
      rw [k1])
  refine ⟨s, ?_, i2⟩
  unfold fn_X12_layHalve
  rw [nm_o]
  refine (show _ = fn_X12_layHalve_8 fu (iI (p : Int)) (iI (g : Int)) (iI (o : Int)) (iI ((0 : Nat) : Int)) (sI z 172 58 (-1)) from by rw [z0]).trans (hm.trans ?_)
  show fn_X12_layHalve_8 (m + 1) _ _ _ _ _ = _
  rw [fn_X12_layHalve_8, if_pos (show (16 : Int32) ≤ iI ((16 : Nat) : Int) from by decide)]
theorem m_canHalve {n y x : Int} (h : RD z c F0 F1 b) (hn : -2147483648 ≤ n ∧ n < 2147483648) (hy : -2147483648 ≤ y ∧ y < 2147483648) (hx : -2147483648 ≤ x ∧ x < 2147483648) : fn_X12_canHalve (iI n) (iI y) (iI x) z = some (iI (tr ((0 ≤ n ∧ n < b 168) ∧ (0 ≤ y ∧ y < c 6 1) ∧ (0 ≤ x ∧ x < c 6 1) ∧ y ≠ x)), z) := by
  have hC := h.vc
  unfold fn_X12_canHalve
  rw [bd_o (m_isPiece h.mb h.vb hn)]
  by_cases h1 : 0 ≤ n ∧ n < b 168
  · rw [tr_1 h1, if_neg (show ¬ iI 1 = 0 from by decide), bd_o (m_isGuest h.mr hC hy)]
    by_cases h2 : 0 ≤ y ∧ y < c 6 1
    · rw [tr_1 h2, if_neg (show ¬ iI 1 = 0 from by decide), bd_o (m_isGuest h.mr hC hx)]
      by_cases h3 : 0 ≤ x ∧ x < c 6 1
      · rw [tr_1 h3, if_neg (show ¬ iI 1 = 0 from by decide)]
        by_cases h4 : y = x
        · rw [if_pos (show iI y = iI x from by rw [h4]), tr_n (fun q => q.2.2.2 h4), q_0]
        · rw [if_neg (show ¬ iI y = iI x from neq hy hx h4), tr_1 ⟨h1, h2, h3, h4⟩, q_1]
      · rw [tr_n h3, if_pos (show iI 0 = 0 from q_0.symm), tr_n (fun q => h3 q.2.2.1), q_0]
    · rw [tr_n h2, if_pos (show iI 0 = 0 from q_0.symm), tr_n (fun q => h2 q.2.1), q_0]
  · rw [tr_n h1, if_pos (show iI 0 = 0 from q_0.symm), tr_n (fun q => h1 q.1), q_0]
end
