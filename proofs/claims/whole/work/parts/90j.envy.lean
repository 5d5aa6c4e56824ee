theorem orf_ext {P Q : Nat → Bool} : ∀ k, (∀ i, i < k → P i = Q i) → orf P k = orf Q k := by
  intro k
  induction k with
  | zero => intro _; rfl
  | succ k ih => intro h; rw [orf, orf, h k (by omega), ih fun i hi => h i (by omega)]
def p6 (a0 a1 a2 a3 a4 a5 : Bool) : Nat → Bool := fun k => if k = 0 then a0 else if k = 1 then a1 else if k = 2 then a2 else if k = 3 then a3 else if k = 4 then a4 else a5
def cB6 (P : Nat → Bool) : Nat → Int
  | 0 => 0
  | k + 1 => cB6 P k + (if P k then 1 else 0)
theorem cB6_ext {P Q : Nat → Bool} : ∀ k, (∀ i, i < k → P i = Q i) → cB6 P k = cB6 Q k := by
  intro k
  induction k with
  | zero => intro _; rfl
  | succ k ih => intro h; rw [cB6, cB6, h k (by omega), ih fun i hi => h i (by omega)]
theorem cB6_b (P : Nat → Bool) : ∀ k : Nat, 0 ≤ cB6 P k ∧ cB6 P k ≤ k := by
  intro k
  induction k with
  | zero => exact ⟨Int.le_refl 0, Int.le_refl 0⟩
  | succ k ih => rw [cB6]; split <;> omega
set_option maxRecDepth 100000 in
theorem bc6 : ([false, true].all fun a0 => [false, true].all fun a1 => [false, true].all fun a2 => [false, true].all fun a3 => [false, true].all fun a4 => [false, true].all fun a5 => (List.range 7).all fun G => decide ((fn_J6_bitCount_0f7a4 (orf (p6 a0 a1 a2 a3 a4 a5) G) (fun _ _ => 0, fun _ _ => 0)).map (·.1) = some (iI (cB6 (p6 a0 a1 a2 a3 a4 a5) G)))) = true := by decide +kernel
theorem bitc_orf {z : St} (P : Nat → Bool) {G : Nat} (hG : G ≤ 6) : fn_J6_bitCount_0f7a4 (orf P G) z = some (iI (cB6 P G), z) := by
  have e : ∀ i, i < G → P i = p6 (P 0) (P 1) (P 2) (P 3) (P 4) (P 5) i := fun i hi => by
    have : i = 0 ∨ i = 1 ∨ i = 2 ∨ i = 3 ∨ i = 4 ∨ i = 5 := by omega
    rcases this with rfl | rfl | rfl | rfl | rfl | rfl <;> rfl
  rw [orf_ext G e, cB6_ext G e]
  have mb : ∀ x : Bool, x ∈ [false, true] := fun x => by cases x <;> decide
  have h := of_decide_eq_true (List.all_eq_true.mp (List.all_eq_true.mp (List.all_eq_true.mp (List.all_eq_true.mp (List.all_eq_true.mp (List.all_eq_true.mp (List.all_eq_true.mp bc6 (P 0) (mb _)) (P 1) (mb _)) (P 2) (mb _)) (P 3) (mb _)) (P 4) (mb _)) (P 5) (mb _)) G (List.mem_range.mpr (by omega)))
  unfold fn_J6_bitCount_0f7a4 at h ⊢
  simp only [nm_o, Option.map_some, Option.some.injEq] at h ⊢
  exact Prod.ext h rfl
section
variable {z w : St} {c : RC} {F0 F1 : FO} {b : BD}
/-- g envies o -/
def enb (c : RC) (F0 : FO) (b : BD) (g o : Nat) : Bool := decide (o ≠ g ∧ hp b (o : Int) ≠ -1 ∧ wop c F0 b g (hp b (g : Int)) 0 < wop c F0 b g (hp b (o : Int)) 0)
theorem RXs.tfr (h : RXs z c F0 F1 b) (hs : ∀ a j, a ≠ 144 → a ≠ 13 → SA z w a j) : RXs w c F0 F1 b := h.fr fun a j q => hs a j (by unfold QXs QX at q; omega) (by unfold QXs QX at q; omega)
theorem x_enviedBy {g : Nat} (h : RXs z c F0 F1 b) (hg : (g : Int) < c 6 1) : ∃ w, fn_X10_enviedBy (iI (g : Int)) z = some (orf (enb c F0 b g) (c 6 1).toNat, w) := by
  have hC := h.1
  have hV := h.2.1
  have hn := hV.1
  have hG := hC.2.1
  have hbg := hp_b hV (g : Int)
  obtain ⟨w1, e1⟩ := x_wop h hg (n := hp b (g : Int)) (by omega) 0
  have f1 : ∀ a j, a ≠ 144 → a ≠ 13 → SA z w1 a j := fun a j q1 q2 => ff_X10_ofPiece (by show ¬ a = 144 ∧ ¬ a = 13; exact ⟨q1, q2⟩) e1
  obtain ⟨m, s, i1, hm⟩ := loopE (fun m o s => fn_X10_enviedBy_34 m (iI (g : Int)) (wop c F0 b g (hp b (g : Int)) 0) (orf (enb c F0 b g) o) (iI (o : Int)) s) (fun o s => ∀ a j, a ≠ 144 → a ≠ 13 → SA z s a j) (c 6 1).toNat (by omega) w1 f1 (fun o m s ho i1 => by
    have hoc : (o : Int) < c 6 1 := by omega
    have Ms := h.tfr i1
    have hbo := hp_b hV (o : Int)
    show ∃ s', _ ∧ fn_X10_enviedBy_34 (m + 1) _ _ _ _ _ = fn_X10_enviedBy_34 m _ _ _ _ _
    rw [fn_X10_enviedBy_34, Ms.2.2.2.2.1.2.1, if_neg (nle (by omega) (by omega) (by omega)), orf]
    unfold fn_X10_enviedBy_70 fn_X10_enviedBy_71 fn_X10_enviedBy_105
    have g0 : ∀ x : Option (Int32 × St), gd (ix (iI (o : Int)) 6) x = x := fun x => gd_t (iI_ix (by omega))
    simp only [g0, iI_clampN (show o < 2147483648 from by omega), show s.1 60 o = iI (hp b (o : Int)) from Ms.2.2.2.2.2.1.2.2.2.2 o (by omega), k1]
    by_cases e0 : o = g
    · rw [if_pos (show iI (o : Int) = iI (g : Int) from by rw [e0]), if_pos trivial, if_neg (show ¬ enb c F0 b g o = true from by unfold enb; simp [e0])]
      exact ⟨s, i1, rfl⟩
    · rw [if_neg (show ¬ iI (o : Int) = iI (g : Int) from neq (by omega) (by omega) (by omega))]
      by_cases hh : hp b (o : Int) = -1
      · rw [if_pos (show iI (hp b (o : Int)) = -1 from by rw [hh]; exact q_m1.symm), if_pos trivial, if_neg (show ¬ enb c F0 b g o = true from by unfold enb; simp [hh])]
        exact ⟨s, i1, rfl⟩
      · obtain ⟨u, e⟩ := x_wop Ms hg (n := hp b (o : Int)) (by omega) 0
        have fu' : ∀ a j, a ≠ 144 → a ≠ 13 → SA s u a j := fun a j q1 q2 => ff_X10_ofPiece (by show ¬ a = 144 ∧ ¬ a = 13; exact ⟨q1, q2⟩) e
        rw [if_neg (show ¬ iI (hp b (o : Int)) = -1 from by rw [q_m1]; exact neq (by omega) (by omega) hh), if_neg (show ¬ (1 : Int32) = 0 from by decide), bd_o e]
        refine ⟨u, fun a j q1 q2 => (i1 a j q1 q2).tr (fu' a j q1 q2), ?_⟩
        by_cases hl : wop c F0 b g (hp b (o : Int)) 0 ≤ wop c F0 b g (hp b (g : Int)) 0
        · rw [if_pos hl, if_neg (show ¬ enb c F0 b g o = true from fun q => by have := (of_decide_eq_true q).2.2; exact absurd hl (Int32.not_le.mpr this))]
        · rw [if_neg hl, nm_o, if_pos (show enb c F0 b g o = true from decide_eq_true ⟨e0, hh, Int32.not_le.mp hl⟩)])
  refine ⟨s, ?_⟩
  unfold fn_X10_enviedBy
  rw [bd_o (x_isGuest h.2.2.2.2.1 hC (by omega)), tr_1 (by omega), if_neg (by decide), gd_t (iI_ix (by omega)), iI_clampN (by omega), show z.1 60 g = iI (hp b (g : Int)) from h.2.2.2.2.2.1.2.2.2.2 g (by omega), bd_o e1]
  refine (show _ = fn_X10_enviedBy_34 fu (iI (g : Int)) (wop c F0 b g (hp b (g : Int)) 0) 0 (iI ((0 : Nat) : Int)) w1 from by rw [z0]).trans (hm.trans ?_)
  show fn_X10_enviedBy_34 (m + 1) _ _ _ _ _ = _
  rw [fn_X10_enviedBy_34, (h.tfr i1).2.2.2.2.1.2.1, if_pos (yle (by omega) (by omega) (by omega))]
theorem RM.wfr (h : RM z c F0 F1 b) (hs : ∀ a j, a ≠ 184 → a ≠ 182 → SA z w a j) : RM w c F0 F1 b := h.fr fun a j q => hs a j (by unfold QM QR at q; omega) (by unfold QM QR at q; omega)
theorem m_isEnvied {g o : Nat} (h : RM z c F0 F1 b) (hg : (g : Int) < c 6 1) (ho : (o : Int) < c 6 1) : ∃ w, fn_X12_isEnvied (iI (g : Int)) (iI (o : Int)) z = some (iI (tr (enb c F0 b g o = true)), w) := by
  have hC := h.1
  have hV := h.2.1
  have hn := hV.1
  have hG := hC.2.1
  have hbg := hp_b hV (g : Int)
  have hbo := hp_b hV (o : Int)
  unfold fn_X12_isEnvied
  rw [bd_o (m_pieceOf hC h.2.2.2.2.2.1 hV (by omega)), bd_o (m_pieceOf hC h.2.2.2.2.2.1 hV (by omega))]
  by_cases e0 : o = g
  · rw [if_pos (show iI (g : Int) = iI (o : Int) from by rw [e0]), tr_n (show ¬ enb c F0 b g o = true from by unfold enb; simp [e0]), q_0]
    exact ⟨z, rfl⟩
  · rw [if_neg (show ¬ iI (g : Int) = iI (o : Int) from neq (by omega) (by omega) (by omega))]
    by_cases hh : hp b (o : Int) = -1
    · rw [if_neg (show ¬ 0 ≤ iI (hp b (o : Int)) from by rw [hh]; decide), tr_n (show ¬ enb c F0 b g o = true from by unfold enb; simp [hh]), q_0]
      exact ⟨z, rfl⟩
    · obtain ⟨w1, e1⟩ := m_worthOf (p := (hp b (o : Int)).toNat) h.2.2.2.2.1 hC h.2.2.2.2.2.1 hV h.2.2.2.2.2.2.1 h.2.2.1 hg (by omega)
      have ewo : wo c F0 (pc b (hp b (o : Int)).toNat) (c 4 g) (b 169) = wop c F0 b g (hp b (o : Int)) 0 := by unfold wop; rw [if_pos (by omega)]
      rw [ewo, ← nn (show 0 ≤ hp b (o : Int) from by omega)] at e1
      have f1 : ∀ a j, a ≠ 184 → a ≠ 182 → SA z w1 a j := fun a j q1 q2 => ff_X12_worthOf (by show ¬ a = 184 ∧ ¬ a = 182; exact ⟨q1, q2⟩) e1
      rw [if_pos (show 0 ≤ iI (hp b (o : Int)) from by rw [q_0]; exact yle (by omega) (by omega) (by omega))]
      have fin : ∀ (v : Int32) (u : St), v = wop c F0 b g (hp b (g : Int)) 0 → ∃ w, (if wop c F0 b g (hp b (o : Int)) 0 ≤ v then some ((0 : Int32), u) else some (1, u)) = some (iI (tr (enb c F0 b g o = true)), w) := by
        intro v u hv
        by_cases hl : wop c F0 b g (hp b (o : Int)) 0 ≤ v
        · rw [if_pos hl, tr_n (show ¬ enb c F0 b g o = true from fun q => by have := (of_decide_eq_true q).2.2; rw [← hv] at this; exact absurd hl (Int32.not_le.mpr this)), q_0]
          exact ⟨u, rfl⟩
        · rw [if_neg hl, tr_1 (show enb c F0 b g o = true from decide_eq_true ⟨e0, hh, by rw [← hv]; exact Int32.not_le.mp hl⟩), q_1]
          exact ⟨u, rfl⟩
      by_cases hg1 : hp b (g : Int) = -1
      · rw [if_neg (show ¬ 0 ≤ iI (hp b (g : Int)) from by rw [hg1]; decide), bd_o e1]
        exact fin 0 w1 (by unfold wop; rw [if_neg (by omega)])
      · have M1 := h.wfr f1
        obtain ⟨w2, e2⟩ := m_worthOf (p := (hp b (g : Int)).toNat) M1.2.2.2.2.1 hC M1.2.2.2.2.2.1 hV M1.2.2.2.2.2.2.1 h.2.2.1 hg (by omega)
        rw [← nn (show 0 ≤ hp b (g : Int) from by omega)] at e2
        rw [if_pos (show 0 ≤ iI (hp b (g : Int)) from by rw [q_0]; exact yle (by omega) (by omega) (by omega)), bd_o e1, bd_o e2]
        exact fin _ w2 (by unfold wop; rw [if_pos (by omega)])
theorem m_enviedBy {g : Nat} (h : RM z c F0 F1 b) (hg : (g : Int) < c 6 1) : ∃ w, fn_X12_enviedBy (iI (g : Int)) z = some (orf (enb c F0 b g) (c 6 1).toNat, w) := by
  have hG := h.1.2.1
  obtain ⟨m, s, Ms, hm⟩ := loopE (fun m o s => fn_X12_enviedBy_4 m (iI (g : Int)) (orf (enb c F0 b g) o) (iI (o : Int)) s) (fun o s => RM s c F0 F1 b) (c 6 1).toNat (by omega) z h (fun o m s ho Ms => by
    obtain ⟨u, e⟩ := m_isEnvied (g := g) (o := o) Ms hg (by omega)
    have fu' : ∀ a j, a ≠ 184 → a ≠ 182 → SA s u a j := fun a j q1 q2 => ff_X12_isEnvied (by show ¬ a = 184 ∧ ¬ a = 182; exact ⟨q1, q2⟩) e
    show ∃ s', _ ∧ fn_X12_enviedBy_4 (m + 1) _ _ _ _ = fn_X12_enviedBy_4 m _ _ _ _
    rw [fn_X12_enviedBy_4, Ms.2.2.2.2.1.2.1, if_neg (nle (by omega) (by omega) (by omega)), bd_o e, orf]
    refine ⟨u, Ms.wfr fu', ?_⟩
    by_cases he : enb c F0 b g o = true
    · rw [tr_1 he, bd_o m_truthI1, nm_o, k1, if_pos he, ← q_1]
    · rw [tr_n he, bd_o m_truthI0, nm_o, k1, if_neg he, or_n])
  unfold fn_X12_enviedBy
  refine ⟨s, (show _ = fn_X12_enviedBy_4 fu (iI (g : Int)) 0 (iI ((0 : Nat) : Int)) z from by rw [z0]).trans (hm.trans ?_)⟩
  show fn_X12_enviedBy_4 (m + 1) _ _ _ _ = _
  rw [fn_X12_enviedBy_4, Ms.2.2.2.2.1.2.1, if_pos (yle (by omega) (by omega) (by omega))]
theorem s_envies (v : Int32) (h : RD z c F0 F1 b) : Same (fn_X11_envies v) (fn_X12_envies v) z := by
  obtain ⟨n, rfl, hn⟩ := ii v
  have hC := h.vc
  refine qry (if 0 ≤ n ∧ n < c 6 1 then orf (enb c F0 b n.toNat) (c 6 1).toNat else -1) h (fun z h => ?_) (fun z w e a k h => ff_X11_envies (by unfold PS at h; show ¬ a = 144 ∧ ¬ a = 13; omega) e) (fun z h => ?_) (fun z w e a k h => ff_X12_envies (by unfold PS at h; show ¬ a = 198 ∧ ¬ a = 184 ∧ ¬ a = 182; omega) e)
  · unfold fn_X11_envies
    rw [bd_o (x_isGuest h.xr hC hn)]
    by_cases g1 : 0 ≤ n ∧ n < c 6 1
    · obtain ⟨w, e⟩ := x_enviedBy (g := n.toNat) h.xs (by omega)
      rw [tr_1 g1, if_neg (show ¬ iI 1 = 0 from by decide), if_pos g1, nn g1.1, bd_o e]
      exact ⟨w, rfl⟩
    · rw [tr_n g1, if_pos (show iI 0 = 0 from q_0.symm), if_neg g1]
      exact ⟨z, rfl⟩
  · unfold fn_X12_envies
    rw [bd_o (m_isGuest h.mr hC hn)]
    by_cases g1 : 0 ≤ n ∧ n < c 6 1
    · obtain ⟨w, e⟩ := m_enviedBy (g := n.toNat) h.ld (by omega)
      rw [tr_1 g1, if_neg (show ¬ iI 1 = 0 from by decide), if_pos g1, bv_o (m_load z), nn g1.1, bd_o e]
      exact ⟨w, rfl⟩
    · rw [tr_n g1, if_pos (show iI 0 = 0 from q_0.symm), if_neg g1]
      exact ⟨z, rfl⟩
/-- all envies -/
def aE (c : RC) (F0 : FO) (b : BD) : Nat → Int
  | 0 => 0
  | g + 1 => aE c F0 b g + cB6 (enb c F0 b g) (c 6 1).toNat
theorem aE_b (hC : VC c) : ∀ k : Nat, 0 ≤ aE c F0 b k ∧ aE c F0 b k ≤ 6 * k := by
  intro k
  have hG := hC.2.1
  induction k with
  | zero => exact ⟨Int.le_refl 0, Int.le_refl 0⟩
  | succ k ih => rw [aE]; have := cB6_b (enb c F0 b k) (c 6 1).toNat; omega
theorem m_allEnvies (h : RM z c F0 F1 b) : ∃ w, fn_X12_allEnvies z = some (iI (aE c F0 b (c 6 1).toNat), w) := by
  have hG := h.1.2.1
  obtain ⟨m, s, Ms, hm⟩ := loopE (fun m g s => fn_X12_allEnvies_4 m (iI (aE c F0 b g)) (iI (g : Int)) s) (fun g s => RM s c F0 F1 b) (c 6 1).toNat (by omega) z h (fun g m s hg Ms => by
    obtain ⟨m2, t, Mt, hm2⟩ := loopE (fun m2 o t => fn_X12_allEnvies_14 (fn_X12_allEnvies_4 m) m2 (iI (aE c F0 b g + cB6 (enb c F0 b g) o)) (iI (g : Int)) (iI (o : Int)) t) (fun o t => RM t c F0 F1 b) (c 6 1).toNat (by omega) s Ms (fun o m2 t ho Mt => by
      obtain ⟨u, e⟩ := m_isEnvied (g := g) (o := o) Mt (by omega) (by omega)
      have fu' : ∀ a j, a ≠ 184 → a ≠ 182 → SA t u a j := fun a j q1 q2 => ff_X12_isEnvied (by show ¬ a = 184 ∧ ¬ a = 182; exact ⟨q1, q2⟩) e
      show ∃ s', _ ∧ fn_X12_allEnvies_14 _ (m2 + 1) _ _ _ _ = fn_X12_allEnvies_14 _ m2 _ _ _ _
      rw [fn_X12_allEnvies_14, Mt.2.2.2.2.1.2.1, if_neg (nle (by omega) (by omega) (by omega)), bd_o e, cB6]
      refine ⟨u, Mt.wfr fu', ?_⟩
      by_cases he : enb c F0 b g o = true
      · rw [tr_1 he, bd_o m_truthI1, nm_o, k1, if_pos he, iI_add, Int.add_assoc]
      · rw [tr_n he, bd_o m_truthI0, nm_o, k1, if_neg he, iI_add, Int.add_zero, Int.add_zero])
    refine ⟨t, Mt, ?_⟩
    show fn_X12_allEnvies_4 (m + 1) _ _ _ = fn_X12_allEnvies_4 m _ _ _
    rw [fn_X12_allEnvies_4, Ms.2.2.2.2.1.2.1, if_neg (nle (by omega) (by omega) (by omega))]
    refine (show _ = fn_X12_allEnvies_14 (fn_X12_allEnvies_4 m) fu (iI (aE c F0 b g + cB6 (enb c F0 b g) 0)) (iI (g : Int)) (iI ((0 : Nat) : Int)) s from by rw [z0, cB6, Int.add_zero]).trans (hm2.trans ?_)
    show fn_X12_allEnvies_14 _ (m2 + 1) _ _ _ _ = _
    rw [fn_X12_allEnvies_14, Mt.2.2.2.2.1.2.1, if_pos (yle (by omega) (by omega) (by omega)), k1, aE])
  unfold fn_X12_allEnvies
  refine ⟨s, (show _ = fn_X12_allEnvies_4 fu (iI 0) (iI ((0 : Nat) : Int)) z from by rw [z0, ← q_0]).trans (hm.trans ?_)⟩
  show fn_X12_allEnvies_4 (m + 1) _ _ _ = _
  rw [fn_X12_allEnvies_4, Ms.2.2.2.2.1.2.1, if_pos (yle (by omega) (by omega) (by omega))]
theorem s_quarrel (h : RD z c F0 F1 b) : Same fn_X11_quarrel fn_X12_quarrel z := by
  have hC := h.vc
  have hG := hC.2.1
  refine qry (iI (aE c F0 b (c 6 1).toNat)) h (fun z h => ?_) (fun z w e a k h => ff_X11_quarrel (by unfold PS at h; show ¬ a = 144 ∧ ¬ a = 13; omega) e) (fun z h => ?_) (fun z w e a k h => ff_X12_quarrel (by unfold PS at h; show ¬ a = 198 ∧ ¬ a = 184 ∧ ¬ a = 182; omega) e)
  · obtain ⟨m, s, Ms, hm⟩ := loopE (fun m g s => fn_X11_quarrel_4 m (iI (aE c F0 b g)) (iI (g : Int)) s) (fun g s => RXs s c F0 F1 b) (c 6 1).toNat (by omega) z h.xs (fun g m s hg Ms => by
      obtain ⟨u, e⟩ := x_enviedBy (g := g) Ms (by omega)
      have fu' : ∀ a j, a ≠ 144 → a ≠ 13 → SA s u a j := fun a j q1 q2 => ff_X10_enviedBy (by show ¬ a = 144 ∧ ¬ a = 13; exact ⟨q1, q2⟩) e
      refine ⟨u, Ms.tfr fu', ?_⟩
      show fn_X11_quarrel_4 (m + 1) _ _ _ = fn_X11_quarrel_4 m _ _ _
      rw [fn_X11_quarrel_4, Ms.2.2.2.2.1.2.1, if_neg (nle (by omega) (by omega) (by omega)), bd_o e, bd_o (bitc_orf _ (by omega)), nm_o, k1, iI_add, aE])
    unfold fn_X11_quarrel
    refine ⟨s, (show _ = fn_X11_quarrel_4 fu (iI 0) (iI ((0 : Nat) : Int)) z from by rw [z0, ← q_0]).trans (hm.trans ?_)⟩
    show fn_X11_quarrel_4 (m + 1) _ _ _ = _
    rw [fn_X11_quarrel_4, Ms.2.2.2.2.1.2.1, if_pos (yle (by omega) (by omega) (by omega))]
  · obtain ⟨w, e⟩ := m_allEnvies h.ld
    unfold fn_X12_quarrel
    rw [bv_o (m_load z), bd_o e]
    exact ⟨w, rfl⟩
end
