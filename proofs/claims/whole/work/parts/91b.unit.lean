section
variable {z w : St} {T : Nat → Int} {n s q f u v L a : Nat} {σ : List Int} {o : SL}
theorem ct_np (l : List Int) : ct l ≤ np l := by
  induction l with
  | nil => exact Nat.le_refl 0
  | cons x l ih =>
    show (if x = 21 then ct l + 1 else 0) ≤ np l + (if x = 20 then 0 else 1)
    by_cases e : x = 21
    · rw [if_pos e, if_neg (by omega)]; omega
    · rw [if_neg e]; omega
/-- the reference's next unit is looked for; a not can't stand, or isn't there -/
theorem m_u53 (hT : VT T n) (hσ : ∀ x ∈ σ, vsE x) (h160 : σ.length ≤ 160) (hM : MSt w T n s f σ o u v) (hN : kw T n s ≠ 13 ∨ mnt σ = false) (k : Nat) : fn_X12_unit_2 (k + 1) 1 w = fn_X12_unit_53 (fn_X12_unit_2 k) 1 w := by
  obtain ⟨hX, hK, h0, hS⟩ := hM
  have e13 : fn_X12_isWord 7237492 w = some (iI (tr (kw T n s = 13)), w) := m_isWd hT hK 13 (by omega)
  rw [fn_X12_unit_2, if_neg (show ¬ (1 : Int32) = 0 from by decide), h0, if_pos rfl, bd_o e13]
  by_cases h : kw T n s = 13
  · rw [tr_1 h, if_neg (show ¬ iI 1 = 0 from by decide), bd_o (m_mayNot hS hσ h160), hN.resolve_left (fun a => a h), tr_n (by decide), if_pos (show iI 0 = 0 from q_0.symm)]
  · rw [tr_n h, if_pos (show iI 0 = 0 from q_0.symm)]
theorem m_full (hS : MS w f σ o u v) (hu : u ≤ 30) (hv : v ≤ 30) : fn_X12_isFull w = some (iI (tr (u = 30)), w) := by
  unfold fn_X12_isFull
  rw [hS.2.2.2.2.2.2, hS.2.2.2.2.2.1]
  by_cases h60 : u + v = 60
  · rw [if_pos (show iI ((u + v : Nat) : Int) = 60 from by rw [h60]; decide), tr_1 (by omega), q_1]
  · rw [if_neg (show ¬ iI ((u + v : Nat) : Int) = 60 from by rw [q_60]; exact neq (by omega) (by omega) (by omega))]
    by_cases h : u = 30
    · rw [if_pos (show iI (u : Int) = 30 from by rw [h]; decide), tr_1 h, q_1]
    · rw [if_neg (show ¬ iI (u : Int) = 30 from by rw [q_30]; exact neq (by omega) (by omega) (by omega)), tr_n h, q_0]
/-- something is opened: a bracket, a not -/
theorem m_open {x : Int} (hT : VT T n) (hs : s ≤ n) (hk : kx T n s = 1 ∨ kx T n s = 3) (hx : x = 20 ∨ x = 21) (hl : σ.length < 160) (ho : o.length ≤ 320) (hM : MSt w T n s f σ o u v) : ∃ w', fn_X12_openUp (iI x) w = some w' ∧ MSt w' T n (nx T n s) f (x :: σ) o u v ∧ ∀ a j, mFr f a j → SA w w' a j := by
  obtain ⟨hX, hK, h0, c1, c2, c3, c4, c5, c6, c7⟩ := hM
  unfold fn_X12_openUp
  rw [c3, gd_t (iI_ix (by omega)), nm_o, iI_clampN (by omega), nm_o, show (sI w 181 σ.length (iI x)).1 172 21 = iI (σ.length : Int) from c3, k1, nm_o]
  have e25 : (sI (sI w 181 σ.length (iI x)) 172 21 (iI ((σ.length + 1 : Nat) : Int))).1 172 25 = iI ((nb σ : Nat) : Int) := by rw [sI_at, if_neg (by omega)]; exact c5
  rw [e25, k1]
  generalize hw2 : sI (sI (sI w 181 σ.length (iI x)) 172 21 (iI ((σ.length + 1 : Nat) : Int))) 172 25 (iI ((nb σ + 1 : Nat) : Int)) = w2
  have k2 : ∀ a j, ¬ (a = 181 ∧ j = σ.length) → ¬ (a = 172 ∧ j = 21) → ¬ (a = 172 ∧ j = 25) → SA w w2 a j := fun a j q1 q2 q3 => ((sa_I rfl q1).tr (sa_I rfl q2)).tr (sa_I hw2.symm q3)
  have X2 : MTx w2 T n := hX.fr fun a j p => k2 a j (by omega) (by omega) (by omega)
  have K2 : MK w2 T n s := hK.fr fun j p => k2 172 j (by omega) (by omega) (by omega)
  have z2 : w2.1 172 2 = 0 := (k2 172 2 (by omega) (by omega) (by omega)).1.trans h0
  obtain ⟨w3, b1, b2⟩ := m_tok hT X2 hs K2 (by omega)
  have k3 : ∀ a j, ¬ (a = 172 ∧ j = 4) ∧ ¬ (a = 172 ∧ j = 6) ∧ ¬ (a = 172 ∧ j = 9) ∧ ¬ (a = 172 ∧ j = 8) ∧ ¬ (a = 172 ∧ j = 7) → SA w2 w3 a j := fun a j p => ff_X12_token p b1
  rw [z2, if_pos rfl, bv_o b1]
  refine ⟨w3, rfl, ⟨X2.fr fun a j p => k3 a j (by omega), b2, (k3 172 2 (by omega)).1.trans z2, ?_⟩, fun a j p => (k2 a j (by unfold mFr at p; omega) (by unfold mFr at p; omega) (by unfold mFr at p; omega)).tr (k3 a j (by unfold mFr at p; omega))⟩
  have hS2 : MS w2 f (x :: σ) o u v := by
    refine ⟨(k2 172 20 (by omega) (by omega) (by omega)).1.trans c1, c2.fr fun a j p => k2 a j (by omega) (by omega) (by omega), ?_, ⟨?_, c4.fr fun j hj => k2 181 j (by omega) (by omega) (by omega)⟩, ?_, (k2 172 24 (by omega) (by omega) (by omega)).1.trans c6, (k2 172 22 (by omega) (by omega) (by omega)).1.trans c7⟩
    · rw [← hw2, sI_at, if_neg (by omega), sI_at, if_pos rfl]; rfl
    · rw [← hw2, (sa_Ia (z := sI (sI w 181 σ.length (iI x)) 172 21 (iI ((σ.length + 1 : Nat) : Int))) (a := 181) (k := σ.length) rfl (by omega)).1, (sa_Ia (z := sI w 181 σ.length (iI x)) (a := 181) (k := σ.length) rfl (by omega)).1, sI_at, if_pos rfl]
    · rw [← hw2, sI_at, if_pos rfl]
      show _ = iI ((nb σ + (if x = 20 ∨ x = 21 then 1 else 0) : Nat) : Int)
      rw [if_pos hx]
  exact hS2.fr ho fun a j p => k3 a j (by unfold msF at p; omega)
/-- the same with a fault told: no token more -/
theorem m_openF {x : Int} {e : Int} (he : 1 ≤ e ∧ e ≤ 4) (h2 : w.1 172 2 = iI e) (hl : σ.length < 160) (h21 : w.1 172 21 = iI (σ.length : Int)) : ∃ w', fn_X12_openUp (iI x) w = some w' ∧ ∀ a j, ¬ a = 181 → ¬ (a = 172 ∧ (j = 21 ∨ j = 25)) → SA w w' a j := by
  unfold fn_X12_openUp
  rw [h21, gd_t (iI_ix (by omega)), nm_o, nm_o, nm_o]
  generalize iI x = vx
  generalize Int32.toNatClampNeg (iI (σ.length : Int)) = kk
  generalize (sI w 181 kk vx).1 172 21 + 1 = v2
  generalize (sI (sI w 181 kk vx) 172 21 v2).1 172 25 + 1 = v3
  refine ⟨sI (sI (sI w 181 kk vx) 172 21 v2) 172 25 v3, ?_, fun a j q1 q2 => ((sa_Ia rfl q1).tr (sa_I rfl (fun h => q2 ⟨h.1, Or.inl h.2⟩))).tr (sa_I rfl (fun h => q2 ⟨h.1, Or.inr h.2⟩))⟩
  rw [if_neg (fun hh => by
    rw [sI_at, if_neg (by omega), sI_at, if_neg (by omega), (sa_Ia (z := w) (a := 172) (k := 2) rfl (by omega)).1, h2, q_0] at hh
    exact absurd hh (neq (by omega) (by omega) (by omega)))]
theorem m_cnt (w : St) : fn_X12_countUnit w = some (sI (sI w 172 22 (w.1 172 22 + 1)) 172 24 (w.1 172 24 + 1)) := by
  unfold fn_X12_countUnit
  rw [nm_o, nm_o, show (sI w 172 22 (w.1 172 22 + 1)).1 172 24 = w.1 172 24 from by rw [sI_at, if_neg (by omega)]]
theorem m_cntS (hM : MSt w T n s f σ o u v) (ho : o.length ≤ 320) : ∃ w', fn_X12_countUnit w = some w' ∧ MSt w' T n s f σ o (u + 1) v ∧ ∀ a j, ¬ (a = 172 ∧ (j = 22 ∨ j = 24)) → SA w w' a j := by
  obtain ⟨hX, hK, h0, c1, c2, c3, c4, c5, c6, c7⟩ := hM
  rw [m_cnt]
  have k : ∀ a j, ¬ (a = 172 ∧ (j = 22 ∨ j = 24)) → SA w (sI (sI w 172 22 (w.1 172 22 + 1)) 172 24 (w.1 172 24 + 1)) a j := fun a j p => (sa_I rfl (by omega)).tr (sa_I rfl (by omega))
  refine ⟨_, rfl, ⟨hX.fr fun a j p => k a j (by omega), hK.fr fun j p => k 172 j (by omega), (k 172 2 (by omega)).1.trans h0, (k 172 20 (by omega)).1.trans c1, c2.fr fun a j p => k a j (by omega), (k 172 21 (by omega)).1.trans c3, c4.fr fun j _ => k 181 j (by omega), (k 172 25 (by omega)).1.trans c5, ?_, ?_⟩, k⟩
  · rw [sI_at, if_pos rfl, c6, k1]
  · rw [sI_at, if_neg (by omega), sI_at, if_pos rfl, c7, k1]
    congr 1
    omega
/-! one unit -/
theorem CL_unit {kE : Nat → Int32 → St → Option St} (hT : VT T n) (hq : q = 26 ∨ q = 29) (hf : f < 2) (hv : v ≤ 30) (hE : a ≤ 6 → CLm T n q f v 1 (a + 1) (kE q (iI ((a + 1 : Nat) : Int)))) : CLm T n q f v 7 a (fn_X6_unit kE q (iI (a : Int))) := by
  intro z s σ o d u hs hX hP hN hV hdu
  obtain ⟨h1, h2, h3, h4, h5, h6, h7⟩ := hP
  have hN := hN (by omega)
  have hn16 := hT.1
  have hcn := ct_np σ
  have hcb := ct_nb σ
  have hk4 := kx_4 T n s
  have hft := ft_b T n s
  have hσ160 : σ.length ≤ 60 := by omega
  obtain ⟨X1, X2, X3, X4, X5⟩ := id hX
  obtain ⟨zr, r1, r2, r3, r4⟩ := x_ref X3 X2
  have hbad : BadX q zr (ft T n s) (iI (s : Int)) := ⟨hft.1, by omega, r2, r3, o.length, by omega, (r4 q 2 (by omega)).1.trans X4.1⟩
  have frr : ∀ a j, xFr q a j → SA z zr a j := fun a j p => r4 a j (by unfold xFr at p; omega)
  have e40 : fn_X6_isSign 40 z = some (iI (tr (kx T n s = 3 ∧ T s = 40)), z) := by rw [q_40]; exact x_isSg hT X2 X3 (by omega)
  have ecnt : u < 30 → ∃ z5, fn_X2_countUnit q z = some (1, z5) ∧ XSt z5 T n s q o (u + 1) ∧ ∀ a j, ¬ (a = q ∧ j = 3) → SA z z5 a j := fun hu => by
    unfold fn_X2_countUnit
    rw [X5, q_30, if_pos (ylt (by omega) (by omega) (by omega)), nm_o, k1]
    exact ⟨_, rfl, ⟨X1.fr fun a j p => sa_I rfl (by omega), X2.fr fun j _ _ => sa_I rfl (by omega), (sa_I rfl (by omega)).1.trans X3, X4.fr fun a j p => sa_I rfl (by omega), by rw [sI_at, if_pos rfl]⟩, fun a j p => sa_I rfl p⟩
  have ecntN : u = 30 → fn_X2_countUnit q z = some (0, z) := fun hu => by
    unfold fn_X2_countUnit
    rw [X5, q_30, if_neg (nlt (by omega) (by omega) (by omega))]
  have e63 : fn_X6_unit_63 kE z = some zr := by unfold fn_X6_unit_63; rw [bv_o r1]
  unfold fn_X6_unit
  rw [bd_o e40, bd_o (x_plain X2)]
  by_cases hop : kx T n s = 3 ∧ T s = 40
  · -- a bracket
    have hsn := (kx_3 hop.1).1
    obtain ⟨hx1, hx2⟩ := nx_b T (n := n) hs
    have hx2 := hx2 (by omega)
    rw [tr_1 hop, if_neg (show ¬ iI 1 = 0 from by decide)]
    have m53 : ∀ (w : St) (k : Nat), MSt w T n s f σ o u v → fn_X12_unit_2 (k + 1) 1 w = (if u = 30 then fn_X12_unit_78 (fn_X12_unit_2 k) 1 w else if a ≤ 6 then fn_X12_unit_83 (fn_X12_unit_2 k) 1 w else fn_X12_unit_78 (fn_X12_unit_2 k) 1 w) := fun w k hM => by
      rw [m_u53 hT h1 (by omega) hM hN k]
      obtain ⟨hX, hK, h0, hS⟩ := hM
      unfold fn_X12_unit_53
      rw [hK.2.1, if_pos (show iI (tKs T n s) = 40 from by rw [(ks_c hT (by omega)).mpr hop]; exact q_40.symm), bd_o (m_full hS h7 hv), hS.2.2.2.2.1, h2]
      by_cases e30 : u = 30
      · rw [tr_1 e30, if_neg (show ¬ iI 1 = 0 from by decide), if_pos e30]
      · rw [tr_n e30, if_pos (show iI 0 = 0 from q_0.symm), if_neg e30]
        by_cases e6 : a ≤ 6
        · rw [if_pos (show iI (a : Int) ≤ 6 from by rw [q_6]; exact yle (by omega) (by omega) (by omega)), if_pos e6]
        · rw [if_neg (show ¬ iI (a : Int) ≤ 6 from by rw [q_6]; exact nle (by omega) (by omega) (by omega)), if_neg e6]
    by_cases hb : u = 30 ∨ ¬ a ≤ 6
    · -- it can't stand
      refine ⟨zr, ?_, frr, Or.inl ⟨ft T n s, iI (s : Int), hbad, fun w k m hM hk hm => ?_⟩⟩
      · by_cases e6 : a ≤ 6
        · rw [if_neg (show ¬ (6 : Int32) < iI (a : Int) from by rw [q_6]; exact nlt (by omega) (by omega) (by omega))]
          unfold fn_X6_unit_42
          rw [X3, if_pos rfl, if_neg (show ¬ (1 : Int32) = 0 from by decide), bd_o (ecntN (by omega)), if_pos rfl, e63]
        · rw [if_pos (show (6 : Int32) < iI (a : Int) from by rw [q_6]; exact ylt (by omega) (by omega) (by omega))]
          unfold fn_X6_unit_42
          rw [X3, if_pos rfl, if_pos rfl, e63]
      · obtain ⟨k, rfl⟩ : ∃ k', k = k' + 2 := ⟨k - 2, by omega⟩
        obtain ⟨m, rfl⟩ : ∃ m', m = m' + 1 := ⟨m - 1, by omega⟩
        have e78 : fn_X12_unit_2 (k + 2) 1 w = fn_X12_unit_78 (fn_X12_unit_2 (k + 1)) 1 w := by
          rw [m53 w (k + 1) hM]
          by_cases e30 : u = 30
          · rw [if_pos e30]
          · rw [if_neg e30, if_neg (hb.resolve_left e30)]
        obtain ⟨hX, hK, h0, hS⟩ := hM
        obtain ⟨w1, g1, g2, g3, g4⟩ := m_wrong2 hT h0 hK
        have hc := m_cnt w1
        generalize hw2 : sI (sI w1 172 22 (w1.1 172 22 + 1)) 172 24 (w1.1 172 24 + 1) = w2 at hc
        have k2 : ∀ a j, ¬ (a = 172 ∧ (j = 22 ∨ j = 24)) → SA w1 w2 a j := fun a j p => (sa_I rfl (by omega)).tr (sa_I hw2.symm (by omega))
        have f2 : w2.1 172 2 = iI (ft T n s) := (k2 172 2 (by omega)).1.trans g2
        obtain ⟨w3, c1, c2⟩ := m_openF (x := 20) (w := w2) (σ := σ) ⟨hft.1, by omega⟩ f2 (by omega) ((k2 172 21 (by omega)).1.trans ((g4 172 21 (by omega)).1.trans hS.2.2.1))
        have f3 : w3.1 172 2 = iI (ft T n s) := (c2 172 2 (by omega) (by omega)).1.trans f2
        refine ⟨w3, ?_, f3, (c2 172 3 (by omega) (by omega)).1.trans ((k2 172 3 (by omega)).1.trans g3), fun a j p => ((g4 a j (by unfold mFr at p; omega)).tr (k2 a j (by unfold mFr at p; omega))).tr (c2 a j (by unfold mFr at p; omega) (by unfold mFr at p; omega))⟩
        unfold mUf
        rw [e78]
        unfold fn_X12_unit_78 fn_X12_unit_83
        rw [bv_o g1, bv_o hc, q_20, bv_o c1, bv_o (mf_u2 ⟨hft.1, by omega⟩ f3 k 1)]
        exact mf_S ⟨hft.1, by omega⟩ f3 m
    · -- it stands
      have hu : u < 30 := by omega
      have e6 : a ≤ 6 := by omega
      obtain ⟨z5, a1, a2, a3⟩ := ecnt hu
      obtain ⟨z2, b1, b2, b3⟩ := a2.adv hT hs hq (by omega)
      have hpre : PreL 1 (a + 1) (20 :: σ) o (u + 1) := by
        refine ⟨fun x hx => ?_, ?_, by omega, Or.inl rfl, by show σ.length + 1 + 1 ≤ _; omega, ?_, by omega⟩
        · rcases List.mem_cons.mp hx with rfl | h
          · exact Or.inl rfl
          · exact h1 x h
        · show nb σ + (if (20 : Int) = 20 ∨ (20 : Int) = 21 then 1 else 0) = a + 1
          rw [if_pos (Or.inl rfl), h2]
        · show o.length + (np σ + (if (20 : Int) = 20 then 0 else 1)) ≤ 9 * (u + 1) + (if (20 : Int) = 21 then ct σ + 1 else 0)
          rw [if_pos rfl, if_neg (by omega)]
          omega
      obtain ⟨z4, c1, c2, c3⟩ := hE e6 z2 (nx T n s) (20 :: σ) o d (u + 1) hx1 b2 hpre (fun h => by omega) hV (by omega)
      have f24 : ∀ a j, xFr q a j → SA z z4 a j := fun a j p => ((a3 a j (by unfold xFr at p; omega)).tr (b3 a j p)).tr (c2 a j p)
      have mo : ∀ (w : St) (k m : Nat), MSt w T n s f σ o u v → n - s + 1 < k → ∃ k' w', k = k' + 1 ∧ n - nx T n s + 1 < k' ∧ mUf k m w = mUf k' m w' ∧ MSt w' T n (nx T n s) f (20 :: σ) o (u + 1) v ∧ ∀ a j, mFr f a j → SA w w' a j := fun w k m hM hk => by
        obtain ⟨k, rfl⟩ : ∃ k', k = k' + 1 := ⟨k - 1, by omega⟩
        obtain ⟨w1, g1, g2, g3⟩ := m_cntS hM (by omega)
        obtain ⟨w2, t1, t2, t3⟩ := m_open (x := 20) hT hs (by omega) (Or.inl rfl) (by omega) (by omega) g2
        refine ⟨k, w2, rfl, by omega, ?_, t2, fun a j p => (g3 a j (by unfold mFr at p; omega)).tr (t3 a j p)⟩
        unfold mUf
        rw [m53 w k hM, if_neg (by omega), if_pos e6]
        unfold fn_X12_unit_83
        rw [bv_o g1, q_20, bv_o t1]
      rw [if_neg (show ¬ (6 : Int32) < iI (a : Int) from by rw [q_6]; exact nlt (by omega) (by omega) (by omega))]
      unfold fn_X6_unit_42
      rw [X3, if_pos rfl, if_neg (show ¬ (1 : Int32) = 0 from by decide), bd_o a1, if_neg (show ¬ (1 : Int32) = 0 from by decide), if_neg (show ¬ iI 1 = 0 from by decide)]
      unfold fn_X6_unit_91
      rw [bv_o b1, if_neg (show ¬ iI 1 = 0 from by decide), k1, bv_o c1]
      rcases c3 with ⟨e, p, t1, t2⟩ | ⟨s', π, om, u', t1, t2, t3, t4, t5, t6, t7⟩
      · rw [bv_o (ef_exs t1.ne 41)]
        refine ⟨z4, rfl, f24, Or.inl ⟨e, p, t1, fun w k m hM hk hm => ?_⟩⟩
        obtain ⟨k', w', -, g1, g2, g3, g4⟩ := mo w k m hM hk
        obtain ⟨w'', y1, y2, y3, y4⟩ := t2 w' k' m g3 g1 (by omega)
        rw [g2]
        exact ⟨w'', y1, y2, y3, fun a j p => (g4 a j p).tr (y4 a j p)⟩
      · obtain ⟨p1, p2, p3, p4, p5⟩ := t6
        have hk4' := kx_4 T n s'
        have hft' := ft_b T n s'
        obtain ⟨x1, x2, x3, x4, x5⟩ := id t3
        have hall : ∀ x ∈ π ++ 20 :: σ, vsE x := fun x hx => by
          rcases List.mem_append.mp hx with h | h
          · exact (p1 x h).1
          · rcases List.mem_cons.mp h with rfl | h
            · exact Or.inl rfl
            · exact h1 x h
        have hπl : π.length ≤ 13 := by unfold plL at p2; split at p2 <;> omega
        have hlen : (π ++ 20 :: σ).length ≤ 150 := by rw [List.length_append]; show π.length + (σ.length + 1) ≤ 150; omega
        have hnp : np (π ++ 20 :: σ) = π.length + np σ := by
          rw [np_a, np_l fun x hx => (p1 x hx).2.1]
          show π.length + (np σ + (if (20 : Int) = 20 then 0 else 1)) = _
          rw [if_pos rfl]; rfl
        have hbr : hbk (π ++ 20 :: σ) (π ++ 20 :: σ).length = true := hbk_y (List.mem_append.mpr (Or.inr (List.mem_cons_self ..)))
        have hst : sg T n s' = 0 ∨ (tg (sg T n s') = 4 ∧ hrl (π ++ 20 :: σ) = true) := by
          rcases p5 with h | h | h
          · exact Or.inl h
          · have := tg_b (sg T n s'); omega
          · exact Or.inr h
        have hol : (om ++ fl π).length ≤ 272 := by rw [List.length_append, fl_len]; omega
        have e41 : fn_X6_isSign 41 z4 = some (iI (tr (kx T n s' = 3 ∧ T s' = 41)), z4) := by rw [q_41]; exact x_isSg hT x2 x3 (by omega)
        unfold fn_X6_expectSign
        rw [bd_o e41]
        by_cases h41 : kx T n s' = 3 ∧ T s' = 41
        · -- it is closed
          obtain ⟨hx1', hx2'⟩ := nx_b T (n := n) t2
          have hx2' := hx2' (by omega)
          obtain ⟨z6, d1, d2, d3⟩ := t3.adv hT t2 hq (by omega)
          rw [tr_1 h41, if_neg (show ¬ iI 1 = 0 from by decide), bv_o d1]
          refine ⟨z6, rfl, fun a j p => (f24 a j p).tr (d3 a j p), Or.inr ⟨nx T n s', [], om ++ fl π, u', by omega, hx1', ?_, ?_, by omega, ⟨fun x hx => absurd hx (by simp), by show 0 ≤ _; omega, ?_, p4, ?_⟩, fun w k m hM hk hm => ?_⟩⟩
          · show XSt z6 T n (nx T n s') q (om ++ fl π ++ []) u'; rw [List.append_nil]; exact d2
          · show Vo (om ++ fl π ++ []) (d + 1); rw [List.append_nil]; exact t4
          · rw [List.length_append, fl_len]; show om.length + π.length + np σ + 1 ≤ 9 * u'; omega
          · by_cases h0 : sg T n (nx T n s') = 0
            · exact Or.inl h0
            · exact Or.inr (Or.inl (by have := tg_b (sg T n (nx T n s')); omega))
          · obtain ⟨k', w', -, g1, g2, g3, g4⟩ := mo w k m hM hk
            obtain ⟨m', w4, y1, y2, y3, y4⟩ := t7 w' k' m g3 g1 (by omega)
            obtain ⟨m', rfl⟩ : ∃ m'', m' = m'' + 1 := ⟨m' - 1, by omega⟩
            obtain ⟨hX, hK, h0, hS⟩ := id y3
            obtain ⟨w5, i1, i2, i3⟩ := m_close (l := 0) (σ := 20 :: σ) (π := π) hf (by omega) (Or.inl rfl) (fun x hx => hall x (List.mem_append.mpr (Or.inr hx))) hS (fun x hx => ⟨(p1 x hx).1, (p1 x hx).2.1, by omega⟩) (by omega) (by omega)
            obtain ⟨j1, j2, j3, j4, j5, j6, j7⟩ := i2
            have j3' : w5.1 172 21 = iI ((σ.length + 1 : Nat) : Int) := j3
            have j5' : w5.1 172 25 = iI ((nb σ + 1 : Nat) : Int) := by
              rw [j5]
              show iI ((nb σ + (if (20 : Int) = 20 ∨ (20 : Int) = 21 then 1 else 0) : Nat) : Int) = _
              rw [if_pos (Or.inl rfl)]
            have eS : ∀ x : Nat, iI ((x + 1 : Nat) : Int) - 1 = iI (x : Int) := fun x => by rw [q_1, iI_sub]; congr 1; omega
            generalize hw6 : sI (sI w5 172 21 (iI (σ.length : Int))) 172 25 (iI ((nb σ : Nat) : Int)) = w6
            have k6 : ∀ a j, ¬ (a = 172 ∧ (j = 21 ∨ j = 25)) → SA w5 w6 a j := fun a j p => (sa_I rfl (by omega)).tr (sa_I hw6.symm (by omega))
            have k46 : ∀ a j, cFr f a j → SA w4 w6 a j := fun a j p => (i3 a j p).tr (k6 a j p.1)
            have X6 : MTx w6 T n := hX.fr fun a j p => k46 a j (by unfold cFr aFr; omega)
            have K6 : MK w6 T n s' := hK.fr fun j p => k46 172 j (by unfold cFr aFr; omega)
            obtain ⟨w7, o1, o2⟩ := m_tok hT X6 t2 K6 (by omega)
            have k7 : ∀ a j, ¬ (a = 172 ∧ j = 4) ∧ ¬ (a = 172 ∧ j = 6) ∧ ¬ (a = 172 ∧ j = 9) ∧ ¬ (a = 172 ∧ j = 8) ∧ ¬ (a = 172 ∧ j = 7) → SA w6 w7 a j := fun a j p => ff_X12_token p o1
            have hS6 : MS w6 f σ (om ++ fl π) u' v := ⟨(k6 172 20 (by omega)).1.trans j1, j2.fr fun a j p => k6 a j (by omega), by rw [← hw6, sI_at, if_neg (by omega), sI_at, if_pos rfl], j4.2.fr fun j _ => k6 181 j (by omega), by rw [← hw6, sI_at, if_pos rfl], (k6 172 24 (by omega)).1.trans j6, (k6 172 22 (by omega)).1.trans j7⟩
            refine ⟨m', w7, ?_, by omega, ⟨X6.fr fun a j p => k7 a j (by omega), o2, (k7 172 2 (by omega)).1.trans ((k46 172 2 (by unfold cFr aFr; omega)).1.trans h0), hS6.fr (by omega) fun a j p => k7 a j (by unfold msF at p; omega)⟩, fun a j p => ((g4 a j p).tr (y4 a j p)).tr ((k46 a j (by unfold mFr at p; unfold cFr; omega)).tr (k7 a j (by unfold mFr at p; omega)))⟩
            rw [g2, y1]
            unfold mSf
            rw [fn_X12_formula_50, if_neg (show ¬ (1 : Int32) = 0 from by decide), h0, if_pos rfl, bd_o (m_sg hT hK), hK.2.1, if_pos (show iI (tKs T n s') = 41 from by rw [(ks_c hT (by omega)).mpr h41]; exact q_41.symm), bd_o (m_hasBr hS hall (by omega)), tr_1 hbr, if_neg (show ¬ iI 1 = 0 from by decide), bv_o (show fn_X12_close 0 w4 = some w5 from by rw [← z0]; exact i1), nm_o, j3', eS, nm_o, show (sI w5 172 21 (iI (σ.length : Int))).1 172 25 = iI ((nb σ + 1 : Nat) : Int) from by rw [sI_at, if_neg (by omega)]; exact j5', eS, hw6, bv_o o1]
            rfl
        · -- it isn't
          obtain ⟨z6, d1, d2, d3, d4⟩ := x_ref x3 x2
          rw [tr_n h41, if_pos (show iI 0 = 0 from q_0.symm), bv_o d1]
          refine ⟨z6, rfl, fun a j p => (f24 a j p).tr (d4 a j (by unfold xFr at p; omega)), Or.inl ⟨ft T n s', iI (s' : Int), ⟨hft'.1, by omega, d2, d3, (om ++ fl π).length, hol, (d4 q 2 (by omega)).1.trans x4.1⟩, fun w k m hM hk hm => ?_⟩⟩
          obtain ⟨k', w', -, g1, g2, g3, g4⟩ := mo w k m hM hk
          obtain ⟨m', w4, y1, y2, y3, y4⟩ := t7 w' k' m g3 g1 (by omega)
          obtain ⟨m', rfl⟩ : ∃ m'', m' = m'' + 2 := ⟨m' - 2, by omega⟩
          rw [g2, y1, m_stop hT hall (by omega) y3 hst (Or.inl h41) m']
          obtain ⟨hX, hK, h0, hS⟩ := y3
          obtain ⟨w5, i1, i2, i3, i4⟩ := m_wrong2 hT h0 hK
          refine ⟨w5, ?_, i2, i3, fun a j p => ((g4 a j p).tr (y4 a j p)).tr (i4 a j (by unfold mFr at p; omega))⟩
          unfold fn_X12_formula_177 fn_X12_formula_196
          rw [h0, if_pos rfl, bd_o (m_hasBr hS hall (by omega)), tr_1 hbr, if_neg (show ¬ iI 1 = 0 from by decide), bv_o i1, i2, if_neg (show ¬ iI (ft T n s') = 0 from by rw [q_0]; exact neq (by omega) (by omega) (by omega))]
  · -- no bracket
    have hau := au_b T n s
    rw [tr_n hop, if_pos (show iI 0 = 0 from q_0.symm)]
    have m101 : ∀ (w : St) (k : Nat), MSt w T n s f σ o u v → fn_X12_unit_2 (k + 2) 1 w = fn_X12_unit_101 w := fun w k hM => by
      rw [m_u53 hT h1 (by omega) hM hN (k + 1)]
      obtain ⟨hX, hK, h0, hS⟩ := hM
      have hb := ks_b (s := s) hT
      unfold fn_X12_unit_53
      rw [hK.2.1, if_neg (show ¬ iI (tKs T n s) = 40 from by rw [q_40]; exact neq (by omega) (by omega) (fun e => hop ((ks_c hT (by omega)).mp e))), fn_X12_unit_2, if_pos rfl]
    have m126 : ∀ (w : St), MSt w T n s f σ o u v → fn_X12_unit_101 w = (if pu T n s = -1 then fn_X12_unit_133 (iI (au T n s)) w else if u = 30 then fn_X12_unit_133 (iI (au T n s)) w else fn_X12_unit_138 (iI (au T n s)) w) := fun w hM => by
      obtain ⟨hX, hK, h0, hS⟩ := hM
      have hb := ks_b (s := s) hT
      unfold fn_X12_unit_101 fn_X12_unit_126
      rw [h0, if_pos (show (0 : Int32) ≤ 0 from by decide), bd_o (m_ask hT hK), hK.2.1, bd_o (m_full hS h7 hv)]
      have e126 : (if iI (tr (u = 30)) = 0 then fn_X12_unit_138 (iI (au T n s)) w else fn_X12_unit_133 (iI (au T n s)) w) = (if u = 30 then fn_X12_unit_133 (iI (au T n s)) w else fn_X12_unit_138 (iI (au T n s)) w) := by
        by_cases e30 : u = 30
        · rw [tr_1 e30, if_neg (show ¬ iI 1 = 0 from by decide), if_pos e30]
        · rw [tr_n e30, if_pos (show iI 0 = 0 from q_0.symm), if_neg e30]
      rw [e126]
      unfold pu
      by_cases e2 : kx T n s = 2
      · rw [if_pos (show iI (tKs T n s) = 2 from by rw [(ks_s hT (Or.inr rfl)).mpr (by omega)]; exact q_2.symm), if_pos e2, if_neg (show ¬ (0 : Int) = -1 from by omega)]
      · rw [if_neg (show ¬ iI (tKs T n s) = 2 from by rw [q_2]; exact neq (by omega) (by omega) (fun e => e2 (by have := (ks_s hT (Or.inr rfl)).mp e; omega))), if_neg e2]
        by_cases ea : au T n s < 0
        · rw [if_pos (show iI (au T n s) < 0 from by rw [q_0]; exact ylt (by omega) (by omega) ea), if_pos ea, if_pos rfl]
        · rw [if_neg (show ¬ iI (au T n s) < 0 from by rw [q_0]; exact nlt (by omega) (by omega) ea), if_neg ea, if_neg (show ¬ au T n s + 1 = -1 from by omega)]
    have hpu : -1 ≤ pu T n s ∧ pu T n s ≤ 6 := by unfold pu; split; omega; split <;> omega
    by_cases hb : pu T n s = -1 ∨ u = 30
    · -- it can't stand
      refine ⟨zr, ?_, frr, Or.inl ⟨ft T n s, iI (s : Int), hbad, fun w k m hM hk hm => ?_⟩⟩
      · by_cases ep : pu T n s = -1
        · rw [if_pos (show iI (pu T n s) = -1 from by rw [ep]; exact q_m1.symm)]
          unfold fn_X6_unit_42
          rw [X3, if_pos rfl, if_pos rfl, e63]
        · rw [if_neg (show ¬ iI (pu T n s) = -1 from by rw [q_m1]; exact neq (by omega) (by omega) ep)]
          unfold fn_X6_unit_42
          rw [X3, if_pos rfl, if_neg (show ¬ (1 : Int32) = 0 from by decide), bd_o (ecntN (hb.resolve_left ep)), if_pos rfl, e63]
      · obtain ⟨k, rfl⟩ : ∃ k', k = k' + 2 := ⟨k - 2, by omega⟩
        obtain ⟨m, rfl⟩ : ∃ m', m = m' + 1 := ⟨m - 1, by omega⟩
        have e133 : fn_X12_unit_2 (k + 2) 1 w = fn_X12_unit_133 (iI (au T n s)) w := by
          rw [m101 w k hM, m126 w hM]
          by_cases ep : pu T n s = -1
          · rw [if_pos ep]
          · rw [if_neg ep, if_pos (hb.resolve_left ep)]
        obtain ⟨hX, hK, h0, hS⟩ := hM
        obtain ⟨w1, g1, g2, g3, g4⟩ := m_wrong2 hT h0 hK
        refine ⟨w1, ?_, g2, g3, fun a j p => g4 a j (by unfold mFr at p; omega)⟩
        unfold mUf
        rw [e133]
        unfold fn_X12_unit_133 fn_X12_unit_138
        rw [bv_o g1, g2, if_neg (show ¬ iI (ft T n s) ≤ 0 from by rw [q_0]; exact nle (by omega) (by omega) (by omega))]
        exact mf_S ⟨hft.1, by omega⟩ g2 m
    · -- it stands
      have ep : ¬ pu T n s = -1 := fun e => hb (Or.inl e)
      have hu : u < 30 := by omega
      have hk12 : kx T n s = 1 ∨ kx T n s = 2 := by
        by_cases e2 : kx T n s = 2
        · exact Or.inr e2
        · refine Or.inl (au_1 ?_)
          unfold pu at ep
          rw [if_neg e2] at ep
          by_cases ea : au T n s < 0
          · rw [if_pos ea] at ep; exact absurd rfl ep
          · omega
      obtain ⟨hx1, hx2⟩ := nx_b T (n := n) hs
      have hx2 := hx2 (by omega)
      obtain ⟨z5, a1, a2, a3⟩ := ecnt hu
      obtain ⟨y1, y2, y3, y4, y5⟩ := id a2
      -- the step
      obtain ⟨kk, aa, hst⟩ : ∃ (kk : Nat) (aa : Int), (kk = 0 ∧ kx T n s = 2 ∧ aa = nv T s (de T n s - s) ∧ au T n s = -1) ∨ (kk = 1 ∧ ¬ kx T n s = 2 ∧ aa = au T n s ∧ 0 ≤ au T n s) := by
        by_cases e2 : kx T n s = 2
        · refine ⟨0, nv T s (de T n s - s), Or.inl ⟨rfl, e2, rfl, ?_⟩⟩
          rcases Int.lt_or_le (au T n s) 0 with h | h
          · omega
          · have := au_1 h; omega
        · refine ⟨1, au T n s, Or.inr ⟨rfl, e2, rfl, ?_⟩⟩
          unfold pu at ep
          rw [if_neg e2] at ep
          by_cases ea : au T n s < 0
          · rw [if_pos ea] at ep; exact absurd rfl ep
          · omega
      have hvs : VSp kk aa d := by
        rcases hst with ⟨rfl, e2, rfl, -⟩ | ⟨rfl, e2, rfl, h0⟩
        · obtain ⟨g1, -, g3, g4⟩ := kx_2 e2
          have hd := de_p T (n := n) (s := s) hs
          have := nv_b (T := T) (s := s) (k := de T n s - s) fun j hj => (pD_i (hd.2.2.2 (s + j) (by omega) (by omega))).2
          have p10 : 10 ^ (de T n s - s) ≤ 10 ^ 4 := Nat.pow_le_pow_right (by omega) (by omega)
          have e10 : 10 ^ 4 = 10000 := by decide
          exact Or.inl ⟨rfl, this.1, by omega⟩
        · exact Or.inr (Or.inl ⟨rfl, h0, by omega⟩)
      obtain ⟨z6, b1, b2, b3⟩ := x_addO y4 (show o.length < 272 from by omega) (k := kk) (a := aa) (d := d) hvs
      have X6 : XSt z6 T n s q (o ++ [(kk, aa)]) (u + 1) := ⟨y1.fr fun a j p => b3 a j (by omega) (by omega), y2.fr fun j _ _ => b3 32 j (by omega) (by omega), (b3 32 11 (by omega) (by omega)).1.trans y3, b2, (b3 q 3 (by omega) (by omega)).1.trans y5⟩
      obtain ⟨z7, c1, c2, c3⟩ := X6.adv hT hs hq (by omega)
      have hV7 : Vo (o ++ [(kk, aa)]) (d + 1) := by
        have := Vo_s (x := (kk, aa)) hV (by omega) hvs
        rw [if_pos (show (kk, aa).1 ≤ 1 from by show kk ≤ 1; omega)] at this
        exact this
      refine ⟨z7, ?_, fun a j p => ((a3 a j (by unfold xFr at p; omega)).tr (b3 a j (by unfold xFr at p; omega) (by unfold xFr at p; omega))).tr (c3 a j p), Or.inr ⟨nx T n s, [], o ++ [(kk, aa)], u + 1, hx2, hx1, ?_, ?_, by omega, ⟨fun x hx => absurd hx (by simp), by show 0 ≤ _; omega, ?_, by omega, ?_⟩, fun w k m hM hk hm => ?_⟩⟩
      · rw [if_neg (show ¬ iI (pu T n s) = -1 from by rw [q_m1]; exact neq (by omega) (by omega) ep)]
        unfold fn_X6_unit_42
        rw [X3, if_pos rfl, if_neg (show ¬ (1 : Int32) = 0 from by decide), bd_o a1, if_neg (show ¬ (1 : Int32) = 0 from by decide), if_pos (show iI 0 = 0 from q_0.symm)]
        have e91 : fn_X6_unit_91 kE q (iI (a : Int)) (iI 0) z6 = some z7 := by
          unfold fn_X6_unit_91
          rw [bv_o c1, if_pos (show iI 0 = 0 from q_0.symm)]
        rcases hst with ⟨rfl, e2, rfl, -⟩ | ⟨rfl, e2, rfl, h0⟩
        · have ep0 : pu T n s = 0 := by unfold pu; rw [if_pos e2]
          rw [ep0, if_pos (show iI 0 = 0 from q_0.symm), y2.2.2.2.2.1 e2]
          unfold fn_X6_unit_88
          rw [xsp_0, if_pos rfl] at b1
          rw [bv_o b1, e91]
        · have ep1 : pu T n s = au T n s + 1 := by unfold pu; rw [if_neg e2, if_neg (by omega)]
          rw [ep1, if_neg (show ¬ iI (au T n s + 1) = 0 from by rw [q_0]; exact neq (by omega) (by omega) (by omega))]
          unfold fn_X6_unit_88
          rw [xsp_1, if_neg (show ¬ (1 : Nat) = 0 from by omega), ← q_0] at b1
          rw [bv_o b1, e91]
      · show XSt z7 T n (nx T n s) q (o ++ [(kk, aa)] ++ []) (u + 1); rw [List.append_nil]; exact c2
      · show Vo (o ++ [(kk, aa)] ++ []) (d + 1); rw [List.append_nil]; exact hV7
      · rw [len_s]; show o.length + 1 + np σ + 1 ≤ 9 * (u + 1); omega
      · by_cases h0 : sg T n (nx T n s) = 0
        · exact Or.inl h0
        · exact Or.inr (Or.inl (by have := tg_b (sg T n (nx T n s)); omega))
      · obtain ⟨k, rfl⟩ : ∃ k', k = k' + 2 := ⟨k - 2, by omega⟩
        have e138 : fn_X12_unit_2 (k + 2) 1 w = fn_X12_unit_138 (iI (au T n s)) w := by rw [m101 w k hM, m126 w hM, if_neg ep, if_neg (by omega)]
        obtain ⟨w1, g1, g2, g3⟩ := m_cntS hM (by omega)
        obtain ⟨hX, hK, h0, hS⟩ := id g2
        obtain ⟨w2, i1, i2, i3⟩ := m_addO hf hS.1 hS.2.1 (by omega) kk aa
        have K2 : MK w2 T n s := hK.fr fun j p => i3 172 j (by unfold aFr; omega)
        have X2' : MTx w2 T n := hX.fr fun a j p => i3 a j (by unfold aFr; omega)
        obtain ⟨w3, o1, o2⟩ := m_tok hT X2' hs K2 (by omega)
        have k3 : ∀ a j, ¬ (a = 172 ∧ j = 4) ∧ ¬ (a = 172 ∧ j = 6) ∧ ¬ (a = 172 ∧ j = 9) ∧ ¬ (a = 172 ∧ j = 8) ∧ ¬ (a = 172 ∧ j = 7) → SA w2 w3 a j := fun a j p => ff_X12_token p o1
        obtain ⟨j1, j2, j3, j4, j5, j6, j7⟩ := hS
        have hS2 : MS w2 f σ (o ++ [(kk, aa)]) (u + 1) v := ⟨(i3 172 20 (by unfold aFr; omega)).1.trans j1, i2, (i3 172 21 (by unfold aFr; omega)).1.trans j3, j4.fr fun j _ => i3 181 j (by unfold aFr; omega), (i3 172 25 (by unfold aFr; omega)).1.trans j5, (i3 172 24 (by unfold aFr; omega)).1.trans j6, (i3 172 22 (by unfold aFr; omega)).1.trans j7⟩
        refine ⟨m, w3, ?_, by omega, ⟨X2'.fr fun a j p => k3 a j (by omega), o2, (k3 172 2 (by omega)).1.trans ((i3 172 2 (by unfold aFr; omega)).1.trans h0), hS2.fr (by rw [len_s]; omega) fun a j p => k3 a j (by unfold msF at p; omega)⟩, fun a j p => ((g3 a j (by unfold mFr at p; omega)).tr (i3 a j p.2.2)).tr (k3 a j (by unfold mFr at p; omega))⟩
        have e172 : fn_X12_unit_172 (iI (kk : Int)) (iI aa) w1 = some w3 := by
          unfold fn_X12_unit_172
          rw [bv_o i1, bv_o o1]
        have e0 : fn_X12_unit_138 (iI (au T n s)) w = some w3 := by
          unfold fn_X12_unit_138 fn_X12_unit_160
          rw [hM.2.2.1, if_pos (show (0 : Int32) ≤ 0 from by decide), bv_o g1]
          rcases hst with ⟨rfl, e2, rfl, ea⟩ | ⟨rfl, e2, rfl, ea⟩
          · rw [if_neg (show ¬ 0 ≤ iI (au T n s) from by rw [ea]; decide), if_neg (show ¬ 0 ≤ iI (au T n s) from by rw [ea]; decide), hK.2.2.2.2 e2, ← z0]
            exact e172
          · rw [if_pos (show 0 ≤ iI (au T n s) from by rw [q_0]; exact yle (by omega) (by omega) (by omega)), if_pos (show 0 ≤ iI (au T n s) from by rw [q_0]; exact yle (by omega) (by omega) (by omega)), q_1]
            exact e172
        unfold mUf mSf
        rw [e138, bv_o e0]
end
