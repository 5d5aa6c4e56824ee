section
variable {z w : St} {c : RC} {F0 F1 : FO} {b : BD}
/-- x's rows of pairs -/
def GX (C R : Nat) (s : St) (l : List (Nat × Nat)) : Prop := s.1 162 10 = iI (l.length : Int) ∧ ∀ (i p q : Nat), l[i]? = some (p, q) → s.1 168 i = iI (p : Int) ∧ s.1 169 i = iI (q : Int) ∧ s.2 170 i = isI (C / p) (R / q) p q p
def gFr (a k : Nat) : Prop := a ≠ 168 ∧ a ≠ 169 ∧ a ≠ 170 ∧ ¬ (a = 162 ∧ k = 10)
theorem x_gather {C R n : Nat} {sg : SG} {k : Int} (hV : VS n sg) (hX : XSg z n sg) (hk : -2147483648 ≤ k ∧ k < 2147483648) (e0 : ∃ T : Int, 1 ≤ T ∧ T ≤ 3 ∧ z.1 2 0 = iI T) (e1 : z.1 4 0 = iI (C : Int)) (e2 : z.1 5 0 = iI (R : Int)) (hC : 1 ≤ C ∧ C ≤ 8) (hR : 1 ≤ R ∧ R ≤ 8) : ∃ w, fn_X4_gather (iI k) z = some (iI ((LI (fitb C R n sg k) 8).length : Int), w) ∧ GX C R w (LI (fitb C R n sg k) 8) := by
  obtain ⟨T, t1, t2, t3⟩ := e0
  generalize hP : fitb C R n sg k = P
  have hPg : ∀ p q, P p q = true → gok C R p q = true := fun p q h => by
    rw [← hP] at h; exact ((Bool.and_eq_true _ _).mp h).1
  have nP : ∀ p q, (C < p ∨ R < q) → P p q = false := fun p q h => Bool.eq_false_iff.mpr fun e => by
    have := of_decide_eq_true (hPg p q e); omega
  have keepS : ∀ s, (∀ a j, gFr a j → SA z s a j) → XSg s n sg := fun s hs => ⟨(hs 162 11 (by unfold gFr; omega)).1.trans hX.1, fun i hi f hf => (hs (163 + f) i (by unfold gFr; omega)).1.trans (hX.2 i hi f hf)⟩
  obtain ⟨m, s, ⟨i1, i2⟩, hm⟩ := loopE (fun m p s => fn_X4_gather_43 m (iI k) (iI (C : Int)) (iI (R : Int)) (iI ((p + 1 : Nat) : Int)) s) (fun p s => GX C R s (LI P p) ∧ ∀ a j, gFr a j → SA z s a j) C (by omega) (sI z 162 10 0) ⟨⟨by rw [sI_at, if_pos rfl]; exact q_0, fun i p q h => by simp [LI] at h⟩, fun a j h => sa_I rfl (by unfold gFr at h; omega)⟩ (fun p m s hp ⟨i1, i2⟩ => by
    obtain ⟨m2, s2, ⟨j1, j2⟩, hm2⟩ := loopE (fun m2 q s => fn_X4_gather_52 (fn_X4_gather_43 m) m2 (iI k) (iI (C : Int)) (iI (R : Int)) (iI ((p + 1 : Nat) : Int)) (iI ((q + 1 : Nat) : Int)) s) (fun q s => GX C R s (LJ P (p + 1) (LI P p) q) ∧ ∀ a j, gFr a j → SA z s a j) R (by omega) s ⟨i1, i2⟩ (fun q m2 s hq ⟨j1, j2⟩ => by
      show ∃ s', _ ∧ fn_X4_gather_52 _ (m2 + 1) _ _ _ _ _ _ = fn_X4_gather_52 _ m2 _ _ _ _ _ _
      rw [fn_X4_gather_52, if_neg (nlt (by omega) (by omega) (by omega)), bd_o (x_canBe (by omega) (by omega) (by omega) (by omega)), LJ]
      unfold fn_X4_gather_164
      rw [k1]
      by_cases hg : gok C R (p + 1) (q + 1) = true
      · have h16 := fit16 hPg hC.2 hR.2 (show p < 8 from by omega) (show q < 8 from by omega) hg
        rw [tr_1 hg, if_neg (show ¬ iI 1 = 0 from by decide), bd_o (x_icingSet hC.2 hR.2 hg), gd_t (ne0 (by omega)), gd_t (ne0 (by omega)), nm_o, ndiv (by omega) (by omega), ndiv (by omega) (by omega), iI_mul, ← Int.natCast_mul, j1.1, if_neg (show ¬ (16 : Int32) ≤ iI ((LJ P (p + 1) (LI P p) q).length : Int) from by rw [q_16]; exact nle (by omega) (by omega) (by omega)), bd_o (x_agrees hV (keepS s j2) hk hC.2 hR.2 hg)]
        have hPe : P (p + 1) (q + 1) = alla (agr C R sg k (p + 1) (q + 1)) n := by rw [← hP]; unfold fitb; rw [hg, Bool.true_and]
        by_cases ha : alla (agr C R sg k (p + 1) (q + 1)) n = true
        · obtain ⟨L, hL⟩ : ∃ L, (LJ P (p + 1) (LI P p) q).length = L := ⟨_, rfl⟩
          have g0 : ∀ x : Option (Int32 × St), gd (ix (iI (L : Int)) 16) x = x := fun x => gd_t (iI_ix (by omega))
          rw [tr_1 ha, if_neg (show ¬ iI 1 = 0 from by decide), if_pos (show P (p + 1) (q + 1) = true from hPe.trans ha)]
          have r1 : ∀ (y : St) (a k : Nat) (v : Int32), a ≠ 162 → (sI y a k v).1 162 10 = y.1 162 10 := fun y a k v h => (sa_Ia rfl (fun q => h q.symm)).1
          have r2 : ∀ (y : St) (a k : Nat) (v : Int64), (sJ y a k v).1 = y.1 := fun y a k v => rfl
          simp only [j1.1, hL, g0, nm_o, r1 _ 168 _ _ (by omega), r1 _ 169 _ _ (by omega), r2, iI_clampN (show L < 2147483648 from by omega), k1]
          refine ⟨_, ⟨⟨?_, fun i a d h => ?_⟩, fun a j h => ?_⟩, rfl⟩
          · rw [sI_at, if_pos rfl, List.length_append, hL]; rfl
          · by_cases hi : i = L
            · subst hi
              rw [List.getElem?_append_right (by omega), hL, Nat.sub_self] at h
              obtain ⟨rfl, rfl⟩ : p + 1 = a ∧ q + 1 = d := by simpa using h
              simp [sI, sJ]
            · have hlt : i < L := by
                have := (List.getElem?_eq_some_iff.mp h).1
                rw [List.length_append, hL] at this
                simp at this
                omega
              rw [List.getElem?_append_left (by omega)] at h
              have := j1.2 i a d h
              simp [sI, sJ, hi, this]
          · refine (j2 a j h).tr ?_
            unfold gFr at h
            exact (((sa_Ia rfl (by omega)).tr (sa_Ia rfl (by omega))).tr (sa_Ja rfl (by omega))).tr (sa_I rfl (by omega))
        · rw [tr_n ha, if_pos (show iI 0 = 0 from q_0.symm), if_neg (fun e => ha (hPe.symm.trans e))]
          exact ⟨s, ⟨j1, j2⟩, rfl⟩
      · rw [tr_n hg, if_pos (show iI 0 = 0 from q_0.symm), if_neg (fun e => hg (hPg _ _ e))]
        exact ⟨s, ⟨j1, j2⟩, rfl⟩)
    refine ⟨s2, ⟨?_, j2⟩, ?_⟩
    · rw [LI, LJ_top (fun q hq => nP (p + 1) q (Or.inr hq)) 8 (by omega)]; exact j1
    · show fn_X4_gather_43 (m + 1) _ _ _ _ _ = fn_X4_gather_43 m _ _ _ _ _
      rw [fn_X4_gather_43, if_neg (nlt (by omega) (by omega) (by omega))]
      refine (show _ = fn_X4_gather_52 (fn_X4_gather_43 m) fu (iI k) (iI (C : Int)) (iI (R : Int)) (iI ((p + 1 : Nat) : Int)) (iI ((0 + 1 : Nat) : Int)) s from by rw [show iI ((0 + 1 : Nat) : Int) = 1 from q_1.symm]).trans (hm2.trans ?_)
      show fn_X4_gather_52 _ (m2 + 1) _ _ _ _ _ _ = _
      rw [fn_X4_gather_52, if_pos (ylt (by omega) (by omega) (by omega)), k1])
  rw [LI_top (fun p q hp => nP p q (Or.inl hp)) 8 hC.2]
  refine ⟨s, ?_, i1⟩
  unfold fn_X4_gather
  rw [nm_o, c_0, show (sI z 162 10 0).1 2 0 = iI T from t3, if_neg (i0_ne (by omega) (by omega)), nm_o, nm_o, show (sI z 162 10 0).1 4 0 = iI (C : Int) from e1, show (sI z 162 10 0).1 5 0 = iI (R : Int) from e2]
  refine (show _ = fn_X4_gather_43 fu (iI k) (iI (C : Int)) (iI (R : Int)) (iI ((0 + 1 : Nat) : Int)) (sI z 162 10 0) from by rw [show iI ((0 + 1 : Nat) : Int) = 1 from q_1.symm]).trans (hm.trans ?_)
  show fn_X4_gather_43 (m + 1) _ _ _ _ _ = _
  rw [fn_X4_gather_43, if_pos (ylt (by omega) (by omega) (by omega)), i1.1]
/-! the reference counts them -/
theorem LI_16 {C R n : Nat} {sg : SG} {k : Int} (hC : C ≤ 8) (hR : R ≤ 8) : (LI (fitb C R n sg k) 8).length ≤ 16 := Nat.le_trans (LI_len (Q := gok C R) (fun p q h => ((Bool.and_eq_true _ _).mp h).1) 8) (gok16 hC hR)
theorem m_fits {C R n : Nat} {sg : SG} {k : Int} (hV : VS n sg) (hM : MSg z n sg) (hk : -2147483648 ≤ k ∧ k < 2147483648) (e0 : ∃ T : Int, 1 ≤ T ∧ T ≤ 3 ∧ z.1 172 43 = iI T) (e1 : z.1 188 0 = iI (C : Int)) (e2 : z.1 189 0 = iI (R : Int)) (hC : 1 ≤ C ∧ C ≤ 8) (hR : 1 ≤ R ∧ R ≤ 8) : fn_X12_fits (iI k) z = some (iI ((LI (fitb C R n sg k) 8).length : Int), z) := by
  obtain ⟨m, hm⟩ := loopK (fun m p => fn_X12_fits_4 m (iI k) (iI ((LI (fitb C R n sg k) p).length : Int)) (iI ((p + 1 : Nat) : Int)) z) 8 (by omega) (fun p m hp => by
    show fn_X12_fits_4 (m + 1) _ _ _ _ = fn_X12_fits_4 m _ _ _ _
    rw [fn_X12_fits_4, if_neg (by rw [q_8]; exact nlt (by omega) (by omega) (by omega))]
    obtain ⟨m2, hm2⟩ := loopK (fun m2 q => fn_X12_fits_13 (fn_X12_fits_4 m) m2 (iI k) (iI ((LJ (fitb C R n sg k) (p + 1) (LI (fitb C R n sg k) p) q).length : Int)) (iI ((p + 1 : Nat) : Int)) (iI ((q + 1 : Nat) : Int)) z) 8 (by omega) (fun q m2 hq => by
      show fn_X12_fits_13 _ (m2 + 1) _ _ _ _ _ = fn_X12_fits_13 _ m2 _ _ _ _ _
      rw [fn_X12_fits_13, if_neg (by rw [q_8]; exact nlt (by omega) (by omega) (by omega)), bd_o (m_isFit hV hM hk e0 e1 e2 hC hR (by omega) (by omega)), LJ, k1]
      by_cases h : fitb C R n sg k (p + 1) (q + 1) = true
      · rw [tr_1 h, bd_o m_truthI1, nm_o, iI_add, if_pos h, List.length_append]; rfl
      · rw [tr_n h, bd_o m_truthI0, nm_o, iI_add, if_neg h, Int.add_zero])
    refine (show _ = fn_X12_fits_13 (fn_X12_fits_4 m) fu (iI k) (iI ((LI (fitb C R n sg k) p).length : Int)) (iI ((p + 1 : Nat) : Int)) (iI ((0 + 1 : Nat) : Int)) z from by rw [show iI ((0 + 1 : Nat) : Int) = 1 from q_1.symm]).trans (hm2.trans ?_)
    rw [fn_X12_fits_13, if_pos (by rw [q_8]; exact ylt (by omega) (by omega) (by omega)), k1]
    rfl)
  unfold fn_X12_fits
  refine (show _ = fn_X12_fits_4 fu (iI k) (iI ((LI (fitb C R n sg k) 0).length : Int)) (iI ((0 + 1 : Nat) : Int)) z from by rw [show iI ((0 + 1 : Nat) : Int) = 1 from q_1.symm, show iI ((LI (fitb C R n sg k) 0).length : Int) = 0 from q_0.symm]).trans (hm.trans ?_)
  rw [fn_X12_fits_4, if_pos (by rw [q_8]; exact ylt (by omega) (by omega) (by omega))]
/-- with no tier nothing fits -/
theorem m_fit0 {p q : Nat} {k : Int} (e0 : z.1 172 43 = 0) (hn : ∃ n : Nat, n ≤ 30 ∧ z.1 172 71 = iI n) : fn_X12_isFit (iI (p : Int)) (iI (q : Int)) (iI k) z = some (0, z) := by
  obtain ⟨n, h1, h2⟩ := hn
  unfold fn_X12_isFit fn_X12_isFit_21 fn_X12_isFit_22
  rw [e0, if_pos (by decide)]
  show fn_X12_isFit_27 (999999 + 1) _ _ _ _ _ _ = _
  rw [fn_X12_isFit_27, h2]
  by_cases h : (iI (n : Int)) ≤ 0
  · rw [if_pos h, gd_t (by decide)]
  · rw [if_neg h, if_pos rfl, gd_t (by decide)]
theorem m_fits0 {k : Int} (e0 : z.1 172 43 = 0) (hn : ∃ n : Nat, n ≤ 30 ∧ z.1 172 71 = iI n) : fn_X12_fits (iI k) z = some (0, z) := by
  obtain ⟨m, hm⟩ := loopK (fun m p => fn_X12_fits_4 m (iI k) 0 (iI ((p + 1 : Nat) : Int)) z) 8 (by omega) (fun p m hp => by
    show fn_X12_fits_4 (m + 1) _ _ _ _ = fn_X12_fits_4 m _ _ _ _
    rw [fn_X12_fits_4, if_neg (by rw [q_8]; exact nlt (by omega) (by omega) (by omega))]
    obtain ⟨m2, hm2⟩ := loopK (fun m2 q => fn_X12_fits_13 (fn_X12_fits_4 m) m2 (iI k) 0 (iI ((p + 1 : Nat) : Int)) (iI ((q + 1 : Nat) : Int)) z) 8 (by omega) (fun q m2 hq => by
      show fn_X12_fits_13 _ (m2 + 1) _ _ _ _ _ = fn_X12_fits_13 _ m2 _ _ _ _ _
      rw [fn_X12_fits_13, if_neg (by rw [q_8]; exact nlt (by omega) (by omega) (by omega)), bd_o (m_fit0 e0 hn), bd_o m_truth0, nm_o, k1, show (0 : Int32) + 0 = 0 from by decide])
    refine (show _ = fn_X12_fits_13 (fn_X12_fits_4 m) fu (iI k) 0 (iI ((p + 1 : Nat) : Int)) (iI ((0 + 1 : Nat) : Int)) z from by rw [show iI ((0 + 1 : Nat) : Int) = 1 from q_1.symm]).trans (hm2.trans ?_)
    rw [fn_X12_fits_13, if_pos (by rw [q_8]; exact ylt (by omega) (by omega) (by omega)), k1])
  unfold fn_X12_fits
  refine (show _ = fn_X12_fits_4 fu (iI k) 0 (iI ((0 + 1 : Nat) : Int)) z from by rw [show iI ((0 + 1 : Nat) : Int) = 1 from q_1.symm]).trans (hm.trans ?_)
  rw [fn_X12_fits_4, if_pos (by rw [q_8]; exact ylt (by omega) (by omega) (by omega))]
theorem x_gather0 {k : Int32} (e0 : z.1 2 0 = 0) : fn_X4_gather k z = some (0, sI z 162 10 0) := by
  unfold fn_X4_gather
  rw [nm_o, show (sI z 162 10 0).1 2 0 = 0 from e0, if_pos rfl, sI_at, if_pos rfl]
/-- the first tier -/
theorem first_t (h : RD z c F0 F1 b) : (z.1 2 0 = 0 ∧ z.1 172 43 = 0 ∧ c 6 0 = 0) ∨ ∃ C R : Nat, (1 ≤ C ∧ C ≤ 8) ∧ (1 ≤ R ∧ R ≤ 8) ∧ c 0 0 = C ∧ c 1 0 = R ∧ 1 ≤ c 6 0 ∧ c 6 0 ≤ 3 := by
  have hc := h.vc.1
  by_cases h0 : c 6 0 = 0
  · exact Or.inl ⟨by rw [h.xr.1, h0]; exact q_0.symm, by rw [h.mr.1, h0]; exact q_0.symm, h0⟩
  · have := h.vc.2.2.2.1 0 (by omega)
    exact Or.inr ⟨(c 0 0).toNat, (c 1 0).toNat, by omega, by omega, by omega, by omega, by omega, by omega⟩
theorem s_fits (v : Int32) (h : RD z c F0 F1 b) : Same (fn_X11_fits v) (fn_X12_fits v) z := by
  obtain ⟨k, rfl, hk⟩ := ii v
  have kx : ∀ z w r, fn_X11_fits (iI k) z = some (r, w) → ∀ a j, PS a j → SA z w a j := fun z w r e a j h => ff_X11_fits (by unfold PS at h; show ¬ a = 168 ∧ ¬ a = 169 ∧ ¬ a = 170 ∧ ¬ (a = 162 ∧ j = 10); omega) e
  rcases first_t h with ⟨f1, f2, f3⟩ | ⟨C, R, hC, hR, eC, eR, t1, t2⟩
  · obtain ⟨n, sg, hV, hX, hM⟩ := h.sg
    refine ⟨0, sI z 162 10 0, sI z 162 10 0, ?_, ?_, c, F0, F1, b, h.fr fun a j g => sa_I rfl (by unfold PS at g; omega)⟩
    · unfold fn_X11_fits
      rw [bd_o (x_gather0 f1)]
    · exact m_fits0 f2 ⟨n, hV.1, hM.1⟩
  · obtain ⟨n, sg, hV, hX, hM⟩ := h.sg
    obtain ⟨w, e, -⟩ := x_gather hV hX hk ⟨c 6 0, t1, t2, h.xr.1⟩ (by rw [← eC]; exact (h.xr.2.2.2.1 0 (by omega)).1) (by rw [← eR]; exact (h.xr.2.2.2.1 0 (by omega)).2.1) hC hR
    have ex : fn_X11_fits (iI k) z = some (iI ((LI (fitb C R n sg k) 8).length : Int), w) := by unfold fn_X11_fits; rw [bd_o e]
    have h' := h.fr (kx z w _ ex)
    have hM' : MSg w n sg := by
      have t : ∀ a j, (a = 172 ∧ j = 71) ∨ (206 ≤ a ∧ a ≤ 210) → SA z w a j := fun a j g => kx z w _ ex a j (by unfold PS; omega)
      refine ⟨(t 172 71 (by omega)).1.trans hM.1, fun i hi => ?_⟩
      rw [(t 206 i (by omega)).1, (t 207 i (by omega)).1, (t 208 i (by omega)).1, (t 209 i (by omega)).1, (t 210 i (by omega)).1]
      exact hM.2 i hi
    exact ⟨_, w, w, ex, m_fits hV hM' hk ⟨c 6 0, t1, t2, h'.mr.1⟩ (by rw [← eC]; exact (h'.mr.2.2.2.1 0 (by omega)).1) (by rw [← eR]; exact (h'.mr.2.2.2.1 0 (by omega)).2.1) hC hR, c, F0, F1, b, h'⟩
end
