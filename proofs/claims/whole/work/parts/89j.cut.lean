section
variable {z w : St} {c : RC} {F0 F1 : FO} {b b' : BD}
theorem clp_le {r : Int32} {x : Int} (hx : 0 ≤ x ∧ x < 100) : clp r ≤ iI x ↔ ¬ x < r.toInt := by
  obtain ⟨n, rfl, hn⟩ := ii r
  rw [iI_toInt hn]
  unfold clp
  by_cases h1 : 0 ≤ n
  · rw [if_pos (by rw [q_0]; exact yle (by omega) (by omega) h1)]
    by_cases h2 : n ≤ 100
    · rw [if_pos (by rw [q_100]; exact yle (by omega) (by omega) h2), iI_le (by omega) (by omega)]
      omega
    · rw [if_neg (by rw [q_100]; exact nle (by omega) (by omega) h2), q_100, iI_le (by omega) (by omega)]
      omega
  · rw [if_neg (by rw [q_0]; exact nle (by omega) (by omega) h1), q_0, iI_le (by omega) (by omega)]
    omega
/-- the air comes down on the table -/
theorem m_cut111 (r : Int32) (z : St) : fn_X12_cut_111 fu r 0 z = some (r, (fun a j => if a = 197 ∧ j < 171 then z.1 198 j else z.1 a j, z.2)) := by
  obtain ⟨m, hm⟩ := loopK (fun m k => fn_X12_cut_111 m r (iI (k : Int)) (fun a j => if a = 197 ∧ j < k then z.1 198 j else z.1 a j, z.2)) 171 (by omega) (fun k m hk => by
    show fn_X12_cut_111 (m + 1) _ _ _ = fn_X12_cut_111 m _ _ _
    rw [fn_X12_cut_111, if_neg (by rw [q_171]; exact nle (by omega) (by omega) (by omega)), gd_t (iI_ix (by omega)), gd_t (iI_ix (by omega)), nm_o, k1, iI_clampN (by omega)]
    refine congrArg (fn_X12_cut_111 m _ _) (Prod.ext (funext fun a => funext fun j => ?_) rfl)
    simp only [sI]
    by_cases ha : a = 197
    · subst ha
      by_cases hj : j = k
      · subst hj
        rw [if_pos rfl, if_pos rfl, if_neg (by omega), if_pos (by omega)]
      · rw [if_pos rfl, if_neg hj]
        by_cases h2 : j < k
        · rw [if_pos ⟨rfl, h2⟩, if_pos (by omega)]
        · rw [if_neg (by omega), if_neg (by omega)]
    · rw [if_neg ha, if_neg (by omega), if_neg (by omega)])
  refine (show _ = fn_X12_cut_111 fu r (iI ((0 : Nat) : Int)) (fun a j => if a = 197 ∧ j < 0 then z.1 198 j else z.1 a j, z.2) from ?_).trans (hm.trans ?_)
  · rw [z0]
    refine congrArg (fn_X12_cut_111 fu r 0) (Prod.ext (funext fun a => funext fun j => ?_) rfl)
    show z.1 a j = if a = 197 ∧ j < 0 then _ else _
    rw [if_neg (by omega)]
  · rw [fn_X12_cut_111, if_pos (by rw [q_171]; exact yle (by omega) (by omega) (by omega))]
theorem m_cut {d p y : Nat} {k : Int} (hM : RM (ldz z) c F0 F1 b) (h51 : z.1 172 51 = iI d) (hd : d ≤ 40) (h : canS b p y k) : ∃ w, fn_X12_cut (iI p) (iI y) (iI k) z = some (iI (b 168), w) ∧ MB 197 0 w (bCut c F1 b p y k) ∧ w.1 172 51 = iI ((d - sh d + 1 : Nat) : Int) ∧ w.1 172 52 = 0 ∧ (∀ j, j < 171 * (d - sh d) → w.1 199 j = z.1 199 (j + 171 * sh d)) ∧ (∀ j, j < 171 → w.1 199 (171 * (d - sh d) + j) = z.1 197 j) := by
  have hM' := hM
  obtain ⟨hC, hV, -, hF1, hR, hB, -, hX⟩ := hM
  have hn := hV.1
  have hh := h
  obtain ⟨h1, h2, h3, h4, h5, h6⟩ := hh
  have hs := (hV.2.2.1 p h1).s hC
  have hsd := sd_b b
  have hse := hV.2.1
  generalize hN : (b 168).toNat = N
  have hNb : (N : Int) = b 168 := by omega
  have hw : (y = 0 ∧ k < pc b p 3) ∨ (y = 1 ∧ k < pc b p 4) := by
    have hw : y = 0 ∨ y = 1 := by omega
    rcases hw with rfl | rfl
    · exact Or.inl ⟨rfl, h6⟩
    · exact Or.inr ⟨rfl, h6⟩
  have hcs : cs b p y k := ⟨by omega, h1, h2, h3, by
    show ((y : Int) = 0 ∧ 1 ≤ k ∧ k < pc b p 3) ∨ ((y : Int) = 1 ∧ 1 ≤ k ∧ k < pc b p 4)
    omega⟩
  obtain ⟨z8, e8, a1, a2, a3, a4, a5⟩ := m_act (z := ldz z) (d := d) hd ((ldz_S (by omega)).1.trans h51)
  have M8 : RM z8 c F0 F1 b := hM'.fr fun a k h => a5 a k (by unfold QM QR at h; omega) (by unfold QM QR at h; omega)
  obtain ⟨z11, e11⟩ := m_slipOf (y := iI y) (p := p) M8.2.2.2.2.1 hC M8.2.2.2.2.2.1 hV M8.2.2.2.2.2.2.2 hF1 h1
  have hsl : so c F1 (pc b p) (if iI (y : Int) = 0 then pc b p 4 else pc b p 3) (b 169) = slp c F1 b p y := by
    unfold slp
    rcases hw with ⟨rfl, -⟩ | ⟨rfl, -⟩
    · rw [if_pos z0]
    · rw [if_neg (by decide)]
  rw [hsl] at e11
  have f11 : ∀ a k, a ≠ 184 → a ≠ 182 → SA z8 z11 a k := fun a k g1 g2 => ff_X12_slipOf (by show ¬ a = 184 ∧ ¬ a = 182; exact ⟨g1, g2⟩) e11
  have M11 : RM z11 c F0 F1 b := M8.fr fun a k h => f11 a k (by unfold QM QR at h; omega) (by unfold QM QR at h; omega)
  obtain ⟨z14, e14, b14, f14⟩ := m_goCut M11.2.2.2.2.2.1 hC hV h
  obtain ⟨g168, g169, g170⟩ := goC_168 (k := k) ⟨hn.1, h3⟩ h1 h4
  obtain ⟨c168, c169, c170⟩ := bCut_168 (c := c) (F1 := F1) h hn.1
  have v170 : z14.1 198 170 = iI (b 170) := b14.2.2.1.trans (by rw [g170])
  unfold fn_X12_cut
  rw [bv_o (m_load z), bd_o (m_canCut hC hB hV (by omega) (by omega) (by omega)), tr_1 hcs, if_neg (by decide), bv_o e8, bd_o e11, bd_o e14, nm_o, c_170, v170, q_137, q_71, iI_mul, iI_add, q_1000, iI_mod (by omega) (by omega), show (b 170 * 137 + 71) % 1000 = sd b from rfl]
  generalize hz15 : sI z14 198 170 (iI (sd b)) = z15
  rw [show z15.1 198 170 = iI (sd b) from by rw [← hz15, sI_at, if_pos rfl], q_100, iI_mod (by omega) (by omega)]
  have pace14 : ∀ a k, a ≠ 198 → a ≠ 184 → a ≠ 182 → SA z8 z15 a k := fun a k g1 g2 g3 => by
    rw [← hz15]
    exact ((f11 a k g2 g3).tr (f14 a k g1)).tr (sa_Ia rfl g1)
  have fin : ∀ z16 : St, (∀ a j, ¬ (a = 198 ∧ j = 7 * N + 5) → SA z15 z16 a j) → z16.1 198 (7 * N + 5) = iI (bCut c F1 b p y k (7 * N + 5)) → ∃ w, fn_X12_cut_93 (iI (b 168)) z16 = some (iI (b 168), w) ∧ MB 197 0 w (bCut c F1 b p y k) ∧ w.1 172 51 = iI ((d - sh d + 1 : Nat) : Int) ∧ w.1 172 52 = 0 ∧ (∀ j, j < 171 * (d - sh d) → w.1 199 j = z.1 199 (j + 171 * sh d)) ∧ (∀ j, j < 171 → w.1 199 (171 * (d - sh d) + j) = z.1 197 j) := by
    intro z16 h16 hb16
    unfold fn_X12_cut_93
    rw [nm_o, c_169, m_cut111]
    have o16 : ∀ a k, a ≠ 198 → a ≠ 184 → a ≠ 182 → SA z8 z16 a k := fun a k g1 g2 g3 => (pace14 a k g1 g2 g3).tr (h16 a k (by omega))
    have tail : ∀ a k, a ≠ 197 → a ≠ 198 → a ≠ 184 → a ≠ 182 → SA z8 (fun q j => if q = 197 ∧ j < 171 then (sI z16 198 169 (z16.1 198 169 + z16.1 172 45)).1 198 j else (sI z16 198 169 (z16.1 198 169 + z16.1 172 45)).1 q j, (sI z16 198 169 (z16.1 198 169 + z16.1 172 45)).2) a k := fun a k g0 g1 g2 g3 => by
      refine ((o16 a k g1 g2 g3).tr (sa_Ia (p := 198) (j := 169) (v := z16.1 198 169 + z16.1 172 45) rfl g1)).tr ⟨?_, rfl⟩
      show (if a = 197 ∧ k < 171 then _ else _) = _
      rw [if_neg (fun q => g0 q.1)]
    refine ⟨_, rfl, MB_mk fun j hj => ?_, (tail 172 51 (by omega) (by omega) (by omega) (by omega)).1.trans a1, (tail 172 52 (by omega) (by omega) (by omega) (by omega)).1.trans a2, fun j hj => ?_, fun j hj => ?_⟩
    · rw [c168] at hj
      show (if 197 = 197 ∧ 0 + j < 171 then (sI z16 198 169 (z16.1 198 169 + z16.1 172 45)).1 198 (0 + j) else _) = _
      rw [if_pos (by omega), Nat.zero_add, sI_at]
      have v15 : ∀ j : Nat, (j : Int) < 7 * (b 168 + 1) ∨ (168 ≤ j ∧ j ≤ 170) → j ≠ 170 → z15.1 198 j = iI (goC b p y k j) := fun j hj hj2 => by
        rw [← hz15, sI_at, if_neg hj2]
        have := MB_v b14 (j := j) (by rw [g168]; exact hj)
        rwa [Nat.zero_add] at this
      by_cases j169 : j = 169
      · rw [if_pos j169, j169, c169, (h16 198 169 (by omega)).1, v15 169 (by omega) (by omega), g169, (o16 172 45 (by omega) (by omega) (by omega)).1, M8.2.2.2.2.1.2.2.1, iI_add]
      · rw [if_neg j169]
        by_cases j5 : j = 7 * N + 5
        · rw [j5, hb16]
        · rw [(h16 198 j (by omega)).1]
          by_cases j170 : j = 170
          · rw [j170, c170, ← hz15, sI_at, if_pos rfl]
          · rw [v15 j hj j170]
            unfold bCut
            rw [if_neg j170, if_neg j169, if_neg (by omega)]
    · rw [(tail 199 j (by omega) (by omega) (by omega) (by omega)).1, a3 j hj, (ldz_S (by omega)).1]
    · rw [(tail 199 _ (by omega) (by omega) (by omega) (by omega)).1, a4 j hj, (ldz_S (by omega)).1]
  have e5 : bCut c F1 b p y k (7 * N + 5) = if sd b % 100 < (slp c F1 b p y).toInt then 1 else goC b p y k (7 * N + 5) := by
    unfold bCut
    rw [if_neg (by omega), if_neg (by omega), hN]
    by_cases hq : sd b % 100 < (slp c F1 b p y).toInt
    · rw [if_pos ⟨rfl, hq⟩, if_pos hq]
    · rw [if_neg (fun q => hq q.2), if_neg hq]
  by_cases hbr : sd b % 100 < (slp c F1 b p y).toInt
  · rw [if_neg (fun q => (clp_le (by omega)).mp q hbr), ← hNb, gd_t (x7_5 (by omega)), nm_o, c7_5 (by omega), hNb]
    refine fin _ (fun a j ha => sa_I rfl ha) ?_
    rw [sI_at, if_pos rfl, e5, if_pos hbr, q_1]
  · rw [if_pos ((clp_le (by omega)).mpr hbr)]
    refine fin _ (fun a j ha => SA.rf) ?_
    rw [e5, if_neg hbr, ← hz15, sI_at, if_neg (by omega)]
    have := MB_v b14 (j := 7 * N + 5) (by rw [g168]; omega)
    rwa [Nat.zero_add] at this
theorem NC_PS {a k : Nat} (h1 : PS a k) (h2 : ¬ PB a k) : NC a k := by
  unfold PS at h1; unfold PB at h2; unfold NC; omega
theorem s_cut (u v x : Int32) (h : RD z c F0 F1 b) : Same (fn_X11_cut u v x) (fn_X12_cut u v x) z := by
  obtain ⟨n, rfl, hn⟩ := ii u
  obtain ⟨y, rfl, hy⟩ := ii v
  obtain ⟨k, rfl, hk⟩ := ii x
  have hV := h.vb
  have hC := h.vc
  by_cases h1 : cs b n y k
  · obtain ⟨p, rfl⟩ : ∃ p : Nat, n = p := ⟨n.toNat, by have := h1.1; omega⟩
    obtain ⟨g, rfl⟩ : ∃ g : Nat, y = g := ⟨y.toNat, by have := h1.2.2.2.2; omega⟩
    have hcS : canS b p g k := by
      obtain ⟨-, q1, q2, q3, q4⟩ := h1
      rw [Int.toNat_natCast] at q2 q4
      have hg : g = 0 ∨ g = 1 := by omega
      rcases hg with rfl | rfl
      · exact ⟨q1, q2, q3, by omega, by omega, by show k < pc b p 3; omega⟩
      · exact ⟨q1, q2, q3, by omega, by omega, by show k < pc b p 4; omega⟩
    obtain ⟨ha, d, n', a1, a2, a3, a4, a5, a6, a7, a8, a9, a10, a11⟩ := h.2.2.2.2.2.2.2.2
    have hE : ACT c F1 (en 0 (iI p) (iI g) (iI k) (iI (b 170)) (iI (b 169))) b (bCut c F1 b p g k) := Or.inl ⟨p, g, k, rfl, rfl, rfl, rfl, rfl, rfl, hcS, rfl⟩
    obtain ⟨z1, e1, x1, x2, x3, x4, x5, x6⟩ := x_perform h.xs (by omega) a3 hE
    have hM1 : RM (ldz z1) c F0 F1 b := by
      have t : ∀ a k, 172 ≤ a → SA z z1 a k := fun a k g => x6 a k (by unfold NC; omega) (by omega)
      exact ⟨hC, hV, h.vf0, h.vf1, (h.mr.fr fun a k g => t a k (by unfold QR at g; omega)).fr fun a k g => ldz_S (by unfold QR at g; omega), ldz_B (h.mb.fr fun k => t 197 k (by omega)) hV.1.2, (h.mf0.fr fun a k g => t a k (by omega)).fr fun a k g => ldz_S (by omega), (h.mf1.fr fun a k g => t a k (by omega)).fr fun a k g => ldz_S (by omega)⟩
    obtain ⟨z2, e2, m1, m2, m3, m4, m5⟩ := m_cut (d := d) hM1 ((x6 172 51 (by unfold NC; omega) (by omega)).1.trans a5) (by omega) hcS
    have f2 : ∀ a k, ¬ a = 197 ∧ ¬ a = 198 ∧ ¬ (a = 172 ∧ k = 51) ∧ ¬ (a = 172 ∧ k = 52) ∧ ¬ a = 199 ∧ ¬ a = 184 ∧ ¬ a = 182 → SA z1 z2 a k := fun a k g => ff_X12_cut g e2
    have hV' := VB_bCut (F1 := F1) hV hcS
    have c168 := (bCut_168 (c := c) (F1 := F1) hcS hV.1.1).1
    refine ⟨iI (b 168), z1, z2, ?_, e2, c, F0, F1, bCut c F1 b p g k, RD_act h (fun a k g1 g2 g3 => (x6 a k (NC_PS g1 g2) (by unfold PA at g3; unfold PS at g1; omega)).tr (f2 a k (by unfold PA at g3; unfold PB at g2; unfold PS at g1; omega))) ⟨hV', x1.fr (by rw [c168]; have := hcS.2.2.1; omega) fun a k g => f2 a k (by omega), m1⟩ ?_⟩
    · unfold fn_X11_cut
      rw [bd_o (x_canSplit hC h.xb hV hn hy hk), tr_1 h1, if_neg (by decide), bv_o e1, x1.1, c168, q_1, iI_sub, show b 168 + 1 - 1 = b 168 from by omega]
    · refine RA_mk a1 a2 a7 a8 a9 a10 ((f2 146 9 (by omega)).1.trans x2) ((f2 146 10 (by omega)).1.trans x3) m2 m3 (fun k f hk hf => (f2 (147 + f) k (by omega)).1.trans (x4 k f hk hf)) (fun f hf => (f2 (147 + f) _ (by omega)).1.trans (x5 f hf)) (fun j hj => ?_) (fun j hj => ?_) h.mb hE hV'
      · rw [m4 j hj, (x6 199 _ (by unfold NC; omega) (by omega)).1]
      · rw [m5 j hj, (x6 197 _ (by unfold NC; omega) (by omega)).1]
  · refine ⟨-1, z, ldz z, ?_, ?_, c, F0, F1, b, h.fr fun a k g => ldz_S (by unfold PS at g; omega)⟩
    · unfold fn_X11_cut
      rw [bd_o (x_canSplit hC h.xb hV hn hy hk), tr_n h1, if_pos (show iI 0 = 0 from q_0.symm)]
    · unfold fn_X12_cut
      rw [bv_o (m_load z), bd_o (m_canCut hC h.ld.2.2.2.2.2.1 hV hn hy hk), tr_n h1, if_pos (show iI 0 = 0 from q_0.symm)]
end
