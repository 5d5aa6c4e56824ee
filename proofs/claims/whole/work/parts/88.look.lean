section
variable {z w : St} {c : RC} {F0 F1 : FO} {b : BD}
theorem RD.vc (h : RD z c F0 F1 b) : VC c := h.2.2.2.2.1.1
theorem RD.vb (h : RD z c F0 F1 b) : VB c b := h.2.2.2.2.2.1.1
theorem RD.xb (h : RD z c F0 F1 b) : XB 34 z b := h.2.2.2.2.2.1.2.1
theorem RD.mb (h : RD z c F0 F1 b) : MB 197 0 z b := h.2.2.2.2.2.1.2.2
theorem RD.xr (h : RD z c F0 F1 b) : XR z c := h.2.2.2.2.1.2.1
theorem RD.mr (h : RD z c F0 F1 b) : MR z c := h.2.2.2.2.1.2.2.1
theorem RD.xf0 (h : RD z c F0 F1 b) : XFo 11 0 z F0 := h.2.2.2.2.1.2.2.2.1
theorem RD.xf1 (h : RD z c F0 F1 b) : XFo 14 1 z F1 := h.2.2.2.2.1.2.2.2.2.1
theorem RD.mf0 (h : RD z c F0 F1 b) : MFo 0 z F0 := h.2.2.2.2.1.2.2.2.2.2.1
theorem RD.mf1 (h : RD z c F0 F1 b) : MFo 1 z F1 := h.2.2.2.2.1.2.2.2.2.2.2.1
theorem RD.vf0 (h : RD z c F0 F1 b) : VF F0 := h.2.2.2.2.1.2.2.2.2.2.2.2.1
theorem RD.vf1 (h : RD z c F0 F1 b) : VF F1 := h.2.2.2.2.1.2.2.2.2.2.2.2.2.1
theorem RD.un (h : RD z c F0 F1 b) : z.1 11 3 + z.1 14 3 = z.1 172 23 := h.2.2.2.2.1.2.2.2.2.2.2.2.2.2.1
theorem RD.mo (h : RD z c F0 F1 b) : z.1 172 57 = 0 := h.2.2.2.2.1.2.2.2.2.2.2.2.2.2.2
/-- what x's looks need -/
def RXs (z : St) (c : RC) (F0 F1 : FO) (b : BD) : Prop := VC c ∧ VB c b ∧ VF F0 ∧ VF F1 ∧ XR z c ∧ XB 34 z b ∧ XFo 11 0 z F0 ∧ XFo 14 1 z F1
/-- what the reference's looks need, with b in the air -/
def RM (z : St) (c : RC) (F0 F1 : FO) (b : BD) : Prop := VC c ∧ VB c b ∧ VF F0 ∧ VF F1 ∧ MR z c ∧ MB 198 0 z b ∧ MFo 0 z F0 ∧ MFo 1 z F1
def QXs (a k : Nat) : Prop := QX a k ∨ (a = 34 ∧ 2 ≤ k ∧ k ≤ 4) ∨ (36 ≤ a ∧ a ≤ 60) ∨ a = 11 ∨ a = 12 ∨ a = 14 ∨ a = 15
def QM (a k : Nat) : Prop := QR a k ∨ a = 198 ∨ (178 ≤ a ∧ a ≤ 180)
theorem RXs.fr (h : RXs z c F0 F1 b) (hs : ∀ a k, QXs a k → SA z w a k) : RXs w c F0 F1 b := by
  obtain ⟨h0, h1, h2, h3, h4, h5, h6, h7⟩ := h
  exact ⟨h0, h1, h2, h3, h4.fr fun a k h => hs a k (Or.inl h), h5.fr h1.1.2 fun a k h => hs a k (by unfold QXs; omega), h6.fr fun a k h => hs a k (by unfold QXs; omega), h7.fr fun a k h => hs a k (by unfold QXs; omega)⟩
theorem RM.fr (h : RM z c F0 F1 b) (hs : ∀ a k, QM a k → SA z w a k) : RM w c F0 F1 b := by
  obtain ⟨h0, h1, h2, h3, h4, h5, h6, h7⟩ := h
  exact ⟨h0, h1, h2, h3, h4.fr fun a k h => hs a k (Or.inl h), h5.fr fun k => hs 198 k (by unfold QM; omega), h6.fr fun a k h => hs a k (by unfold QM; omega), h7.fr fun a k h => hs a k (by unfold QM; omega)⟩
theorem RD.xs (h : RD z c F0 F1 b) : RXs z c F0 F1 b := ⟨h.vc, h.vb, h.vf0, h.vf1, h.xr, h.xb, h.xf0, h.xf1⟩
theorem RD.ld (h : RD z c F0 F1 b) : RM (ldz z) c F0 F1 b := ⟨h.vc, h.vb, h.vf0, h.vf1, h.mr.fr fun a k h => ldz_S (by unfold QR at h; omega), ldz_B h.mb h.vb.1.2, h.mf0.fr fun a k h => ldz_S (by omega), h.mf1.fr fun a k h => ldz_S (by omega)⟩
theorem k1 (k : Nat) : iI (k : Int) + 1 = iI ((k + 1 : Nat) : Int) := by rw [q_1, iI_add]; rfl
theorem z0 : iI ((0 : Nat) : Int) = 0 := q_0.symm
/-! sets and sums over the pieces -/
def orf (P : Nat → Bool) : Nat → Int32
  | 0 => 0
  | k + 1 => if P k then orf P k ||| (1 <<< (iI (k : Int) &&& 31)) else orf P k
theorem or_n (x y : Int32) : x ||| (iI 0 <<< y) = x := by rw [← q_0, Int32.zero_shiftLeft, Int32.or_zero]
theorem or_t (P : Prop) [Decidable P] (x y : Int32) : x ||| (iI (tr P) <<< y) = if P then x ||| (1 <<< y) else x := by
  by_cases h : P
  · rw [if_pos h, tr_1 h, ← q_1]
  · rw [if_neg h, tr_n h, or_n]
def sumf (f : Nat → Int) : Nat → Int
  | 0 => 0
  | k + 1 => sumf f k + f k
/-! left -/
def fleft (c : RC) (b : BD) (k : Nat) : Int := if pc b k 6 = -1 then ar c (pc b k) else 0
theorem x_left (h : RXs z c F0 F1 b) : fn_X11_left z = some (iI (sumf (fleft c b) (b 168).toNat), z) := by
  obtain ⟨hC, hV, -, -, hR, hB, -, -⟩ := h
  have h0 := hV.1
  obtain ⟨m, hm⟩ := loopK (fun m k => fn_X11_left_4 m (iI (sumf (fleft c b) k)) (iI (k : Int)) z) (b 168).toNat (by omega) (fun k m hk => by
    have hp : (k : Int) < b 168 := by omega
    have h24 := hV.n hp
    show fn_X11_left_4 (m + 1) _ _ _ = fn_X11_left_4 m _ _ _
    rw [fn_X11_left_4, hB.1, if_neg (nle (by omega) (by omega) (by omega)), bd_o (x_isFreeP hC hB hV hp), sumf, fleft]
    by_cases hf : pc b k 6 = -1
    · rw [if_pos hf, tr_1 hf, if_neg (by decide), gd_t (iI_ix (by omega)), iI_clampN (by omega), bd_o (x_area hR hC (hB.2.2.2.1 k hp) (hV.2.2.1 k hp)), nm_o]
      unfold fn_X11_left_45
      rw [k1, iI_add]
    · rw [if_neg hf, tr_n hf, if_pos (show iI 0 = 0 from q_0.symm)]
      unfold fn_X11_left_45
      rw [k1, Int.add_zero])
  unfold fn_X11_left
  refine (show _ = fn_X11_left_4 fu (iI 0) (iI ((0 : Nat) : Int)) z from by rw [z0, ← q_0]).trans (hm.trans ?_)
  rw [fn_X11_left_4, hB.1, if_pos (yle (by omega) (by omega) (by omega))]
theorem m_left (h : RM z c F0 F1 b) : fn_X12_left_8 fu 0 0 z = some (iI (sumf (fleft c b) (b 168).toNat), z) := by
  obtain ⟨hC, hV, -, -, hR, hB, -, -⟩ := h
  have h0 := hV.1
  have e168 : z.1 198 168 = iI (b 168) := hB.1
  obtain ⟨m, hm⟩ := loopK (fun m k => fn_X12_left_8 m (iI (sumf (fleft c b) k)) (iI (k : Int)) z) (b 168).toNat (by omega) (fun k m hk => by
    have hp : (k : Int) < b 168 := by omega
    have h24 := hV.n hp
    show fn_X12_left_8 (m + 1) _ _ _ = fn_X12_left_8 m _ _ _
    rw [fn_X12_left_8, c_168, e168, if_neg (nle (by omega) (by omega) (by omega)), bd_o (m_isFree hC hB hV hp), sumf, fleft]
    unfold fn_X12_left_38
    by_cases hf : pc b k 6 = -1
    · rw [if_pos hf, tr_1 hf, if_neg (by decide), bd_o (m_area hR hC hB hV hp), nm_o, k1, iI_add]
    · rw [if_neg hf, tr_n hf, if_pos (show iI 0 = 0 from q_0.symm), nm_o, k1, q_0, iI_add])
  refine (show _ = fn_X12_left_8 fu (iI 0) (iI ((0 : Nat) : Int)) z from by rw [z0, ← q_0]).trans (hm.trans ?_)
  rw [fn_X12_left_8, c_168, e168, if_pos (yle (by omega) (by omega) (by omega))]
theorem s_left (h : RD z c F0 F1 b) : Same fn_X11_left fn_X12_left z := by
  refine qry (iI (sumf (fleft c b) (b 168).toNat)) h (fun z h => ⟨z, x_left h.xs⟩) (fun z w e a k h => ff_X11_left (by trivial) e) (fun z h => ⟨ldz z, ?_⟩) (fun z w e a k h => ff_X12_left (by unfold PS at h; show ¬ a = 198; omega) e)
  unfold fn_X12_left
  rw [bv_o (m_load z)]
  exact m_left h.ld
/-! iced, feeds -/
def fice (c : RC) (b : BD) (n : Int) (k : Nat) : Bool := decide (pc b k 6 = -1 ∧ n ≤ ic c (pc b k))
theorem x_iced {n : Int} (hn : 0 ≤ n ∧ n ≤ 32) (h : RXs z c F0 F1 b) : fn_X11_iced_16 fu (iI n) 0 0 z = some (orf (fice c b n) (b 168).toNat, z) := by
  obtain ⟨hC, hV, -, -, hR, hB, -, -⟩ := h
  have h0 := hV.1
  obtain ⟨m, hm⟩ := loopK (fun m k => fn_X11_iced_16 m (iI n) (orf (fice c b n) k) (iI (k : Int)) z) (b 168).toNat (by omega) (fun k m hk => by
    have hp : (k : Int) < b 168 := by omega
    have h24 := hV.n hp
    have hi := ic_b hC (hV.2.2.1 k hp)
    show fn_X11_iced_16 (m + 1) _ _ _ _ = fn_X11_iced_16 m _ _ _ _
    rw [fn_X11_iced_16, hB.1, if_neg (nle (by omega) (by omega) (by omega)), bd_o (x_isFreeP hC hB hV hp), orf, fice]
    unfold fn_X11_iced_64
    by_cases hf : pc b k 6 = -1
    · rw [tr_1 hf, if_neg (by decide), gd_t (iI_ix (by omega)), iI_clampN (by omega), bd_o (x_icing hR hC (hB.2.2.2.1 k hp) (hV.2.2.1 k hp)), k1]
      by_cases hi2 : n ≤ ic c (pc b k)
      · rw [if_neg (nlt (by omega) (by omega) (by omega)), nm_o, decide_eq_true ⟨hf, hi2⟩, if_pos rfl]
      · rw [if_pos (ylt (by omega) (by omega) (by omega)), if_neg (by simp [hi2])]
    · rw [tr_n hf, if_pos (show iI 0 = 0 from q_0.symm), if_neg (by simp [hf]), k1])
  refine (show _ = fn_X11_iced_16 fu (iI n) 0 (iI ((0 : Nat) : Int)) z from by rw [z0]).trans (hm.trans ?_)
  rw [fn_X11_iced_16, hB.1, if_pos (yle (by omega) (by omega) (by omega))]
theorem m_iced {n : Int} (hn : 0 ≤ n ∧ n ≤ 32) (h : RM z c F0 F1 b) : fn_X12_iced_20 fu (iI n) 0 0 z = some (orf (fice c b n) (b 168).toNat, z) := by
  obtain ⟨hC, hV, -, -, hR, hB, -, -⟩ := h
  have h0 := hV.1
  have e168 : z.1 198 168 = iI (b 168) := hB.1
  obtain ⟨m, hm⟩ := loopK (fun m k => fn_X12_iced_20 m (iI n) (orf (fice c b n) k) (iI (k : Int)) z) (b 168).toNat (by omega) (fun k m hk => by
    have hp : (k : Int) < b 168 := by omega
    have h24 := hV.n hp
    have hi := ic_b hC (hV.2.2.1 k hp)
    show fn_X12_iced_20 (m + 1) _ _ _ _ = fn_X12_iced_20 m _ _ _ _
    rw [fn_X12_iced_20, c_168, e168, if_neg (nle (by omega) (by omega) (by omega)), bd_o (m_isFree hC hB hV hp), orf, fice]
    unfold fn_X12_iced_54 fn_X12_iced_55
    by_cases hf : pc b k 6 = -1
    · rw [tr_1 hf, if_neg (by decide), bd_o (m_icing hR hC hB hV hp)]
      by_cases hi2 : n ≤ ic c (pc b k)
      · rw [if_neg (nlt (by omega) (by omega) (by omega)), bd_o m_truth1, nm_o, k1, decide_eq_true ⟨hf, hi2⟩, if_pos rfl]
      · rw [if_pos (ylt (by omega) (by omega) (by omega)), bd_o m_truth0, nm_o, k1, q_0, or_n, if_neg (by simp [hi2])]
    · rw [tr_n hf, if_pos (show iI 0 = 0 from q_0.symm), bd_o m_truth0, nm_o, k1, q_0, or_n, if_neg (by simp [hf])])
  refine (show _ = fn_X12_iced_20 fu (iI n) 0 (iI ((0 : Nat) : Int)) z from by rw [z0]).trans (hm.trans ?_)
  rw [fn_X12_iced_20, c_168, e168, if_pos (yle (by omega) (by omega) (by omega))]
theorem s_iced (v : Int32) (h : RD z c F0 F1 b) : Same (fn_X11_iced v) (fn_X12_iced v) z := by
  obtain ⟨n, rfl, hn⟩ := ii v
  refine qry (if 0 ≤ n ∧ n ≤ 32 then orf (fice c b n) (b 168).toNat else -1) h (fun z h => ⟨z, ?_⟩) (fun z w e a k h => ff_X11_iced (by trivial) e) (fun z h => ?_) (fun z w e a k h => ff_X12_iced (by unfold PS at h; show ¬ a = 198; omega) e)
  · unfold fn_X11_iced
    by_cases h1 : n < 0
    · rw [q_0, if_pos (ylt (by omega) (by omega) h1), if_neg (by omega)]
    · rw [if_neg (by rw [q_0]; exact nlt (by omega) (by omega) h1)]
      by_cases h2 : n ≤ 32
      · rw [if_pos (by rw [q_32]; exact yle (by omega) (by omega) h2), if_pos (by omega)]
        exact x_iced (by omega) h.xs
      · rw [if_neg (by rw [q_32]; exact nle (by omega) (by omega) h2), if_neg (by omega)]
  · unfold fn_X12_iced
    rw [bd_o (show fn_X12_isIn (iI n) 0 32 z = some (iI (tr (0 ≤ n ∧ n ≤ 32)), z) from by rw [q_0, q_32]; exact m_isIn (by omega) (by omega) (by omega))]
    by_cases h1 : 0 ≤ n ∧ n ≤ 32
    · rw [tr_1 h1, if_neg (by decide), if_pos h1, bv_o (m_load z)]
      exact ⟨_, m_iced h1 h.ld⟩
    · rw [tr_n h1, if_pos (show iI 0 = 0 from q_0.symm), if_neg h1]
      exact ⟨_, rfl⟩
def ffee (c : RC) (b : BD) (g : Nat) (k : Nat) : Bool := decide (pc b k 6 = -1 ∧ c 3 g ≤ ar c (pc b k))
def fee (c : RC) (b : BD) (g : Nat) : Int32 := orf (ffee c b g) (b 168).toNat
theorem x_feeders {g : Nat} (hg : (g : Int) < c 6 1) (h : RXs z c F0 F1 b) : fn_X8_feeders (iI g) z = some (fee c b g, z) := by
  obtain ⟨hC, hV, -, -, hR, hB, -, -⟩ := h
  have h0 := hV.1
  have h6 := hC.g hg
  have hw := hC.2.2.2.2 g hg
  obtain ⟨m, hm⟩ := loopK (fun m k => fn_X8_feeders_15 m (iI g) (orf (ffee c b g) k) (iI (k : Int)) z) (b 168).toNat (by omega) (fun k m hk => by
    have hp : (k : Int) < b 168 := by omega
    have h24 := hV.n hp
    have hi := ar_b hC (hV.2.2.1 k hp)
    show fn_X8_feeders_15 (m + 1) _ _ _ _ = fn_X8_feeders_15 m _ _ _ _
    rw [fn_X8_feeders_15, hB.1, if_neg (nle (by omega) (by omega) (by omega)), bd_o (x_isFreeP hC hB hV hp), orf, ffee]
    unfold fn_X8_feeders_71
    by_cases hf : pc b k 6 = -1
    · rw [tr_1 hf, if_neg (by decide), gd_t (iI_ix (by omega)), iI_clampN (by omega), bd_o (x_area hR hC (hB.2.2.2.1 k hp) (hV.2.2.1 k hp)), k1, gd_t (iI_ix (by omega)), iI_clampN (by omega), (hR.2.2.2.2 g hg).1]
      by_cases hi2 : c 3 g ≤ ar c (pc b k)
      · rw [if_neg (nlt (by omega) (by omega) (by omega)), nm_o, decide_eq_true ⟨hf, hi2⟩, if_pos rfl]
      · rw [if_pos (ylt (by omega) (by omega) (by omega)), if_neg (by simp [hi2])]
    · rw [tr_n hf, if_pos (show iI 0 = 0 from q_0.symm), if_neg (by simp [hf]), k1])
  unfold fn_X8_feeders
  rw [bd_o (x_isGuest hR hC (by omega)), tr_1 (by omega), if_neg (by decide)]
  refine (show _ = fn_X8_feeders_15 fu (iI g) 0 (iI ((0 : Nat) : Int)) z from by rw [z0]).trans (hm.trans ?_)
  rw [fn_X8_feeders_15, hB.1, if_pos (yle (by omega) (by omega) (by omega))]
  rfl
theorem m_feeds {g : Nat} (hg : (g : Int) < c 6 1) (h : RM z c F0 F1 b) : fn_X12_feeds_18 fu (iI g) 0 0 z = some (fee c b g, z) := by
  obtain ⟨hC, hV, -, -, hR, hB, -, -⟩ := h
  have h0 := hV.1
  have h6 := hC.g hg
  have hw := hC.2.2.2.2 g hg
  have e168 : z.1 198 168 = iI (b 168) := hB.1
  obtain ⟨m, hm⟩ := loopK (fun m k => fn_X12_feeds_18 m (iI g) (orf (ffee c b g) k) (iI (k : Int)) z) (b 168).toNat (by omega) (fun k m hk => by
    have hp : (k : Int) < b 168 := by omega
    have h24 := hV.n hp
    have hi := ar_b hC (hV.2.2.1 k hp)
    show fn_X12_feeds_18 (m + 1) _ _ _ _ = fn_X12_feeds_18 m _ _ _ _
    rw [fn_X12_feeds_18, c_168, e168, if_neg (nle (by omega) (by omega) (by omega)), bd_o (m_isFree hC hB hV hp), orf, ffee]
    unfold fn_X12_feeds_57 fn_X12_feeds_58
    by_cases hf : pc b k 6 = -1
    · rw [tr_1 hf, if_neg (by decide), bd_o (m_area hR hC hB hV hp), gd_t (iI_ix (by omega)), iI_clampN (by omega), (hR.2.2.2.2 g hg).1]
      by_cases hi2 : c 3 g ≤ ar c (pc b k)
      · rw [if_neg (nlt (by omega) (by omega) (by omega)), bd_o m_truth1, nm_o, k1, decide_eq_true ⟨hf, hi2⟩, if_pos rfl]
      · rw [if_pos (ylt (by omega) (by omega) (by omega)), bd_o m_truth0, nm_o, k1, q_0, or_n, if_neg (by simp [hi2])]
    · rw [tr_n hf, if_pos (show iI 0 = 0 from q_0.symm), bd_o m_truth0, nm_o, k1, q_0, or_n, if_neg (by simp [hf])])
  refine (show _ = fn_X12_feeds_18 fu (iI g) 0 (iI ((0 : Nat) : Int)) z from by rw [z0]).trans (hm.trans ?_)
  rw [fn_X12_feeds_18, c_168, e168, if_pos (yle (by omega) (by omega) (by omega))]
  rfl
theorem s_feeds (v : Int32) (h : RD z c F0 F1 b) : Same (fn_X11_feeds v) (fn_X12_feeds v) z := by
  obtain ⟨n, rfl, hn⟩ := ii v
  refine qry (if 0 ≤ n ∧ n < c 6 1 then fee c b n.toNat else -1) h (fun z h => ⟨z, ?_⟩) (fun z w e a k h => ff_X11_feeds (by trivial) e) (fun z h => ?_) (fun z w e a k h => ff_X12_feeds (by unfold PS at h; show ¬ a = 198; omega) e)
  · unfold fn_X11_feeds
    rw [bd_o (x_isGuest h.xr h.vc hn)]
    by_cases h1 : 0 ≤ n ∧ n < c 6 1
    · rw [tr_1 h1, if_neg (by decide), if_pos h1, show iI n = iI ((n.toNat : Nat) : Int) from by congr 1; omega, bd_o (x_feeders (by omega) h.xs)]
    · rw [tr_n h1, if_pos (show iI 0 = 0 from q_0.symm), if_neg h1]
  · unfold fn_X12_feeds
    rw [bd_o (m_isGuest h.mr h.vc hn)]
    by_cases h1 : 0 ≤ n ∧ n < c 6 1
    · rw [tr_1 h1, if_neg (by decide), if_pos h1, bv_o (m_load z), show iI n = iI ((n.toNat : Nat) : Int) from by congr 1; omega, m_feeds (by omega) h.ld]
      exact ⟨_, rfl⟩
    · rw [tr_n h1, if_pos (show iI 0 = 0 from q_0.symm), if_neg h1]
      exact ⟨_, rfl⟩
end
