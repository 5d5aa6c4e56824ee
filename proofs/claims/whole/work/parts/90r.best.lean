theorem tb_orf {P : Nat → Bool} {j : Nat} (hj : j < 32) : ∀ n : Nat, n ≤ 32 → tb (orf P n) j = (P j && decide (j < n)) := by
  intro n
  induction n with
  | zero => intro _; rw [orf, tb_0, decide_eq_false (by omega), Bool.and_false]
  | succ n ih =>
    intro hn
    rw [orf]
    by_cases hP : P n = true
    · rw [if_pos hP, tb_in hj (by omega), ih (by omega)]
      by_cases e : j = n
      · subst e; rw [hP]; simp
      · rw [decide_eq_false e, Bool.or_false, show decide (j < n + 1) = decide (j < n) from decide_eq_decide.mpr (by omega)]
    · rw [if_neg hP, ih (by omega)]
      by_cases e : j = n
      · subst e; rw [Bool.eq_false_iff.mpr hP]; rfl
      · rw [show decide (j < n + 1) = decide (j < n) from decide_eq_decide.mpr (by omega)]
section
variable {z w : St} {c : RC} {F0 F1 : FO} {b : BD}
/-! which piece a guest would pick -/
def Fr (b : BD) (p : Nat) : Bool := decide (pc b p 6 = -1)
def Hu (b : BD) (g : Nat) : Bool := decide (hp b (g : Int) = -1)
def wt (c : RC) (F : FO) (b : BD) (g p : Nat) : Int32 := wo c F (pc b p) (c 4 g) (b 169)
def pk (c : RC) (F : FO) (b : BD) (g : Nat) (T : Nat → Bool) : Nat → Int
  | 0 => -1
  | k + 1 => if Fr b k && !T k then (if pk c F b g T k < 0 ∨ wt c F b g (pk c F b g T k).toNat < wt c F b g k then (k : Int) else pk c F b g T k) else pk c F b g T k
theorem pk_b {g : Nat} {T : Nat → Bool} : ∀ k : Nat, -1 ≤ pk c F0 b g T k ∧ pk c F0 b g T k < (k : Int) ∧ (0 ≤ pk c F0 b g T k → Fr b (pk c F0 b g T k).toNat = true ∧ T (pk c F0 b g T k).toNat = false) := by
  intro k
  induction k with
  | zero => rw [pk]; exact ⟨by decide, by decide, fun q => absurd q (by decide)⟩
  | succ k ih =>
    rw [pk]
    by_cases h : (Fr b k && !T k) = true
    · rw [if_pos h]
      split
      · refine ⟨by omega, by omega, fun _ => ?_⟩
        rw [Int.toNat_natCast]
        cases hf : Fr b k <;> cases ht : T k <;> rw [hf, ht] at h <;> simp at h ⊢
      · exact ⟨ih.1, by omega, ih.2.2⟩
    · rw [if_neg h]
      exact ⟨ih.1, by omega, ih.2.2⟩
theorem pk_ext {g : Nat} {T U : Nat → Bool} : ∀ k : Nat, (∀ j, j < k → T j = U j) → pk c F0 b g T k = pk c F0 b g U k := by
  intro k
  induction k with
  | zero => intro _; rfl
  | succ k ih => intro h; rw [pk, pk, ih fun j hj => h j (by omega), h k (by omega)]
def PKk (c : RC) (F : FO) (b : BD) (g : Nat) (T : Nat → Bool) : Int := pk c F b g T (b 168).toNat
def XW (z : St) (c : RC) (F : FO) (b : BD) (g : Nat) : Prop := ∀ p : Nat, (p : Int) < b 168 → z.1 159 (24 * g + p) = wt c F b g p
def MW (z : St) (c : RC) (F : FO) (b : BD) (g : Nat) : Prop := ∀ p : Nat, (p : Int) < b 168 → z.1 202 (24 * g + p) = wt c F b g p
theorem x_pickOf {g : Nat} {A : Int32} {T : Nat → Bool} (hg : g < 6) (hB : z.1 34 2 = iI (b 168)) (hn : 0 ≤ b 168 ∧ b 168 ≤ 24) (hW : XW z c F0 b g) (hA : ∀ j : Nat, (j : Int) < b 168 → tb A j = (Fr b j && !T j)) : fn_X5_pickOf (iI (g : Int)) A z = some (iI (PKk c F0 b g T), z) := by
  obtain ⟨m, hm⟩ := loopK (fun m k => fn_X5_pickOf_8 m (iI (g : Int)) A (iI (pk c F0 b g T k)) (if pk c F0 b g T k < 0 then 0 else wt c F0 b g (pk c F0 b g T k).toNat) (iI (k : Int)) z) (b 168).toNat (by omega) (fun k m hk => by
    have hpb := pk_b (c := c) (F0 := F0) (b := b) (g := g) (T := T) k
    show fn_X5_pickOf_8 (m + 1) _ _ _ _ _ _ = fn_X5_pickOf_8 m _ _ _ _ _ _
    rw [fn_X5_pickOf_8, hB, if_neg (nle (by omega) (by omega) (by omega)), tb_sh (by omega), hA k (by omega), pk]
    by_cases h : (Fr b k && !T k) = true
    · rw [if_pos h, if_pos rfl, if_pos h, q_24, iI_mul, iI_add, show (g : Int) * 24 + (k : Int) = ((24 * g + k : Nat) : Int) from by omega, gd_t (iI_ix (by omega)), iI_clampN (by omega), hW k (by omega), nm_o]
      unfold fn_X5_pickOf_56 fn_X5_pickOf_63
      rw [k1]
      by_cases h0 : pk c F0 b g T k < 0
      · rw [if_pos (show iI (pk c F0 b g T k) = -1 from by rw [show pk c F0 b g T k = -1 from by omega]; exact q_m1.symm), if_pos (show pk c F0 b g T k < 0 ∨ wt c F0 b g (pk c F0 b g T k).toNat < wt c F0 b g k from Or.inl h0), if_neg (show ¬ (k : Int) < 0 from by omega), Int.toNat_natCast]
      · rw [if_neg (show ¬ iI (pk c F0 b g T k) = -1 from by rw [q_m1]; exact neq (by omega) (by omega) (by omega)), if_neg h0]
        by_cases hw : wt c F0 b g (pk c F0 b g T k).toNat < wt c F0 b g k
        · rw [if_neg (show ¬ wt c F0 b g k ≤ wt c F0 b g (pk c F0 b g T k).toNat from Int32.not_le.mpr hw), if_pos (show pk c F0 b g T k < 0 ∨ wt c F0 b g (pk c F0 b g T k).toNat < wt c F0 b g k from Or.inr hw), if_neg (show ¬ (k : Int) < 0 from by omega), Int.toNat_natCast]
        · rw [if_pos (show wt c F0 b g k ≤ wt c F0 b g (pk c F0 b g T k).toNat from Int32.not_lt.mp hw), if_neg (show ¬ (pk c F0 b g T k < 0 ∨ wt c F0 b g (pk c F0 b g T k).toNat < wt c F0 b g k) from fun q => q.elim h0 hw), if_neg h0]
    · rw [if_neg h, if_neg (show ¬ (0 : Int32) = 1 from by decide), if_neg h]
      unfold fn_X5_pickOf_63
      rw [k1])
  unfold fn_X5_pickOf
  refine (show _ = fn_X5_pickOf_8 fu (iI (g : Int)) A (iI (pk c F0 b g T 0)) (if pk c F0 b g T 0 < 0 then 0 else wt c F0 b g (pk c F0 b g T 0).toNat) (iI ((0 : Nat) : Int)) z from by rw [z0, pk, if_pos (show (-1 : Int) < 0 from by decide), q_m1]).trans (hm.trans ?_)
  show fn_X5_pickOf_8 (m + 1) _ _ _ _ _ _ = _
  rw [fn_X5_pickOf_8, hB, if_pos (yle (by omega) (by omega) (by omega))]
  rfl
theorem m_bestFor {g : Nat} {U : Int32} {T : Nat → Bool} (hg : g < 6) (hC : VC c) (hB : MB 198 0 z b) (hV : VB c b) (hW : MW z c F0 b g) (hU : ∀ j : Nat, (j : Int) < b 168 → tb U j = T j) : fn_X12_bestFor (iI (g : Int)) U z = some (iI (PKk c F0 b g T), z) := by
  have hn := hV.1
  have e168 : z.1 198 168 = iI (b 168) := hB.1
  obtain ⟨m, hm⟩ := loopK (fun m k => fn_X12_bestFor_5 m (iI (g : Int)) U (iI (pk c F0 b g T k)) (iI (k : Int)) z) (b 168).toNat (by omega) (fun k m hk => by
    have hpb := pk_b (c := c) (F0 := F0) (b := b) (g := g) (T := T) k
    show fn_X12_bestFor_5 (m + 1) _ _ _ _ _ = fn_X12_bestFor_5 m _ _ _ _ _
    rw [fn_X12_bestFor_5, c_168, e168, if_neg (nle (by omega) (by omega) (by omega)), bd_o (m_isFree hC hB hV (by omega)), tb_sh (by omega), hU k (by omega), pk]
    unfold fn_X12_bestFor_66 fn_X12_bestFor_69
    rw [k1]
    by_cases hf : pc b k 6 = -1
    · have ef : Fr b k = true := decide_eq_true hf
      rw [tr_1 hf, if_neg (show ¬ iI 1 = 0 from by decide), ef, Bool.true_and]
      cases hT : T k
      · rw [if_neg (show ¬ false = true from by decide), if_pos rfl, if_pos (show (!false) = true from rfl)]
        by_cases h0 : pk c F0 b g T k < 0
        · rw [if_pos (show iI (pk c F0 b g T k) < 0 from by rw [q_0]; exact ylt (by omega) (by omega) h0), if_pos (show pk c F0 b g T k < 0 ∨ wt c F0 b g (pk c F0 b g T k).toNat < wt c F0 b g k from Or.inl h0)]
        · have ek : (24 : Int32) * iI (g : Int) + iI (pk c F0 b g T k) = iI ((24 * g + (pk c F0 b g T k).toNat : Nat) : Int) := by rw [q_24, iI_mul, iI_add]; congr 1; omega
          rw [if_neg (show ¬ iI (pk c F0 b g T k) < 0 from by rw [q_0]; exact nlt (by omega) (by omega) h0), ek, show (24 : Int32) * iI (g : Int) + iI (k : Int) = iI ((24 * g + k : Nat) : Int) from by rw [q_24, iI_mul, iI_add]; rfl, gd_t (iI_ix (by omega)), gd_t (iI_ix (by omega)), iI_clampN (by omega), iI_clampN (by omega), hW k (by omega), hW (pk c F0 b g T k).toNat (by omega)]
          by_cases hw : wt c F0 b g (pk c F0 b g T k).toNat < wt c F0 b g k
          · rw [if_neg (show ¬ wt c F0 b g k ≤ wt c F0 b g (pk c F0 b g T k).toNat from Int32.not_le.mpr hw), if_pos (show pk c F0 b g T k < 0 ∨ wt c F0 b g (pk c F0 b g T k).toNat < wt c F0 b g k from Or.inr hw)]
          · rw [if_pos (show wt c F0 b g k ≤ wt c F0 b g (pk c F0 b g T k).toNat from Int32.not_lt.mp hw), if_neg (show ¬ (pk c F0 b g T k < 0 ∨ wt c F0 b g (pk c F0 b g T k).toNat < wt c F0 b g k) from fun q => q.elim h0 hw)]
      · rw [if_pos rfl, if_neg (show ¬ (1 : Int32) = 0 from by decide), if_neg (show ¬ (!true) = true from by decide)]
    · have ef : Fr b k = false := decide_eq_false hf
      rw [tr_n hf, if_pos (show iI 0 = 0 from q_0.symm), ef, Bool.false_and, if_neg (show ¬ false = true from by decide)])
  unfold fn_X12_bestFor
  refine (show _ = fn_X12_bestFor_5 fu (iI (g : Int)) U (iI (pk c F0 b g T 0)) (iI ((0 : Nat) : Int)) z from by rw [z0, pk, q_m1]).trans (hm.trans ?_)
  show fn_X12_bestFor_5 (m + 1) _ _ _ _ _ = _
  rw [fn_X12_bestFor_5, c_168, e168, if_pos (yle (by omega) (by omega) (by omega))]
  rfl
/-- the reference's table of worths -/
theorem m_layWorths (hl : RM (ldz z) c F0 F1 b) : ∃ w, fn_X12_layWorths z = some w ∧ RM w c F0 F1 b ∧ (∀ g : Nat, (g : Int) < c 6 1 → MW w c F0 b g) ∧ ∀ a j, ¬ a = 184 → ¬ a = 182 → ¬ a = 202 → ¬ a = 198 → SA z w a j := by
  have hC := hl.1
  have hV := hl.2.1
  have hn := hV.1
  have hG := hC.2.1
  obtain ⟨m, s, ⟨i1, i2⟩, hm⟩ := loopE (fun m g s => fn_X12_layWorths_6 m (iI (g : Int)) s) (fun g s => (∀ o : Nat, o < g → MW s c F0 b o) ∧ ∀ a j, ¬ a = 184 → ¬ a = 182 → ¬ a = 202 → SA (ldz z) s a j) (c 6 1).toNat (by omega) (ldz z) ⟨fun o ho => by omega, fun a j _ _ _ => SA.rf⟩ (fun g m s hg ⟨i1, i2⟩ => by
    have hMs : RM s c F0 F1 b := hl.fr fun a j q => i2 a j (by unfold QM QR at q; omega) (by unfold QM QR at q; omega) (by unfold QM QR at q; omega)
    have e44 : s.1 172 44 = iI (c 6 1) := hMs.2.2.2.2.1.2.1
    show ∃ s', _ ∧ fn_X12_layWorths_6 (m + 1) _ _ = fn_X12_layWorths_6 m _ _
    rw [fn_X12_layWorths_6, e44, if_neg (nle (by omega) (by omega) (by omega))]
    obtain ⟨m2, t, ⟨j1, j2, j3⟩, hm2⟩ := loopE (fun m2 p t => fn_X12_layWorths_16 (fn_X12_layWorths_6 m) m2 (iI (g : Int)) (iI (p : Int)) t) (fun p t => (∀ o : Nat, o < g → MW t c F0 b o) ∧ (∀ q : Nat, q < p → t.1 202 (24 * g + q) = wt c F0 b g q) ∧ ∀ a j, ¬ a = 184 → ¬ a = 182 → ¬ a = 202 → SA (ldz z) t a j) (b 168).toNat (by omega) s ⟨i1, fun q hq => by omega, i2⟩ (fun p m2 t hp ⟨j1, j2, j3⟩ => by
      have hMt : RM t c F0 F1 b := hl.fr fun a j q => j3 a j (by unfold QM QR at q; omega) (by unfold QM QR at q; omega) (by unfold QM QR at q; omega)
      obtain ⟨u, e⟩ := m_worthOf (g := g) (p := p) hMt.2.2.2.2.1 hC hMt.2.2.2.2.2.1 hV hMt.2.2.2.2.2.2.1 hMt.2.2.1 (by omega) (by omega)
      have fu' : ∀ a j, ¬ a = 184 → ¬ a = 182 → SA t u a j := fun a j q1 q2 => ff_X12_worthOf (show ¬ a = 184 ∧ ¬ a = 182 from ⟨q1, q2⟩) e
      have ek : (24 : Int32) * iI (g : Int) + iI (p : Int) = iI ((24 * g + p : Nat) : Int) := by rw [q_24, iI_mul, iI_add]; rfl
      show ∃ s', _ ∧ fn_X12_layWorths_16 _ (m2 + 1) _ _ _ = fn_X12_layWorths_16 _ m2 _ _ _
      rw [fn_X12_layWorths_16, c_168, show t.1 198 168 = iI (b 168) from hMt.2.2.2.2.2.1.1, if_neg (nle (by omega) (by omega) (by omega)), bd_o e, ek, gd_t (iI_ix (by omega)), iI_clampN (by omega), nm_o, k1]
      refine ⟨sI u 202 (24 * g + p) (wt c F0 b g p), ⟨fun o ho q hq => ?_, fun q hq => ?_, fun a j q1 q2 q3 => ((j3 a j q1 q2 q3).tr (fu' a j q1 q2)).tr (sa_Ia rfl q3)⟩, rfl⟩
      · rw [sI_at, if_neg (by omega), (fu' 202 _ (by omega) (by omega)).1]
        exact j1 o ho q hq
      · rw [sI_at]
        by_cases e : q = p
        · rw [if_pos (by omega), e]
        · rw [if_neg (by omega), (fu' 202 _ (by omega) (by omega)).1]
          exact j2 q (by omega))
    have hMt : RM t c F0 F1 b := hl.fr fun a j q => j3 a j (by unfold QM QR at q; omega) (by unfold QM QR at q; omega) (by unfold QM QR at q; omega)
    refine ⟨t, ⟨fun o ho => ?_, j3⟩, ?_⟩
    · by_cases e : o = g
      · rw [e]; exact fun q hq => j2 q (by omega)
      · exact j1 o (by omega)
    · refine (show _ = fn_X12_layWorths_16 (fn_X12_layWorths_6 m) fu (iI (g : Int)) (iI ((0 : Nat) : Int)) s from by rw [z0]).trans (hm2.trans ?_)
      show fn_X12_layWorths_16 _ (m2 + 1) _ _ _ = _
      rw [fn_X12_layWorths_16, c_168, show t.1 198 168 = iI (b 168) from hMt.2.2.2.2.2.1.1, if_pos (yle (by omega) (by omega) (by omega)), k1])
  have hMs : RM s c F0 F1 b := hl.fr fun a j q => i2 a j (by unfold QM QR at q; omega) (by unfold QM QR at q; omega) (by unfold QM QR at q; omega)
  refine ⟨s, ?_, hMs, fun g hg => i1 g (by omega), fun a j q1 q2 q3 q4 => (ldz_S (by omega)).tr (i2 a j q1 q2 q3)⟩
  unfold fn_X12_layWorths
  rw [bv_o (m_load z)]
  refine (show _ = fn_X12_layWorths_6 fu (iI ((0 : Nat) : Int)) (ldz z) from by rw [z0]).trans (hm.trans ?_)
  show fn_X12_layWorths_6 (m + 1) _ _ = _
  rw [fn_X12_layWorths_6, show s.1 172 44 = iI (c 6 1) from hMs.2.2.2.2.1.2.1, if_pos (yle (by omega) (by omega) (by omega))]
/-! best -/
theorem s_best (v : Int32) (h : RD z c F0 F1 b) : Same (fn_X11_best v) (fn_X12_best v) z := by
  obtain ⟨y, rfl, hy⟩ := ii v
  have hC := h.vc
  have hV := h.vb
  have hn := hV.1
  refine qry (if 0 ≤ y ∧ y < c 6 1 then iI (PKk c F0 b y.toNat fun _ => false) else -1) h (fun z h => ?_) (fun z w e a k h => ff_X11_best (by unfold PS at h; show ¬ a = 144 ∧ ¬ a = 13; omega) e) (fun z h => ?_) (fun z w e a k h => ff_X12_best (by unfold PS at h; show ¬ a = 184 ∧ ¬ a = 182 ∧ ¬ a = 202 ∧ ¬ a = 198; omega) e)
  · unfold fn_X11_best
    rw [bd_o (x_isGuest h.xr hC hy)]
    by_cases hG : 0 ≤ y ∧ y < c 6 1
    · rw [tr_1 hG, if_neg (show ¬ iI 1 = 0 from by decide), if_pos hG, nn hG.1]
      generalize hg : y.toNat = g at *
      have hg1 : (g : Int) < c 6 1 := by omega
      clear hg hG hy
      have hX := h.xs
      obtain ⟨m, s, i1, hm⟩ := loopE (fun m k s => fn_X11_best_20 m (iI (g : Int)) (iI (pk c F0 b g (fun _ => false) k)) (if pk c F0 b g (fun _ => false) k < 0 then 0 else wt c F0 b g (pk c F0 b g (fun _ => false) k).toNat) (iI (k : Int)) s) (fun k s => RXs s c F0 F1 b) (b 168).toNat (by omega) z hX (fun k m s hk hs => by
        have hpb := pk_b (c := c) (F0 := F0) (b := b) (g := g) (T := fun _ => false) k
        obtain ⟨u, e⟩ := x_ofPiece (g := g) (p := k) hs.2.2.2.2.1 hC hs.2.2.2.2.2.1 hV hs.2.2.2.2.2.2.1 hs.2.2.1 hg1 (by omega) 0
        have hu : RXs u c F0 F1 b := hs.tfr fun a j q1 q2 => ff_X10_ofPiece (show ¬ a = 144 ∧ ¬ a = 13 from ⟨q1, q2⟩) e
        show ∃ s', _ ∧ fn_X11_best_20 (m + 1) _ _ _ _ _ = fn_X11_best_20 m _ _ _ _ _
        rw [fn_X11_best_20, hs.2.2.2.2.2.1.1, if_neg (nle (by omega) (by omega) (by omega)), bd_o (x_isFreeP hC hs.2.2.2.2.2.1 hV (by omega)), pk]
        unfold fn_X11_best_68 fn_X11_best_74
        rw [k1]
        by_cases hf : pc b k 6 = -1
        · have ef : (Fr b k && !((fun _ => false : Nat → Bool) k)) = true := by show (Fr b k && true) = true; rw [Bool.and_true]; exact decide_eq_true hf
          rw [tr_1 hf, if_neg (show ¬ iI 1 = 0 from by decide), bd_o e, if_pos ef]
          generalize pk c F0 b g (fun _ => false) k = P at *
          by_cases h0 : P < 0
          · rw [if_pos (show iI P = -1 from by rw [show P = -1 from by omega]; exact q_m1.symm), if_pos (show P < 0 ∨ wt c F0 b g P.toNat < wt c F0 b g k from Or.inl h0), if_neg (show ¬ (k : Int) < 0 from by omega), Int.toNat_natCast]
            exact ⟨u, hu, rfl⟩
          · rw [if_neg (show ¬ iI P = -1 from by rw [q_m1]; exact neq (by omega) (by omega) (by omega)), if_neg h0]
            by_cases hw : wt c F0 b g P.toNat < wt c F0 b g k
            · rw [if_neg (show ¬ wo c F0 (pc b k) (c 4 g) (b 169) ≤ wt c F0 b g P.toNat from Int32.not_le.mpr hw), if_pos (show P < 0 ∨ wt c F0 b g P.toNat < wt c F0 b g k from Or.inr hw), if_neg (show ¬ (k : Int) < 0 from by omega), Int.toNat_natCast]
              exact ⟨u, hu, rfl⟩
            · rw [if_pos (show wo c F0 (pc b k) (c 4 g) (b 169) ≤ wt c F0 b g P.toNat from Int32.not_lt.mp hw), if_neg (show ¬ (P < 0 ∨ wt c F0 b g P.toNat < wt c F0 b g k) from fun q => q.elim h0 hw), if_neg h0]
              exact ⟨u, hu, rfl⟩
        · have ef : ¬ (Fr b k && !((fun _ => false : Nat → Bool) k)) = true := by show ¬ (Fr b k && true) = true; rw [Bool.and_true]; unfold Fr; rw [decide_eq_true_iff]; exact hf
          rw [tr_n hf, if_pos (show iI 0 = 0 from q_0.symm), if_neg ef]
          exact ⟨s, hs, rfl⟩)
      refine ⟨s, (show _ = fn_X11_best_20 fu (iI (g : Int)) (iI (pk c F0 b g (fun _ => false) 0)) (if pk c F0 b g (fun _ => false) 0 < 0 then 0 else wt c F0 b g (pk c F0 b g (fun _ => false) 0).toNat) (iI ((0 : Nat) : Int)) z from by rw [z0, pk, if_pos (show (-1 : Int) < 0 from by decide), q_m1]).trans (hm.trans ?_)⟩
      show fn_X11_best_20 (m + 1) _ _ _ _ _ = _
      rw [fn_X11_best_20, i1.2.2.2.2.2.1.1, if_pos (yle (by omega) (by omega) (by omega))]
      rfl
    · rw [tr_n hG, if_pos (show iI 0 = 0 from q_0.symm), if_neg hG]
      exact ⟨z, rfl⟩
  · unfold fn_X12_best
    rw [bd_o (m_isGuest h.mr hC hy)]
    by_cases hG : 0 ≤ y ∧ y < c 6 1
    · have hG' := hC.2.1
      obtain ⟨u, e, i1, i2, -⟩ := m_layWorths h.ld
      rw [tr_1 hG, if_neg (show ¬ iI 1 = 0 from by decide), if_pos hG, bv_o e, nn hG.1, bd_o (m_bestFor (T := fun _ => false) (by omega) hC i1.2.2.2.2.2.1 hV (i2 y.toNat (by omega)) fun j _ => tb_0 j)]
      exact ⟨u, rfl⟩
    · rw [tr_n hG, if_pos (show iI 0 = 0 from q_0.symm), if_neg hG]
      exact ⟨z, rfl⟩
end
