section
variable {z w : St} {c : RC} {F0 F1 : FO} {b b' : BD}
theorem x_two {n y : Int} (hR : XR z c) (hC : VC c) (hn : -2147483648 ≤ n ∧ n < 2147483648) (hy : -2147483648 ≤ y ∧ y < 2147483648) : fn_X11_areTwoGuests (iI n) (iI y) z = some (iI (tr ((0 ≤ n ∧ n < c 6 1) ∧ (0 ≤ y ∧ y < c 6 1) ∧ n ≠ y)), z) := by
  unfold fn_X11_areTwoGuests
  rw [bd_o (x_isGuest hR hC hn)]
  by_cases g1 : 0 ≤ n ∧ n < c 6 1
  · rw [tr_1 g1, if_neg (by decide), bd_o (x_isGuest hR hC hy)]
    by_cases g2 : 0 ≤ y ∧ y < c 6 1
    · rw [tr_1 g2, if_neg (by decide)]
      by_cases g3 : n = y
      · rw [if_pos (by rw [g3]), tr_n (fun q => q.2.2 g3), q_0]
      · rw [if_neg (neq hn hy g3), tr_1 ⟨g1, g2, g3⟩, q_1]
    · rw [tr_n g2, if_pos (show iI 0 = 0 from q_0.symm), tr_n (fun q => g2 q.2.1), q_0]
  · rw [tr_n g1, if_pos (show iI 0 = 0 from q_0.symm), tr_n (fun q => g1 q.1), q_0]
theorem hpN {y : Int} (h : 0 ≤ y) : hp b y = hp b ((y.toNat : Nat) : Int) := by congr 1; omega
theorem s_exchange (u v : Int32) (h : RD z c F0 F1 b) : Same (fn_X11_exchange u v) (fn_X12_exchange u v) z := by
  obtain ⟨n, rfl, hn⟩ := ii u
  obtain ⟨y, rfl, hy⟩ := ii v
  have hV := h.vb
  have hC := h.vc
  have hv0 := hV.1
  have hbn := hp_b hV n
  have hby := hp_b hV y
  obtain ⟨-, -, -, -, hR', hB', -, -⟩ := h.ld
  by_cases h1 : ((0 ≤ n ∧ n < c 6 1) ∧ (0 ≤ y ∧ y < c 6 1) ∧ n ≠ y) ∧ hp b n ≠ -1 ∧ hp b y ≠ -1
  · obtain ⟨⟨⟨n0, n1⟩, ⟨y0, y1⟩, hny⟩, hhn, hhy⟩ := h1
    obtain ⟨g, rfl⟩ : ∃ g : Nat, n = g := ⟨n.toNat, by omega⟩
    obtain ⟨o, rfl⟩ : ∃ o : Nat, y = o := ⟨y.toNat, by omega⟩
    obtain ⟨p, hp1⟩ : ∃ p : Nat, hp b g = p := ⟨(hp b g).toNat, by omega⟩
    obtain ⟨q, hq1⟩ : ∃ q : Nat, hp b o = q := ⟨(hp b o).toNat, by omega⟩
    have p1 : (p : Int) < b 168 := by omega
    have q1 : (q : Int) < b 168 := by omega
    have g6 := hC.g n1
    have o6 := hC.g y1
    have p24 := hV.n p1
    have q24 := hV.n q1
    have hpo := (hp_at hV (by omega) p1).mp hp1
    have hqo := (hp_at hV (by omega) q1).mp hq1
    have hpq : p ≠ q := fun e => by subst e; omega
    obtain ⟨hV', H'⟩ := trade_V hV n1 y1 (by omega) p1 q1 hp1 hq1
    obtain ⟨z1, d, hd, e1, x1, d51, M1, B1, R1, K⟩ := act_RD (v1 := 3) (v2 := iI g) (v3 := iI o) (v4 := 0) h (Or.inr (Or.inr (Or.inr ⟨g, o, p, q, rfl, rfl, rfl, n1, y1, by omega, p1, q1, hp1, hq1, rfl⟩))) hV'
    obtain ⟨z8, e8, a1, a2, a3, a4, a5⟩ := m_act (z := ldz z1) (d := d) hd ((ldz_S (by omega)).1.trans d51)
    have B8 : MB 197 0 z8 b := (B1.fr fun k => ldz_S (by omega)).fr fun k => a5 197 k (by omega) (by omega)
    have A8 : MB 198 0 z8 b := M1.2.2.2.2.2.1.fr fun k => a5 198 k (by omega) (by omega)
    have B9 := MB_put (g := (o : Int)) B8 p1
    have B10 := MB_put (p := q) (g := (g : Int)) B9 (by rw [(bPut_168 b p _).1]; exact q1)
    have A9 : MB 198 0 (sI z8 197 (7 * p + 6) (iI o)) b := A8.fr fun k => sa_Ia rfl (by omega)
    have A10 : MB 198 0 (sI (sI z8 197 (7 * p + 6) (iI o)) 197 (7 * q + 6) (iI g)) b := A9.fr fun k => sa_Ia rfl (by omega)
    rw [bPut_com b hpq] at B10
    have e2 : fn_X12_exchange (iI g) (iI o) z1 = some (iI q, sI (sI z8 197 (7 * p + 6) (iI o)) 197 (7 * q + 6) (iI g)) := by
      unfold fn_X12_exchange
      rw [bv_o (m_load z1), bd_o (m_isGuest M1.2.2.2.2.1 hC hn), tr_1 ⟨n0, n1⟩, if_neg (by decide), bd_o (m_isGuest M1.2.2.2.2.1 hC hy), tr_1 ⟨y0, y1⟩, if_neg (by decide), if_neg (neq hn hy hny), bd_o (m_pieceOf hC M1.2.2.2.2.2.1 hV hn), hp1, if_neg (by rw [q_0]; exact nlt (by omega) (by omega) (by omega)), bd_o (m_pieceOf hC M1.2.2.2.2.2.1 hV hy), hq1, if_pos (by rw [q_0]; exact yle (by omega) (by omega) (by omega)), bv_o e8, bd_o (m_pieceOf hC A8 hV hn), hp1, gd_t (x7_6 p24), nm_o, c7_6 p24, bd_o (m_pieceOf hC A9 hV hy), hq1, gd_t (x7_6 q24), nm_o, c7_6 q24, bd_o (m_pieceOf hC A10 hV hy), hq1]
    have f2 := fun a k (g : MFr a k) => ff_X12_exchange (a := a) (k := k) (by unfold MFr at g; show ¬ a = 198 ∧ ¬ (a = 172 ∧ k = 51) ∧ ¬ (a = 172 ∧ k = 52) ∧ ¬ a = 199 ∧ ¬ a = 197; omega) e2
    have tw : ∀ a k, a ≠ 197 → SA z8 (sI (sI z8 197 (7 * p + 6) (iI o)) 197 (7 * q + 6) (iI g)) a k := fun a k ha => (sa_Ia rfl ha).tr (sa_Ia rfl ha)
    refine ⟨_, z1, _, ?_, e2, c, F0, F1, _, K _ B10 ((tw 172 51 (by omega)).1.trans a1) ((tw 172 52 (by omega)).1.trans a2) (fun j hj => ?_) (fun j hj => ?_) f2⟩
    · unfold fn_X11_exchange
      rw [bd_o (x_two h.xr hC hn hy), tr_1 ⟨⟨n0, n1⟩, ⟨y0, y1⟩, hny⟩, if_neg (by decide), gd_t (iI_ix (by omega)), iI_clampN (by omega), show z.1 60 g = iI (hp b g) from h.xb.2.2.2.2 g g6, hp1, if_neg (by rw [q_m1]; exact neq (by omega) (by omega) (by omega)), gd_t (iI_ix (by omega)), iI_clampN (by omega), show z.1 60 o = iI (hp b o) from h.xb.2.2.2.2 o o6, hq1, if_neg (by rw [q_m1]; exact neq (by omega) (by omega) (by omega)), bv_o e1, gd_t (iI_ix (by omega)), show z1.1 60 g = iI (hp (bPut (bPut b q g) p o) g) from x1.2.2.2.2 g g6, H' g, if_neg (by omega), if_pos rfl]
    · rw [(tw 199 j (by omega)).1, a3 j hj, (ldz_S (by omega)).1]
    · rw [(tw 199 _ (by omega)).1, a4 j hj, (ldz_S (by omega)).1]
  · refine ⟨-1, z, ldz z, ?_, ?_, c, F0, F1, b, h.fr fun a k g => ldz_S (by unfold PS at g; omega)⟩
    · unfold fn_X11_exchange
      rw [bd_o (x_two h.xr hC hn hy)]
      by_cases g1 : (0 ≤ n ∧ n < c 6 1) ∧ (0 ≤ y ∧ y < c 6 1) ∧ n ≠ y
      · have n6 := hC.g (t := n.toNat) (by omega)
        have y6 := hC.g (t := y.toNat) (by omega)
        rw [tr_1 g1, if_neg (by decide), nn g1.1.1, gd_t (iI_ix (by omega)), iI_clampN (by omega), show z.1 60 n.toNat = iI (hp b n) from by rw [hpN g1.1.1]; exact h.xb.2.2.2.2 _ n6]
        by_cases g2 : hp b n = -1
        · rw [g2, if_pos (by decide)]
        · rw [if_neg (by rw [q_m1]; exact neq (by omega) (by omega) g2), nn g1.2.1.1, gd_t (iI_ix (by omega)), iI_clampN (by omega), show z.1 60 y.toNat = iI (hp b y) from by rw [hpN g1.2.1.1]; exact h.xb.2.2.2.2 _ y6, show hp b y = -1 from Decidable.byContradiction fun q => h1 ⟨g1, g2, q⟩, if_pos (by decide)]
      · rw [tr_n g1, if_pos (show iI 0 = 0 from q_0.symm)]
    · unfold fn_X12_exchange
      rw [bv_o (m_load z), bd_o (m_isGuest hR' hC hn)]
      by_cases g1 : 0 ≤ n ∧ n < c 6 1
      · rw [tr_1 g1, if_neg (by decide), bd_o (m_isGuest hR' hC hy)]
        by_cases g2 : 0 ≤ y ∧ y < c 6 1
        · rw [tr_1 g2, if_neg (by decide)]
          by_cases g3 : n = y
          · rw [if_pos (by rw [g3])]
          · rw [if_neg (neq hn hy g3), bd_o (m_pieceOf hC hB' hV hn)]
            by_cases g4 : hp b n = -1
            · rw [g4, if_pos (by decide)]
            · rw [if_neg (by rw [q_0]; exact nlt (by omega) (by omega) (by omega)), bd_o (m_pieceOf hC hB' hV hy), show hp b y = -1 from Decidable.byContradiction fun q => h1 ⟨⟨g1, g2, g3⟩, g4, q⟩, if_neg (by decide)]
        · rw [tr_n g2, if_pos (show iI 0 = 0 from q_0.symm)]
      · rw [tr_n g1, if_pos (show iI 0 = 0 from q_0.symm)]
/-! undo, redo -/
theorem m_turn {o : Nat} (ho : o + 171 ≤ 6840) (z : St) : fn_X12_turnAbout (iI o) z = some (fun a j => if a = 199 ∧ o ≤ j ∧ j < o + 171 then z.1 197 (j - o) else if a = 197 ∧ j < 171 then z.1 199 (o + j) else z.1 a j, z.2) := by
  obtain ⟨m, hm⟩ := loopK (fun m k => fn_X12_turnAbout_2 m (iI o) (iI (k : Int)) (fun a j => if a = 199 ∧ o ≤ j ∧ j < o + k then z.1 197 (j - o) else if a = 197 ∧ j < k then z.1 199 (o + j) else z.1 a j, z.2)) 171 (by omega) (fun k m hk => by
    show fn_X12_turnAbout_2 (m + 1) _ _ _ = fn_X12_turnAbout_2 m _ _ _
    rw [fn_X12_turnAbout_2, if_neg (by rw [q_171]; exact nle (by omega) (by omega) (by omega)), iI_add, gd_t (iI_ix (by omega)), nm_o, gd_t (iI_ix (by omega)), gd_t (iI_ix (by omega)), nm_o, gd_t (iI_ix (by omega)), nm_o, k1, iI_clampN (by omega), show Int32.toNatClampNeg (iI ((o : Int) + (k : Int))) = o + k from by rw [iI_clamp (by omega)]; omega]
    refine congrArg (fn_X12_turnAbout_2 m _ _) (Prod.ext (funext fun a => funext fun j => ?_) rfl)
    simp only [sI]
    by_cases ha : a = 197
    · subst ha
      by_cases hj : j = k
      · subst hj
        simp
      · have e1 : (j < k + 1) = (j < k) := propext (by omega)
        simp [hj, e1]
    · by_cases hb : a = 199
      · subst hb
        by_cases hj : j = o + k
        · subst hj
          simp
        · have e1 : (o ≤ j ∧ j < o + (k + 1)) = (o ≤ j ∧ j < o + k) := propext (by omega)
          simp [hj, e1]
      · simp [ha, hb])
  unfold fn_X12_turnAbout
  refine (show _ = fn_X12_turnAbout_2 fu (iI o) (iI ((0 : Nat) : Int)) (fun a j => if a = 199 ∧ o ≤ j ∧ j < o + 0 then z.1 197 (j - o) else if a = 197 ∧ j < 0 then z.1 199 (o + j) else z.1 a j, z.2) from ?_).trans (hm.trans ?_)
  · rw [z0]
    refine congrArg (fn_X12_turnAbout_2 fu (iI o) 0) (Prod.ext (funext fun a => funext fun j => ?_) rfl)
    show z.1 a j = if a = 199 ∧ o ≤ j ∧ j < o + 0 then _ else if a = 197 ∧ j < 0 then _ else _
    rw [if_neg (by omega), if_neg (by omega)]
  · rw [fn_X12_turnAbout_2, if_pos (by rw [q_171]; exact yle (by omega) (by omega) (by omega))]
theorem m_turn' {o : Nat} (ho : o + 171 ≤ 6840) (z : St) : ∃ w, fn_X12_turnAbout (iI o) z = some w ∧ (∀ j, j < 171 → w.1 199 (o + j) = z.1 197 j ∧ w.1 197 j = z.1 199 (o + j)) ∧ (∀ j, ¬ (o ≤ j ∧ j < o + 171) → w.1 199 j = z.1 199 j) ∧ ∀ a k, a ≠ 199 → a ≠ 197 → SA z w a k := by
  refine ⟨_, m_turn ho z, fun j hj => ⟨?_, ?_⟩, fun j hj => ?_, fun a k h1 h2 => ⟨?_, rfl⟩⟩
  · show (if 199 = 199 ∧ o ≤ o + j ∧ o + j < o + 171 then z.1 197 (o + j - o) else if 199 = 197 ∧ o + j < 171 then z.1 199 (o + (o + j)) else z.1 199 (o + j)) = _
    rw [if_pos (by omega), show o + j - o = j from by omega]
  · show (if 197 = 199 ∧ o ≤ j ∧ j < o + 171 then z.1 197 (j - o) else if 197 = 197 ∧ j < 171 then z.1 199 (o + j) else z.1 197 j) = _
    rw [if_neg (by omega), if_pos (by omega)]
  · show (if 199 = 199 ∧ o ≤ j ∧ j < o + 171 then z.1 197 (j - o) else if 199 = 197 ∧ j < 171 then z.1 199 (o + j) else z.1 199 j) = _
    rw [if_neg (by omega), if_neg (by omega)]
  · show (if a = 199 ∧ o ≤ k ∧ k < o + 171 then z.1 197 (k - o) else if a = 197 ∧ k < 171 then z.1 199 (o + k) else z.1 a k) = _
    rw [if_neg (fun q => h1 q.1), if_neg (fun q => h2 q.1)]
theorem s_undo (h : RD z c F0 F1 b) : Same fn_X11_undo fn_X12_undo z := by
  have hC := h.vc
  obtain ⟨ha, d, n, a1, a2, a3, a4, a5, a6, a7, a8, a9, a10, a11⟩ := h.2.2.2.2.2.2.2.2
  by_cases hd : d = 0
  · refine ⟨0, z, z, ?_, ?_, c, F0, F1, b, h⟩
    · unfold fn_X11_undo fn_X0_takeBack
      rw [a3, hd, if_neg (by decide), bd_e, gd_t (by decide)]
    · unfold fn_X12_undo
      rw [a5, hd, if_pos (by decide)]
  · obtain ⟨e, rfl⟩ : ∃ e, d = e + 1 := ⟨d - 1, by omega⟩
    have hV1 := a8 e (by omega)
    have e9 : (sI z 146 9 (iI (e : Int))).1 146 9 = iI (e : Int) := by rw [sI_at, if_pos rfl]
    have hB1 : XB 34 (sI z 146 9 (iI (e : Int))) b := h.xb.fr h.vb.1.2 fun a k g => sa_Ia rfl (by omega)
    obtain ⟨z1, e1, x1, x2⟩ := x_reverse (z := sI z 146 9 (iI (e : Int))) (i := e) (F1 := F1) (b := ha e) (b' := b) (by omega) hC hV1 h.vb hB1 ((a7 ▸ (a9 e (by omega))).ex fun f hf => (sa_Ia rfl (by omega)).1)
    have x3 : ∀ a k, NC a k → ¬ (a = 146 ∧ k = 9) → SA z z1 a k := fun a k g1 g2 => (sa_I rfl g2).tr (x2 a k g1)
    have t51 : z1.1 172 51 = iI ((e + 1 : Nat) : Int) := (x3 172 51 (by unfold NC; omega) (by omega)).1.trans a5
    have t52 : z1.1 172 52 = iI ((n - (e + 1) : Nat) : Int) := (x3 172 52 (by unfold NC; omega) (by omega)).1.trans a6
    generalize hz2 : sI (sI z1 172 51 (iI (e : Int))) 172 52 (iI ((n - e : Nat) : Int)) = z2
    have y2 : ∀ a k, ¬ (a = 172 ∧ (k = 51 ∨ k = 52)) → SA z1 z2 a k := fun a k g => by
      rw [← hz2]
      exact (sa_I rfl (by omega)).tr (sa_I rfl (by omega))
    obtain ⟨z3, e3, t1, t2, t3⟩ := m_turn' (o := 171 * e) (by omega) z2
    have y3 : ∀ a k, NC a k → ¬ (a = 146 ∧ k = 9) → ¬ (a = 172 ∧ (k = 51 ∨ k = 52)) → a ≠ 199 → a ≠ 197 → SA z z3 a k := fun a k g1 g2 g3 g4 g5 => ((x3 a k g1 g2).tr (y2 a k g3)).tr (t3 a k g4 g5)
    have z97 : ∀ j, z2.1 197 j = z.1 197 j := fun j => (y2 197 j (by omega)).1.trans (x3 197 j (by unfold NC; omega) (by omega)).1
    have z99 : ∀ j, z2.1 199 j = z.1 199 j := fun j => (y2 199 j (by omega)).1.trans (x3 199 j (by unfold NC; omega) (by omega)).1
    refine ⟨1, z1, z3, ?_, ?_, c, F0, F1, ha e, RD_act h (fun a k g1 g2 g3 => y3 a k (NC_PS g1 g2) (by unfold PA at g3; omega) (by unfold PA at g3; omega) (by unfold PA at g3; omega) (by unfold PB at g2; omega)) ⟨hV1, x1.fr hV1.1.2 fun a k g => (y2 a k (by omega)).tr (t3 a k (by omega) (by omega)), ?_⟩ ?_⟩
    · unfold fn_X11_undo fn_X0_takeBack
      rw [a3, if_pos (by rw [q_0]; exact ylt (by omega) (by omega) (by omega)), nm_o, q_1, iI_sub, show ((e + 1 : Nat) : Int) - 1 = (e : Int) from by omega, e9, bv_o e1, bd_e, gd_t (by decide)]
    · unfold fn_X12_undo
      rw [t51, if_neg (i0_ne (by omega) (by omega)), nm_o, nm_o, q_1, iI_sub, show ((e + 1 : Nat) : Int) - 1 = (e : Int) from by omega, show (sI z1 172 51 (iI (e : Int))).1 172 52 = iI ((n - (e + 1) : Nat) : Int) from by rw [sI_at, if_neg (by omega)]; exact t52, iI_add, show ((n - (e + 1) : Nat) : Int) + 1 = ((n - e : Nat) : Int) from by omega, hz2, show z2.1 172 51 = iI (e : Int) from by rw [← hz2, sI_at, if_neg (by omega), sI_at, if_pos rfl], q_171, iI_mul, show (171 : Int) * (e : Int) = ((171 * e : Nat) : Int) from by omega, bv_o e3]
    · refine MB_cp (a10 e (by omega)) hV1.1.2 (fun j hj => ?_)
      rw [Nat.zero_add, (t1 j hj).2, z99]
    · refine ⟨ha, e, n, by omega, a2, ?_, ?_, ?_, ?_, rfl, a8, fun k hk => (a9 k hk).ex fun f hf => (y3 (147 + f) k (by unfold NC; omega) (by omega) (by omega) (by omega) (by omega)).1, fun k hk => ?_, fun k hk hk' => ?_⟩
      · exact ((x2 146 9 (by unfold NC; omega)).1.trans e9) ▸ ((y2 146 9 (by omega)).tr (t3 146 9 (by omega) (by omega))).1
      · rw [(y3 146 10 (by unfold NC; omega) (by omega) (by omega) (by omega) (by omega)).1, a4]
      · rw [(t3 172 51 (by omega) (by omega)).1, ← hz2, sI_at, if_neg (by omega), sI_at, if_pos rfl]
      · rw [(t3 172 52 (by omega) (by omega)).1, ← hz2, sI_at, if_pos rfl]
      · refine MB_cp (a10 k (by omega)) (a8 k (by omega)).1.2 (fun j hj => ?_)
        rw [t2 _ (by omega), z99]
      · by_cases hke : k = e
        · subst hke
          rw [a7]
          refine MB_cp h.mb h.vb.1.2 (fun j hj => ?_)
          rw [(t1 j hj).1, z97, Nat.zero_add]
        · refine MB_cp (a11 k (by omega) hk') (a8 (k + 1) (by omega)).1.2 (fun j hj => ?_)
          rw [t2 _ (by omega), z99]
theorem s_redo (h : RD z c F0 F1 b) : Same fn_X11_redo fn_X12_redo z := by
  have hC := h.vc
  obtain ⟨ha, d, n, a1, a2, a3, a4, a5, a6, a7, a8, a9, a10, a11⟩ := h.2.2.2.2.2.2.2.2
  by_cases hd : d = n
  · refine ⟨0, z, z, ?_, ?_, c, F0, F1, b, h⟩
    · unfold fn_X11_redo fn_X0_doAgain
      rw [a3, a4, if_pos (yle (by omega) (by omega) (by omega)), bd_e, gd_t (by decide)]
    · unfold fn_X12_redo
      rw [a6, hd, Nat.sub_self, if_pos (by decide)]
  · have hV1 := a8 (d + 1) (by omega)
    obtain ⟨z1, e1, x1, x2⟩ := x_carry (i := d) (b' := ha (d + 1)) (by omega) h.xs (a7 ▸ a9 d (by omega))
    have h9 : z1.1 146 9 = iI d := (x2 146 9 (by unfold NC; omega)).1.trans a3
    generalize hz1 : sI z1 146 9 (iI ((d + 1 : Nat) : Int)) = z1'
    have x3 : ∀ a k, NC a k → ¬ (a = 146 ∧ k = 9) → SA z z1' a k := fun a k g1 g2 => by
      rw [← hz1]
      exact (x2 a k g1).tr (sa_I rfl g2)
    have t51 : z1'.1 172 51 = iI (d : Int) := (x3 172 51 (by unfold NC; omega) (by omega)).1.trans a5
    have t52 : z1'.1 172 52 = iI ((n - d : Nat) : Int) := (x3 172 52 (by unfold NC; omega) (by omega)).1.trans a6
    obtain ⟨z2, e2, t1, t2, t3⟩ := m_turn' (o := 171 * d) (by omega) z1'
    generalize hz3 : sI (sI z2 172 51 (iI ((d + 1 : Nat) : Int))) 172 52 (iI ((n - (d + 1) : Nat) : Int)) = z3
    have y2 : ∀ a k, ¬ (a = 172 ∧ (k = 51 ∨ k = 52)) → SA z2 z3 a k := fun a k g => by
      rw [← hz3]
      exact (sa_I rfl (by omega)).tr (sa_I rfl (by omega))
    have y3 : ∀ a k, NC a k → ¬ (a = 146 ∧ k = 9) → ¬ (a = 172 ∧ (k = 51 ∨ k = 52)) → a ≠ 199 → a ≠ 197 → SA z z3 a k := fun a k g1 g2 g3 g4 g5 => ((x3 a k g1 g2).tr (t3 a k g4 g5)).tr (y2 a k g3)
    have z97 : ∀ j, z1'.1 197 j = z.1 197 j := fun j => (x3 197 j (by unfold NC; omega) (by omega)).1
    have z99 : ∀ j, z1'.1 199 j = z.1 199 j := fun j => (x3 199 j (by unfold NC; omega) (by omega)).1
    refine ⟨1, z1', z3, ?_, ?_, c, F0, F1, ha (d + 1), RD_act h (fun a k g1 g2 g3 => y3 a k (NC_PS g1 g2) (by unfold PA at g3; omega) (by unfold PA at g3; omega) (by unfold PA at g3; omega) (by unfold PB at g2; omega)) ⟨hV1, x1.fr hV1.1.2 fun a k g => ?_, ?_⟩ ?_⟩
    · unfold fn_X11_redo fn_X0_doAgain
      rw [a3, a4, if_neg (nle (by omega) (by omega) (by omega)), if_pos (by rw [q_40]; exact ylt (by omega) (by omega) (by omega)), bv_o e1, nm_o, h9, k1, hz1, bd_e, gd_t (by decide)]
    · unfold fn_X12_redo
      rw [t52, if_neg (i0_ne (by omega) (by omega)), t51, q_171, iI_mul, show (171 : Int) * (d : Int) = ((171 * d : Nat) : Int) from by omega, bv_o e2, nm_o, nm_o, (t3 172 51 (by omega) (by omega)).1, t51, k1, show (sI z2 172 51 (iI ((d + 1 : Nat) : Int))).1 172 52 = iI ((n - d : Nat) : Int) from by rw [sI_at, if_neg (by omega), (t3 172 52 (by omega) (by omega)).1]; exact t52, q_1, iI_sub, show ((n - d : Nat) : Int) - 1 = ((n - (d + 1) : Nat) : Int) from by omega, hz3]
    · rw [show SA z1 z3 a k = SA z1 z3 a k from rfl]
      refine (show SA z1 z1' a k from ?_).tr ((t3 a k (by omega) (by omega)).tr (y2 a k (by omega)))
      rw [← hz1]
      exact sa_Ia rfl (by omega)
    · refine MB_cp (a11 d (Nat.le_refl d) (by omega)) hV1.1.2 (fun j hj => ?_)
      rw [Nat.zero_add, (y2 197 j (by omega)).1, (t1 j hj).2, z99]
    · refine ⟨ha, d + 1, n, by omega, a2, ?_, ?_, ?_, ?_, rfl, a8, fun k hk => (a9 k hk).ex fun f hf => (y3 (147 + f) k (by unfold NC; omega) (by omega) (by omega) (by omega) (by omega)).1, fun k hk => ?_, fun k hk hk' => ?_⟩
      · rw [(y2 146 9 (by omega)).1, (t3 146 9 (by omega) (by omega)).1, ← hz1, sI_at, if_pos rfl]
      · rw [(y3 146 10 (by unfold NC; omega) (by omega) (by omega) (by omega) (by omega)).1, a4]
      · rw [← hz3, sI_at, if_neg (by omega), sI_at, if_pos rfl]
      · rw [← hz3, sI_at, if_pos rfl]
      · by_cases hke : k = d
        · subst hke
          rw [a7]
          refine MB_cp h.mb h.vb.1.2 (fun j hj => ?_)
          rw [(y2 199 _ (by omega)).1, (t1 j hj).1, z97, Nat.zero_add]
        · refine MB_cp (a10 k (by omega)) (a8 k (by omega)).1.2 (fun j hj => ?_)
          rw [(y2 199 _ (by omega)).1, t2 _ (by omega), z99]
      · refine MB_cp (a11 k (by omega) hk') (a8 (k + 1) (by omega)).1.2 (fun j hj => ?_)
        rw [(y2 199 _ (by omega)).1, t2 _ (by omega), z99]
end
