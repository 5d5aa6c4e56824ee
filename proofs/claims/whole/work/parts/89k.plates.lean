section
variable {z w : St} {c : RC} {F0 F1 : FO} {b b' : BD}
/-! sums -/
theorem sumf_ext {f g : Nat → Int} : ∀ n : Nat, (∀ k, k < n → f k = g k) → sumf f n = sumf g n := by
  intro n
  induction n with
  | zero => intro _; rfl
  | succ n ih => intro h; rw [sumf, sumf, ih (fun k hk => h k (by omega)), h n (by omega)]
theorem sumf_add (f g : Nat → Int) : ∀ n : Nat, sumf (fun k => f k + g k) n = sumf f n + sumf g n := by
  intro n
  induction n with
  | zero => rfl
  | succ n ih => rw [sumf, sumf, sumf, ih]; omega
theorem sumf_zero : ∀ n : Nat, sumf (fun _ => 0) n = 0 := by
  intro n
  induction n with
  | zero => rfl
  | succ n ih => rw [sumf, ih]; rfl
theorem sumf_swap (t : Nat → Nat → Int) (n : Nat) : ∀ m : Nat, sumf (fun g => sumf (fun p => t g p) n) m = sumf (fun p => sumf (fun g => t g p) m) n := by
  intro m
  induction m with
  | zero => exact (sumf_zero n).symm
  | succ m ih =>
    rw [sumf, ih, ← sumf_add]
    exact sumf_ext n fun k _ => rfl
theorem sumf_b {f : Nat → Int} (h : ∀ k, 0 ≤ f k ∧ f k ≤ 1) : ∀ n : Nat, 0 ≤ sumf f n ∧ sumf f n ≤ n := by
  intro n
  induction n with
  | zero => exact ⟨Int.le_refl 0, Int.le_refl 0⟩
  | succ n ih => rw [sumf]; have := h n; omega
theorem tr_r (P : Prop) [Decidable P] : 0 ≤ tr P ∧ tr P ≤ 1 := by
  rcases tr_b P with h | h <;> omega
theorem count_one {b : BD} {g : Int} : ∀ n : Nat, (∀ p q : Nat, p < n → q < n → p ≠ q → pc b p 6 = g → pc b q 6 ≠ g) → sumf (fun p => tr (pc b p 6 = g)) n = tr (pof b g n ≠ -1) := by
  intro n
  induction n with
  | zero => intro _; rfl
  | succ n ih =>
    intro h
    rw [sumf, ih (fun p q hp hq => h p q (by omega) (by omega)), pof]
    by_cases hg : pc b n 6 = g
    · rw [if_pos hg, tr_1 hg, tr_n (P := pof b g n ≠ -1) (fun q => q ((pof_none b g n).mpr fun p hp e => h n p (by omega) (by omega) (by omega) hg e)), tr_1 (by omega)]
      rfl
    · rw [if_neg hg, tr_n hg]
      omega
/-- as many plates are filled as pieces lie on plates -/
theorem plates (hC : VC c) (hV : VB c b) : sumf (fun g => tr (hp b (g : Int) ≠ -1)) 6 = sumf (fun p => tr (pc b p 6 ≠ -1)) (b 168).toNat := by
  have h0 := hV.1
  have h6 := hC.2.1
  have e1 : sumf (fun g => tr (hp b (g : Int) ≠ -1)) 6 = sumf (fun g => sumf (fun p => tr (pc b p 6 = (g : Int))) (b 168).toNat) 6 :=
    sumf_ext 6 fun g hg => (count_one _ fun p q hp hq hpq e e' => by
      have := hV.2.2.2.1 p q (by omega) (by omega) hpq (by rw [e, e'])
      omega).symm
  rw [e1, sumf_swap]
  refine sumf_ext _ fun p hp => ?_
  have hv := ((hV.2.2.1 p (by omega)).s hC).2.2.2.2.2.2.2.2.2.2
  generalize pc b p 6 = x at hv
  have hx : x = -1 ∨ x = 0 ∨ x = 1 ∨ x = 2 ∨ x = 3 ∨ x = 4 ∨ x = 5 := by omega
  rcases hx with rfl | rfl | rfl | rfl | rfl | rfl | rfl <;> decide
theorem x_plates (hC : VC c) (hV : VB c b) (hB : XB 34 z b) : fn_X1_platesFilled 34 z = some (iI (sumf (fun g => tr (hp b (g : Int) ≠ -1)) 6), z) := by
  have h0 := hV.1
  obtain ⟨m, hm⟩ := loopK (fun m k => fn_X1_platesFilled_4 m 34 (iI (sumf (fun g => tr (hp b (g : Int) ≠ -1)) k)) (iI (k : Int)) z) 6 (by omega) (fun k m hk => by
    have hb := hp_b hV k
    show fn_X1_platesFilled_4 (m + 1) _ _ _ _ = fn_X1_platesFilled_4 m _ _ _ _
    rw [fn_X1_platesFilled_4, if_neg (by rw [q_6]; exact nle (by omega) (by omega) (by omega)), gd_t (iI_ix (by omega)), iI_clampN (by omega), show z.1 (34 + 26) k = iI (hp b k) from hB.2.2.2.2 k hk, sumf]
    unfold fn_X1_platesFilled_23
    by_cases hq : hp b k = -1
    · rw [if_pos (by rw [hq, q_m1]), k1, tr_n (P := hp b (k : Int) ≠ -1) (fun g => g hq), Int.add_zero]
    · rw [if_neg (by rw [q_m1]; exact neq (by omega) (by omega) hq), k1, tr_1 (P := hp b (k : Int) ≠ -1) hq, q_1, iI_add])
  unfold fn_X1_platesFilled
  refine (show _ = fn_X1_platesFilled_4 fu 34 (iI 0) (iI ((0 : Nat) : Int)) z from by rw [z0, ← q_0]).trans (hm.trans ?_)
  rw [fn_X1_platesFilled_4, if_pos (by rw [q_6]; exact yle (by omega) (by omega) (by omega))]
theorem m_plates (hC : VC c) (hV : VB c b) (hB : MB 197 0 z b) : fn_X12_give_60 fu 0 0 z = some (iI (sumf (fun p => tr (pc b p 6 ≠ -1)) (b 168).toNat), z) := by
  have h0 := hV.1
  have e168 : z.1 197 168 = iI (b 168) := hB.1
  obtain ⟨m, hm⟩ := loopK (fun m k => fn_X12_give_60 m (iI (sumf (fun p => tr (pc b p 6 ≠ -1)) k)) (iI (k : Int)) z) (b 168).toNat (by omega) (fun k m hk => by
    have hp : (k : Int) < b 168 := by omega
    have h24 := hV.n hp
    have hs := (hV.2.2.1 k hp).s hC
    have e := hB.2.2.2 k hp 6 (by omega)
    rw [Nat.zero_add] at e
    show fn_X12_give_60 (m + 1) _ _ _ = fn_X12_give_60 m _ _ _
    rw [fn_X12_give_60, c_168, e168, if_neg (nle (by omega) (by omega) (by omega)), gd_t (x7_6 h24), c7_6 h24, e, sumf]
    unfold fn_X12_give_96
    by_cases hq : pc b k 6 = -1
    · rw [if_pos (by rw [hq, q_m1]), bd_o m_truth0, nm_o, k1, tr_n (P := pc b k 6 ≠ -1) (fun g => g hq), q_0, iI_add]
    · rw [if_neg (by rw [q_m1]; exact neq (by omega) (by omega) hq), bd_o m_truth1, nm_o, k1, tr_1 (P := pc b k 6 ≠ -1) hq, q_1, iI_add])
  refine (show _ = fn_X12_give_60 fu (iI 0) (iI ((0 : Nat) : Int)) z from by rw [z0, ← q_0]).trans (hm.trans ?_)
  rw [fn_X12_give_60, c_168, e168, if_pos (yle (by omega) (by omega) (by omega))]
theorem MB_put {a p : Nat} {g : Int} (h : MB a 0 z b) (hp : (p : Int) < b 168) : MB a 0 (sI z a (7 * p + 6) (iI g)) (bPut b p g) := MB_mk fun j hj => by
  rw [(bPut_168 b p g).1] at hj
  rw [Nat.zero_add, sI_at]
  unfold bPut up
  by_cases hjp : j = 7 * p + 6
  · rw [if_pos hjp, if_pos hjp]
  · rw [if_neg hjp, if_neg hjp]
    have := MB_v h hj
    rwa [Nat.zero_add] at this
/-- what the reference may change in an act -/
def MFr (a k : Nat) : Prop := ¬ a = 197 ∧ ¬ a = 198 ∧ ¬ (a = 172 ∧ k = 51) ∧ ¬ (a = 172 ∧ k = 52) ∧ ¬ a = 199 ∧ ¬ a = 184 ∧ ¬ a = 182
theorem act_RD {v1 v2 v3 v4 : Int32} (h : RD z c F0 F1 b) (hE : ACT c F1 (en v1 v2 v3 v4 (iI (b 170)) (iI (b 169))) b b') (hV' : VB c b') : ∃ z1 d, d ≤ 40 ∧ fn_X0_perform v1 v2 v3 v4 z = some z1 ∧ XB 34 z1 b' ∧ z1.1 172 51 = iI ((d : Nat) : Int) ∧ RM (ldz z1) c F0 F1 b ∧ MB 197 0 z1 b ∧ MR z1 c ∧ ∀ z2, MB 197 0 z2 b' → z2.1 172 51 = iI ((d - sh d + 1 : Nat) : Int) → z2.1 172 52 = 0 → (∀ j, j < 171 * (d - sh d) → z2.1 199 j = z1.1 199 (j + 171 * sh d)) → (∀ j, j < 171 → z2.1 199 (171 * (d - sh d) + j) = z1.1 197 j) → (∀ a k, MFr a k → SA z1 z2 a k) → RD z2 c F0 F1 b' := by
  have hV := h.vb
  have hC := h.vc
  obtain ⟨ha, d, n', a1, a2, a3, a4, a5, a6, a7, a8, a9, a10, a11⟩ := h.2.2.2.2.2.2.2.2
  obtain ⟨z1, e1, x1, x2, x3, x4, x5, x6⟩ := x_perform h.xs (by omega) a3 hE
  have t : ∀ a k, 172 ≤ a → SA z z1 a k := fun a k g => x6 a k (by unfold NC; omega) (by omega)
  have hM1 : RM (ldz z1) c F0 F1 b :=
    ⟨hC, hV, h.vf0, h.vf1, (h.mr.fr fun a k g => t a k (by unfold QR at g; omega)).fr fun a k g => ldz_S (by unfold QR at g; omega), ldz_B (h.mb.fr fun k => t 197 k (by omega)) hV.1.2, (h.mf0.fr fun a k g => t a k (by omega)).fr fun a k g => ldz_S (by omega), (h.mf1.fr fun a k g => t a k (by omega)).fr fun a k g => ldz_S (by omega)⟩
  refine ⟨z1, d, by omega, e1, x1, (t 172 51 (by omega)).1.trans a5, hM1, h.mb.fr fun k => t 197 k (by omega), h.mr.fr fun a k g => t a k (by unfold QR at g; omega), fun z2 m1 m2 m3 m4 m5 f2 => ?_⟩
  refine RD_act h (fun a k g1 g2 g3 => (x6 a k (NC_PS g1 g2) (by unfold PA at g3; unfold PS at g1; omega)).tr (f2 a k (by unfold MFr; unfold PA at g3; unfold PB at g2; unfold PS at g1; omega))) ⟨hV', x1.fr hV'.1.2 fun a k g => f2 a k (by unfold MFr; omega), m1⟩ ?_
  refine RA_mk a1 a2 a7 a8 a9 a10 ((f2 146 9 (by unfold MFr; omega)).1.trans x2) ((f2 146 10 (by unfold MFr; omega)).1.trans x3) m2 m3 (fun k f hk hf => (f2 (147 + f) k (by unfold MFr; omega)).1.trans (x4 k f hk hf)) (fun f hf => (f2 (147 + f) _ (by unfold MFr; omega)).1.trans (x5 f hf)) (fun j hj => ?_) (fun j hj => ?_) h.mb hE hV'
  · rw [m4 j hj, (t 199 _ (by omega)).1]
  · rw [m5 j hj, (t 197 _ (by omega)).1]
theorem s_give (u v : Int32) (h : RD z c F0 F1 b) : Same (fn_X11_give u v) (fn_X12_give u v) z := by
  obtain ⟨n, rfl, hn⟩ := ii u
  obtain ⟨y, rfl, hy⟩ := ii v
  have hV := h.vb
  have hC := h.vc
  have hv0 := hV.1
  have hM := h.ld
  obtain ⟨-, -, -, -, hR', hB', -, -⟩ := hM
  by_cases h1 : (0 ≤ y ∧ y < c 6 1) ∧ (0 ≤ n ∧ n < b 168 ∧ pc b n.toNat 6 = -1) ∧ hp b y = -1
  · obtain ⟨⟨y0, y1⟩, ⟨n0, n1, n2⟩, hh⟩ := h1
    obtain ⟨p, rfl⟩ : ∃ p : Nat, n = p := ⟨n.toNat, by omega⟩
    obtain ⟨g, rfl⟩ : ∃ g : Nat, y = g := ⟨y.toNat, by omega⟩
    rw [Int.toNat_natCast] at n2
    have g6 := hC.g y1
    have p24 := hV.n n1
    have hV' := VB_give hV (p := p) y1 hh
    obtain ⟨z1, d, hd, e1, x1, d51, M1, B1, R1, K⟩ := act_RD (v1 := 1) (v2 := iI p) (v3 := iI g) (v4 := 0) h (Or.inr (Or.inl ⟨p, g, rfl, rfl, rfl, n1, y1, n2, hh, rfl⟩)) hV'
    obtain ⟨z8, e8, a1, a2, a3, a4, a5⟩ := m_act (z := ldz z1) (d := d) hd ((ldz_S (by omega)).1.trans d51)
    have B8 : MB 197 0 z8 b := (B1.fr fun k => ldz_S (by omega)).fr fun k => a5 197 k (by omega) (by omega)
    have B9 := MB_put (g := (g : Int)) B8 n1
    have e2 : fn_X12_give (iI p) (iI g) z1 = some (iI (sumf (fun q => tr (pc (bPut b p g) q 6 ≠ -1)) (bPut b p g 168).toNat), sI z8 197 (7 * p + 6) (iI g)) := by
      unfold fn_X12_give
      rw [bv_o (m_load z1), bd_o (m_isPiece (B1.fr fun k => ldz_S (by omega)) hV hn), tr_1 ⟨n0, n1⟩, if_neg (by decide), bd_o (m_isGuest M1.2.2.2.2.1 hC hy), tr_1 ⟨y0, y1⟩, if_neg (by decide), bd_o (m_isFree hC M1.2.2.2.2.2.1 hV n1), tr_1 n2, if_neg (by decide), bd_o (m_pieceOf hC M1.2.2.2.2.2.1 hV hy), hh, if_pos (by decide), bv_o e8, gd_t (x7_6 p24), nm_o, c7_6 p24]
      exact m_plates hC hV' B9
    have f2 := fun a k (g : MFr a k) => ff_X12_give (a := a) (k := k) (by unfold MFr at g; show ¬ a = 198 ∧ ¬ (a = 172 ∧ k = 51) ∧ ¬ (a = 172 ∧ k = 52) ∧ ¬ a = 199 ∧ ¬ a = 197; omega) e2
    refine ⟨_, z1, _, ?_, e2, c, F0, F1, bPut b p g, K _ B9 (by rw [(sa_Ia (a := 172) (k := 51) rfl (by omega)).1]; exact a1) (by rw [(sa_Ia (a := 172) (k := 52) rfl (by omega)).1]; exact a2) (fun j hj => ?_) (fun j hj => ?_) f2⟩
    · unfold fn_X11_give
      rw [bd_o (x_isGuest h.xr hC hy), tr_1 ⟨y0, y1⟩, if_neg (by decide), bd_o (x_isFreeP hC h.xb hV n1), tr_1 n2, if_neg (by decide), gd_t (iI_ix (by omega)), iI_clampN (by omega), show z.1 60 g = iI (hp b g) from h.xb.2.2.2.2 g g6, hh, if_pos (by decide), bv_o e1, bd_o (x_plates hC hV' x1), plates hC hV']
    · rw [(sa_Ia (a := 199) (k := j) rfl (by omega)).1, a3 j hj, (ldz_S (by omega)).1]
    · rw [(sa_Ia (a := 199) rfl (by omega)).1, a4 j hj, (ldz_S (by omega)).1]
  · refine ⟨-1, z, ldz z, ?_, ?_, c, F0, F1, b, h.fr fun a k g => ldz_S (by unfold PS at g; omega)⟩
    · unfold fn_X11_give
      rw [bd_o (x_isGuest h.xr hC hy)]
      by_cases g1 : 0 ≤ y ∧ y < c 6 1
      · rw [tr_1 g1, if_neg (by decide), bd_o (x_isFree hC h.xb hV hn)]
        by_cases g2 : 0 ≤ n ∧ n < b 168 ∧ pc b n.toNat 6 = -1
        · have g6 := hC.g (t := y.toNat) (by omega)
          have hb := hp_b hV y
          rw [tr_1 g2, if_neg (by decide), nn g1.1, gd_t (iI_ix (by omega)), iI_clampN (by omega), show z.1 60 y.toNat = iI (hp b y) from by rw [show hp b y = hp b ((y.toNat : Nat) : Int) from by congr 1; omega]; exact h.xb.2.2.2.2 _ g6, if_neg (by rw [q_m1]; exact neq (by omega) (by omega) (fun q => h1 ⟨g1, g2, q⟩))]
        · rw [tr_n g2, if_pos (show iI 0 = 0 from q_0.symm)]
      · rw [tr_n g1, if_pos (show iI 0 = 0 from q_0.symm)]
    · unfold fn_X12_give
      rw [bv_o (m_load z), bd_o (m_isPiece (h.mb.fr fun k => ldz_S (by omega)) hV hn)]
      by_cases g2 : 0 ≤ n ∧ n < b 168
      · rw [tr_1 g2, if_neg (by decide), bd_o (m_isGuest hR' hC hy)]
        by_cases g1 : 0 ≤ y ∧ y < c 6 1
        · have hb := hp_b hV y
          rw [tr_1 g1, if_neg (by decide), nn g2.1, bd_o (m_isFree hC hB' hV (by omega))]
          by_cases g3 : pc b n.toNat 6 = -1
          · rw [tr_1 g3, if_neg (by decide), bd_o (m_pieceOf hC hB' hV hy), if_neg (by rw [q_0]; exact nlt (by omega) (by omega) (fun q => h1 ⟨g1, ⟨g2.1, g2.2, g3⟩, by omega⟩))]
          · rw [tr_n g3, if_pos (show iI 0 = 0 from q_0.symm)]
        · rw [tr_n g1, if_pos (show iI 0 = 0 from q_0.symm)]
      · rw [tr_n g2, if_pos (show iI 0 = 0 from q_0.symm)]
theorem s_back (v : Int32) (h : RD z c F0 F1 b) : Same (fn_X11_back v) (fn_X12_back v) z := by
  obtain ⟨y, rfl, hy⟩ := ii v
  have hV := h.vb
  have hC := h.vc
  have hv0 := hV.1
  have hb := hp_b hV y
  obtain ⟨-, -, -, -, hR', hB', -, -⟩ := h.ld
  by_cases h1 : (0 ≤ y ∧ y < c 6 1) ∧ hp b y ≠ -1
  · obtain ⟨⟨y0, y1⟩, hh⟩ := h1
    obtain ⟨g, rfl⟩ : ∃ g : Nat, y = g := ⟨y.toNat, by omega⟩
    obtain ⟨p, hp1⟩ : ∃ p : Nat, hp b g = p := ⟨(hp b g).toNat, by omega⟩
    have n1 : (p : Int) < b 168 := by omega
    have g6 := hC.g y1
    have p24 := hV.n n1
    have hV' := VB_lift hV n1
    obtain ⟨z1, d, hd, e1, x1, d51, M1, B1, R1, K⟩ := act_RD (v1 := 2) (v2 := iI p) (v3 := iI g) (v4 := 0) h (Or.inr (Or.inr (Or.inl ⟨p, g, rfl, rfl, rfl, n1, y1, hp1, rfl⟩))) hV'
    obtain ⟨z8, e8, a1, a2, a3, a4, a5⟩ := m_act (z := ldz z1) (d := d) hd ((ldz_S (by omega)).1.trans d51)
    have B8 : MB 197 0 z8 b := (B1.fr fun k => ldz_S (by omega)).fr fun k => a5 197 k (by omega) (by omega)
    have B9 := MB_put (g := -1) B8 n1
    have e2 : fn_X12_back (iI g) z1 = some (iI p, sI z8 197 (7 * p + 6) (iI (-1))) := by
      unfold fn_X12_back fn_X12_back_21
      rw [bv_o (m_load z1), bd_o (m_isGuest M1.2.2.2.2.1 hC hy), tr_1 ⟨y0, y1⟩, if_neg (by decide), bd_o (m_pieceOf hC M1.2.2.2.2.2.1 hV hy), hp1, if_pos (by rw [q_0]; exact yle (by omega) (by omega) (by omega)), bv_o e8, gd_t (x7_6 p24), nm_o, c7_6 p24, q_m1]
    have f2 := fun a k (g : MFr a k) => ff_X12_back (a := a) (k := k) (by unfold MFr at g; show ¬ (a = 172 ∧ k = 51) ∧ ¬ (a = 172 ∧ k = 52) ∧ ¬ a = 199 ∧ ¬ a = 197 ∧ ¬ a = 198; omega) e2
    refine ⟨_, z1, _, ?_, e2, c, F0, F1, bPut b p (-1), K _ B9 (by rw [(sa_Ia (a := 172) (k := 51) rfl (by omega)).1]; exact a1) (by rw [(sa_Ia (a := 172) (k := 52) rfl (by omega)).1]; exact a2) (fun j hj => ?_) (fun j hj => ?_) f2⟩
    · unfold fn_X11_back
      rw [bd_o (x_isGuest h.xr hC hy), tr_1 ⟨y0, y1⟩, if_neg (by decide), gd_t (iI_ix (by omega)), iI_clampN (by omega), show z.1 60 g = iI (hp b g) from h.xb.2.2.2.2 g g6, hp1, if_neg (by rw [q_m1]; exact neq (by omega) (by omega) (by omega)), gd_t (iI_ix (by omega)), nm_o, bv_o e1]
    · rw [(sa_Ia (a := 199) (k := j) rfl (by omega)).1, a3 j hj, (ldz_S (by omega)).1]
    · rw [(sa_Ia (a := 199) rfl (by omega)).1, a4 j hj, (ldz_S (by omega)).1]
  · refine ⟨-1, z, ldz z, ?_, ?_, c, F0, F1, b, h.fr fun a k g => ldz_S (by unfold PS at g; omega)⟩
    · unfold fn_X11_back
      rw [bd_o (x_isGuest h.xr hC hy)]
      by_cases g1 : 0 ≤ y ∧ y < c 6 1
      · have g6 := hC.g (t := y.toNat) (by omega)
        rw [tr_1 g1, if_neg (by decide), nn g1.1, gd_t (iI_ix (by omega)), iI_clampN (by omega), show z.1 60 y.toNat = iI (hp b y) from by rw [show hp b y = hp b ((y.toNat : Nat) : Int) from by congr 1; omega]; exact h.xb.2.2.2.2 _ g6, if_pos (by rw [show hp b y = -1 from Decidable.byContradiction fun q => h1 ⟨g1, q⟩, q_m1])]
      · rw [tr_n g1, if_pos (show iI 0 = 0 from q_0.symm)]
    · unfold fn_X12_back fn_X12_back_21
      rw [bv_o (m_load z), bd_o (m_isGuest hR' hC hy)]
      by_cases g1 : 0 ≤ y ∧ y < c 6 1
      · rw [tr_1 g1, if_neg (by decide), bd_o (m_pieceOf hC hB' hV hy), show hp b y = -1 from Decidable.byContradiction fun q => h1 ⟨g1, q⟩, if_neg (by decide)]
      · rw [tr_n g1, if_pos (show iI 0 = 0 from q_0.symm), if_neg (by decide)]
end
