section
variable {z w : St} {c : RC} {F0 F1 : FO} {b : BD}
/-! the reference's orders -/
def hdA (r : Nat) : Nat → Int32
  | 0 => 0
  | i + 1 => hdA r i ||| (1 <<< (iI ((r / 6 ^ i % 6 : Nat) : Int) &&& 31))
theorem hdA_tb {r j : Nat} (hj : j < 32) : ∀ i, tb (hdA r i) j = md i r j := by
  intro i
  induction i with
  | zero => exact tb_0 j
  | succ i ih => rw [hdA, tb_in hj (by omega), ih, md_c]
theorem m_layTurn {M r : Nat} (hM : M ≤ 6) (hr : r < 46656) (hG : (c 6 1).toNat ≤ 6) : ∃ w, fn_X12_layTurn (iI (M : Int)) (iI (r : Int)) (orf (Hu b) (c 6 1).toNat) z = some (iI (tr (vl c b M r = true)), w) ∧ (∀ k, k < M → w.1 203 k = iI ((r / 6 ^ (M - 1 - k) % 6 : Nat) : Int)) ∧ ∀ a j, ¬ a = 203 → SA z w a j := by
  obtain ⟨m, s, ⟨i1, i2⟩, hm⟩ := loopE (fun m i s => fn_X12_layTurn_11 m (orf (Hu b) (c 6 1).toNat) (iI ((r / 6 ^ i : Nat) : Int)) (hdA r i) (iI ((M : Int) - 1 - (i : Int))) s) (fun i s => (∀ k, k < M → M - 1 - k < i → s.1 203 k = iI ((r / 6 ^ (M - 1 - k) % 6 : Nat) : Int)) ∧ ∀ a j, ¬ a = 203 → SA z s a j) M (by omega) z ⟨fun k _ hk => by omega, fun a j _ => SA.rf⟩ (fun i m s hi ⟨i1, i2⟩ => by
    have hq : r / 6 ^ i ≤ r := Nat.div_le_self _ _
    have e1 : iI ((r / 6 ^ i : Nat) : Int) - iI ((r / 6 ^ i : Nat) : Int) / 6 * 6 = iI ((r / 6 ^ i % 6 : Nat) : Int) := by generalize r / 6 ^ i = X at hq ⊢; rw [q_6, iI_mod (by omega) (by omega)]; rfl
    have e2 : iI ((r / 6 ^ i : Nat) : Int) / 6 = iI ((r / 6 ^ (i + 1) : Nat) : Int) := by rw [show r / 6 ^ (i + 1) = r / 6 ^ i / 6 from by rw [p6s, Nat.mul_comm, ← Nat.div_div_eq_div_mul]]; generalize r / 6 ^ i = X at hq ⊢; rw [q_6, iI_div (by omega) (by omega)]; rfl
    have e3 : iI ((M : Int) - 1 - (i : Int)) + -1 = iI ((M : Int) - 1 - ((i + 1 : Nat) : Int)) := by rw [q_m1, iI_add]; congr 1; omega
    have e4 : ((M : Int) - 1 - (i : Int)).toNat = M - 1 - i := by omega
    show ∃ s', _ ∧ fn_X12_layTurn_11 (m + 1) _ _ _ _ _ = fn_X12_layTurn_11 m _ _ _ _ _
    rw [fn_X12_layTurn_11, q_0, if_neg (nlt (by omega) (by omega) (by omega)), gd_t (iI_ix (by omega)), nm_o, nm_o, gd_t (iI_ix (by omega)), nm_o, iI_clamp (by omega), e4, e1, e2, e3, sI_at, if_pos rfl]
    refine ⟨_, ⟨fun k hk hk2 => ?_, fun a j q => (i2 a j q).tr (sa_Ia rfl q)⟩, rfl⟩
    rw [sI_at]
    by_cases e : k = M - 1 - i
    · rw [if_pos e, show M - 1 - k = i from by omega]
    · rw [if_neg e]; exact i1 k hk (by omega))
  refine ⟨s, ?_, fun k hk => i1 k hk (by omega), i2⟩
  unfold fn_X12_layTurn
  rw [nm_o]
  refine (show _ = fn_X12_layTurn_11 fu (orf (Hu b) (c 6 1).toNat) (iI ((r / 6 ^ 0 : Nat) : Int)) (hdA r 0) (iI ((M : Int) - 1 - ((0 : Nat) : Int))) z from by rw [Nat.pow_zero, Nat.div_one, hdA, q_1, iI_sub]; rw [show (M : Int) - 1 - ((0 : Nat) : Int) = (M : Int) - 1 from by omega]).trans (hm.trans ?_)
  show fn_X12_layTurn_11 (m + 1) _ _ _ _ _ = _
  rw [fn_X12_layTurn_11, q_0, if_pos (ylt (by omega) (by omega) (by omega))]
  by_cases hv : vl c b M r = true
  · have : hdA r M = orf (Hu b) (c 6 1).toNat := tb_ext fun j hj => by rw [hdA_tb hj, tb_orf hj _ (by omega)]; exact vl_t hv j hj
    rw [if_pos this, tr_1 hv, q_1]
  · have : ¬ hdA r M = orf (Hu b) (c 6 1).toNat := fun q => hv (vl_of fun j hj => by rw [← hdA_tb hj, q, tb_orf hj _ (by omega)])
    rw [if_neg this, tr_n hv]
theorem m_leastBy {M r : Nat} (hM : 1 ≤ M ∧ M ≤ 6) (hC : VC c) (hV : VB c b) (hB : MB 198 0 z b) (hW : ∀ g : Nat, (g : Int) < c 6 1 → MW z c F0 b g) (hT : ∀ k, k < M → z.1 203 k = iI ((r / 6 ^ (M - 1 - k) % 6 : Nat) : Int)) (hv : vl c b M r = true) : fn_X12_leastBy (iI (M : Int)) z = some ((rn c F0 b M r).2, z) := by
  have hn := hV.1
  have hG := hC.2.1
  obtain ⟨m, ⟨U, L⟩, ⟨i1, i2⟩, hm⟩ := loopE (fun m k (s : Int32 × Int32) => fn_X12_leastBy_9 m (iI (M : Int)) s.1 s.2 (iI (k : Int)) z) (fun k s => (∀ j, j < 32 → tb s.1 j = (rn c F0 b k (r / 6 ^ (M - k))).1 j) ∧ (k = 0 ∨ s.2 = (rn c F0 b k (r / 6 ^ (M - k))).2)) M (by omega) (0, -1000000000) ⟨fun j _ => tb_0 j, Or.inl rfl⟩ (fun k m s hk ⟨i1, i2⟩ => by
    obtain ⟨U, L⟩ := s
    have eq : r / 6 ^ (M - (k + 1)) / 6 = r / 6 ^ (M - k) := by rw [Nat.div_div_eq_div_mul, Nat.mul_comm, ← p6s, show M - (k + 1) + 1 = M - k from by omega]
    have eg : M - 1 - k = M - (k + 1) := by omega
    have hT' := hT k hk
    rw [eg] at hT'
    have hmem : md M r (r / 6 ^ (M - (k + 1)) % 6) = true := by
      have := md_up (n := k + 1) (j := r / 6 ^ (M - (k + 1)) % 6) (M - (k + 1)) r (by rw [md, decide_eq_true rfl, Bool.or_true])
      rwa [show k + 1 + (M - (k + 1)) = M from by omega] at this
    have hS := vl_t hv (r / 6 ^ (M - (k + 1)) % 6) (by omega)
    rw [hmem] at hS
    have hgG : r / 6 ^ (M - (k + 1)) % 6 < (c 6 1).toNat := by
      have := hS.symm
      rw [Bool.and_eq_true] at this
      exact of_decide_eq_true this.2
    have er1 : (rn c F0 b (k + 1) (r / 6 ^ (M - (k + 1)))).1 = fun j => (rn c F0 b k (r / 6 ^ (M - k))).1 j || decide ((j : Int) = PKk c F0 b (r / 6 ^ (M - (k + 1)) % 6) (rn c F0 b k (r / 6 ^ (M - k))).1) := by rw [rn, eq]
    have er2 : (rn c F0 b (k + 1) (r / 6 ^ (M - (k + 1)))).2 = if wkO c F0 b (r / 6 ^ (M - (k + 1)) % 6) (rn c F0 b k (r / 6 ^ (M - k))).1 < (rn c F0 b k (r / 6 ^ (M - k))).2 then wkO c F0 b (r / 6 ^ (M - (k + 1)) % 6) (rn c F0 b k (r / 6 ^ (M - k))).1 else (rn c F0 b k (r / 6 ^ (M - k))).2 := by rw [rn, eq]
    show ∃ s' : Int32 × Int32, ((∀ j, j < 32 → tb s'.1 j = (rn c F0 b (k + 1) (r / 6 ^ (M - (k + 1)))).1 j) ∧ (k + 1 = 0 ∨ s'.2 = (rn c F0 b (k + 1) (r / 6 ^ (M - (k + 1)))).2)) ∧ fn_X12_leastBy_9 (m + 1) (iI (M : Int)) U L (iI (k : Int)) z = fn_X12_leastBy_9 m (iI (M : Int)) s'.1 s'.2 (iI ((k + 1 : Nat) : Int)) z
    rw [er1, er2]
    generalize hgd : r / 6 ^ (M - (k + 1)) % 6 = g at *
    have i1' : ∀ j, j < 32 → tb U j = (rn c F0 b k (r / 6 ^ (M - k))).1 j := i1
    have i2' : k = 0 ∨ L = (rn c F0 b k (r / 6 ^ (M - k))).2 := i2
    have i3' : k = 0 → (rn c F0 b k (r / 6 ^ (M - k))).2 = 2147483647 := fun q => by rw [q]; rfl
    generalize rn c F0 b k (r / 6 ^ (M - k)) = R at *
    obtain ⟨T, L0⟩ := R
    have hb := PKk_b (c := c) (F0 := F0) (b := b) hn g T
    have hz : z.1 203 k = iI ((g : Nat) : Int) := hT'
    have fin : ∀ U' : Int32, (∀ j, j < 32 → tb U' j = (T j || decide ((j : Int) = PKk c F0 b g T))) → ∃ s' : Int32 × Int32, ((∀ j, j < 32 → tb s'.1 j = (fun j => T j || decide (((j : Nat) : Int) = PKk c F0 b g T)) j) ∧ (k + 1 = 0 ∨ s'.2 = if wkO c F0 b g T < L0 then wkO c F0 b g T else L0)) ∧ fn_X12_leastBy_70 (fn_X12_leastBy_9 m) (iI (M : Int)) U' L (iI (k : Int)) (wkO c F0 b g T) z = fn_X12_leastBy_9 m (iI (M : Int)) s'.1 s'.2 (iI ((k + 1 : Nat) : Int)) z := by
      intro U' hU'
      refine ⟨(U', if wkO c F0 b g T < L0 then wkO c F0 b g T else L0), ⟨hU', Or.inr rfl⟩, ?_⟩
      unfold fn_X12_leastBy_70 fn_X12_leastBy_81 fn_X12_leastBy_84
      rw [k1]
      by_cases k0 : k = 0
      · rw [if_pos (show iI (k : Int) = 0 from by rw [k0]; exact z0)]
        have hL : L0 = 2147483647 := i3' k0
        by_cases q : wkO c F0 b g T < L0
        · rw [if_pos q]
        · rw [if_neg q, show wkO c F0 b g T = L0 from by
            rw [hL] at q ⊢
            refine Int32.toInt_inj.mp ?_
            rw [Int32.lt_iff_toInt_lt, show (2147483647 : Int32).toInt = 2147483647 from by decide] at q
            have := iI_hi (wkO c F0 b g T)
            rw [show (2147483647 : Int32).toInt = 2147483647 from by decide]
            omega]
      · rw [if_neg (show ¬ iI (k : Int) = 0 from by rw [q_0]; exact neq (by omega) (by omega) (by omega)), show L = L0 from i2'.resolve_left k0]
        by_cases q : wkO c F0 b g T < L0
        · rw [if_pos q, if_neg (show ¬ L0 ≤ wkO c F0 b g T from Int32.not_le.mpr q)]
        · rw [if_neg q, if_pos (show L0 ≤ wkO c F0 b g T from Int32.not_lt.mp q)]
    rw [fn_X12_leastBy_9, if_neg (nle (by omega) (by omega) (by omega)), gd_t (iI_ix (by omega)), iI_clampN (by omega), hz, bd_o (m_bestFor (T := T) (by omega) hC hB hV (hW g (by omega)) (fun j hj => i1' j (by omega)))]
    unfold fn_X12_leastBy_56
    by_cases q : PKk c F0 b g T = -1
    · have ewk : wkO c F0 b g T = 0 := by unfold wkO; rw [if_pos q]
      rw [if_neg (show ¬ 0 ≤ iI (PKk c F0 b g T) from by rw [q]; decide), if_pos (show iI (PKk c F0 b g T) < 0 from by rw [q]; decide), ← ewk]
      exact fin U fun j hj => by rw [i1' j hj, decide_eq_false (by omega), Bool.or_false]
    · have ewk : wkO c F0 b g T = wt c F0 b g (PKk c F0 b g T).toNat := by unfold wkO; rw [if_neg q]
      have ek : (24 : Int32) * iI (g : Int) + iI (PKk c F0 b g T) = iI ((24 * g + (PKk c F0 b g T).toNat : Nat) : Int) := by rw [q_24, iI_mul, iI_add]; congr 1; omega
      rw [if_pos (show 0 ≤ iI (PKk c F0 b g T) from by rw [q_0]; exact yle (by omega) (by omega) (by omega)), gd_t (iI_ix (by omega)), hz, ek, gd_t (iI_ix (by omega)), iI_clampN (by omega), hW g (by omega) _ (by omega), ← ewk, if_neg (show ¬ iI (PKk c F0 b g T) < 0 from by rw [q_0]; exact nlt (by omega) (by omega) (by omega)), nm_o]
      exact fin _ fun j hj => by rw [nn (show 0 ≤ PKk c F0 b g T from by omega), tb_in hj (by omega), i1' j hj, show decide ((j : Int) = PKk c F0 b g T) = decide (j = (PKk c F0 b g T).toNat) from decide_eq_decide.mpr (by omega)])
  unfold fn_X12_leastBy
  refine (show _ = fn_X12_leastBy_9 fu (iI (M : Int)) 0 (-1000000000) (iI ((0 : Nat) : Int)) z from by rw [z0]).trans (hm.trans ?_)
  show fn_X12_leastBy_9 (m + 1) _ U L _ _ = _
  have i2' : L = (rn c F0 b M (r / 6 ^ (M - M))).2 := i2.resolve_left (by omega)
  rw [fn_X12_leastBy_9, if_pos (yle (by omega) (by omega) (by omega)), i2', Nat.sub_self, Nat.pow_zero, Nat.div_one]
/-- the best order of the reference -/
def bOr (c : RC) (F : FO) (b : BD) (M : Nat) : Nat → Bool × Int32 × Nat := fo c F b M (false, -1000000000, 0) 0
theorem bOr_s (M r : Nat) : bOr c F0 b M (r + 1) = uo c F0 b M (bOr c F0 b M r) r := by unfold bOr; rw [fo, Nat.zero_add]
theorem p6le {M : Nat} (h : M ≤ 6) : 6 ^ M ≤ 46656 := Nat.le_trans (Nat.pow_le_pow_right (by omega) h) (by decide)
theorem m_order (hl : RM (ldz (sI z 172 65 0)) c F0 F1 b) {M : Nat} (hM : (M : Int) = cB6 (Hu b) (c 6 1).toNat) : ∃ w, fn_X12_order z = some (if M = 0 then -1000000000 else (bOr c F0 b M (6 ^ M)).2.1, w) ∧ (if M = 0 then w.1 172 65 = 0 else w.1 172 65 = iI (M : Int) ∧ ((bOr c F0 b M (6 ^ M)).1 = true → ∀ i, i < M → w.1 205 i = iI (((bOr c F0 b M (6 ^ M)).2.2 / 6 ^ (M - 1 - i) % 6 : Nat) : Int))) := by
  have hC := hl.1
  have hV := hl.2.1
  have hn := hV.1
  have hG := hC.2.1
  have hM6 : M ≤ 6 := by have := cB6_b (Hu b) (c 6 1).toNat; omega
  have h6M := p6le hM6
  obtain ⟨w, hw, hMw, hTw, hkw⟩ := m_layWorths hl
  obtain ⟨m, hm⟩ := loopK (fun m g => fn_X12_order_18 m (orf (Hu b) g) (iI (cB6 (Hu b) g)) (iI ((6 ^ (cB6 (Hu b) g).toNat : Nat) : Int)) (iI (g : Int)) w) (c 6 1).toNat (by omega) (fun g m hg => by
    have hbg := hp_b hV (g : Int)
    have hb6 := cB6_b (Hu b) g
    show fn_X12_order_18 (m + 1) _ _ _ _ _ = fn_X12_order_18 m _ _ _ _ _
    rw [fn_X12_order_18, hMw.2.2.2.2.1.2.1, if_neg (nle (by omega) (by omega) (by omega)), bd_o (m_pieceOf hC hMw.2.2.2.2.2.1 hV (by omega))]
    unfold fn_X12_order_54
    rw [k1, orf, cB6]
    by_cases hu : hp b (g : Int) = -1
    · have eu : Hu b g = true := decide_eq_true hu
      rw [if_pos (show iI (hp b (g : Int)) < 0 from by rw [q_0]; exact ylt (by omega) (by omega) (by omega)), nm_o, nm_o, if_pos eu, if_pos eu, q_6, iI_mul, q_1, iI_add, show (cB6 (Hu b) g + 1).toNat = (cB6 (Hu b) g).toNat + 1 from by omega, Nat.pow_succ]
      rfl
    · have eu : ¬ Hu b g = true := by unfold Hu; rw [decide_eq_true_iff]; exact hu
      rw [if_neg (show ¬ iI (hp b (g : Int)) < 0 from by rw [q_0]; exact nlt (by omega) (by omega) (by omega)), if_neg eu, if_neg eu, Int.add_zero])
  have start : fn_X12_order z = fn_X12_order_18 (m + 1) (orf (Hu b) (c 6 1).toNat) (iI (M : Int)) (iI ((6 ^ M : Nat) : Int)) (iI (((c 6 1).toNat : Nat) : Int)) w := by
    unfold fn_X12_order
    rw [nm_o, bv_o hw]
    refine (show _ = fn_X12_order_18 fu (orf (Hu b) 0) (iI (cB6 (Hu b) 0)) (iI ((6 ^ (cB6 (Hu b) 0).toNat : Nat) : Int)) (iI ((0 : Nat) : Int)) w from by rw [z0, orf, cB6, ← q_0]; rfl).trans (hm.trans ?_)
    rw [← hM, Int.toNat_natCast]
  rw [start, fn_X12_order_18, hMw.2.2.2.2.1.2.1, if_pos (yle (by omega) (by omega) (by omega))]
  have e65 : w.1 172 65 = 0 := by rw [(hkw 172 65 (by omega) (by omega) (by omega) (by omega)).1, sI_at, if_pos rfl]
  by_cases h0 : M = 0
  · rw [if_pos (show iI (M : Int) = 0 from by rw [h0]; exact z0)]
    simp only [if_pos h0]
    exact ⟨w, rfl, e65⟩
  rw [if_neg (show ¬ iI (M : Int) = 0 from by rw [q_0]; exact neq (by omega) (by omega) (by omega))]
  simp only [if_neg h0]
  have L : ∀ s : St, (∀ a j, ¬ a = 203 → ¬ a = 204 → SA w s a j) → RM s c F0 F1 b := fun s hs => hMw.fr fun a j q => hs a j (by unfold QM QR at q; omega) (by unfold QM QR at q; omega)
  obtain ⟨m1, s, ⟨i1, i2⟩, hm1⟩ := loopE (fun m r s => fn_X12_order_79 m (orf (Hu b) (c 6 1).toNat) (iI (M : Int)) (iI ((6 ^ M : Nat) : Int)) (bOr c F0 b M r).2.1 (if (bOr c F0 b M r).1 = true then 1 else 0) (iI (r : Int)) s) (fun r s => ((bOr c F0 b M r).1 = true → ∀ i, i < M → s.1 204 i = iI (((bOr c F0 b M r).2.2 / 6 ^ (M - 1 - i) % 6 : Nat) : Int)) ∧ ∀ a j, ¬ a = 203 → ¬ a = 204 → SA w s a j) (6 ^ M) (by omega) w ⟨fun q => absurd q (by show ¬ false = true; decide), fun a j _ _ => SA.rf⟩ (fun r m s hr ⟨i1, i2⟩ => by
    obtain ⟨t, t1, t2, t3⟩ := m_layTurn (z := s) (c := c) (b := b) (M := M) (r := r) hM6 (by omega) (by omega)
    show ∃ s', _ ∧ fn_X12_order_79 (m + 1) _ _ _ _ _ _ _ = fn_X12_order_79 m _ _ _ _ _ _ _
    rw [fn_X12_order_79, if_neg (nle (by omega) (by omega) (by omega)), bd_o t1, bOr_s]
    unfold fn_X12_order_121 fn_X12_order_157
    rw [k1]
    have i2t : ∀ a j, ¬ a = 203 → ¬ a = 204 → SA w t a j := fun a j q1 q2 => (i2 a j q1 q2).tr (t3 a j q1)
    have i1t : (bOr c F0 b M r).1 = true → ∀ i, i < M → t.1 204 i = iI (((bOr c F0 b M r).2.2 / 6 ^ (M - 1 - i) % 6 : Nat) : Int) := fun q i hi => (t3 204 i (by omega)).1.trans (i1 q i hi)
    by_cases hv : vl c b M r = true
    · have hMt := L t i2t
      rw [tr_1 hv, if_neg (show ¬ iI 1 = 0 from by decide), bd_o (m_leastBy (F0 := F0) ⟨by omega, hM6⟩ hC hV hMt.2.2.2.2.2.1 (fun g hg p hp => (i2t 202 _ (by omega) (by omega)).1.trans (hTw g hg p hp)) t2 hv)]
      have put : ((bOr c F0 b M r).1 = false ∨ (bOr c F0 b M r).2.1 < (rn c F0 b M r).2) → ∃ s', (((uo c F0 b M (bOr c F0 b M r) r).1 = true → ∀ i, i < M → s'.1 204 i = iI (((uo c F0 b M (bOr c F0 b M r) r).2.2 / 6 ^ (M - 1 - i) % 6 : Nat) : Int)) ∧ ∀ a j, ¬ a = 203 → ¬ a = 204 → SA w s' a j) ∧ fn_X12_order_131 (fn_X12_order_79 m) fu (orf (Hu b) (c 6 1).toNat) (iI (M : Int)) (iI ((6 ^ M : Nat) : Int)) (rn c F0 b M r).2 1 (iI (r : Int)) 0 t = fn_X12_order_79 m (orf (Hu b) (c 6 1).toNat) (iI (M : Int)) (iI ((6 ^ M : Nat) : Int)) (uo c F0 b M (bOr c F0 b M r) r).2.1 (if (uo c F0 b M (bOr c F0 b M r) r).1 = true then 1 else 0) (iI ((r + 1 : Nat) : Int)) s' := by
        intro hq
        have eu : uo c F0 b M (bOr c F0 b M r) r = (true, (rn c F0 b M r).2, r) := by unfold uo; rw [if_pos ⟨hv, hq⟩]
        rw [eu]
        obtain ⟨m2, u, ⟨j1, j2⟩, hm2⟩ := loopE (fun m2 i u => fn_X12_order_131 (fn_X12_order_79 m) m2 (orf (Hu b) (c 6 1).toNat) (iI (M : Int)) (iI ((6 ^ M : Nat) : Int)) (rn c F0 b M r).2 1 (iI (r : Int)) (iI (i : Int)) u) (fun i u => (∀ k, k < i → u.1 204 k = t.1 203 k) ∧ ∀ a j, ¬ a = 204 → SA t u a j) M (by omega) t ⟨fun k hk => by omega, fun a j _ => SA.rf⟩ (fun i m2 u hi ⟨j1, j2⟩ => by
          show ∃ s', _ ∧ fn_X12_order_131 _ (m2 + 1) _ _ _ _ _ _ _ _ = fn_X12_order_131 _ m2 _ _ _ _ _ _ _ _
          rw [fn_X12_order_131, if_neg (nle (by omega) (by omega) (by omega)), gd_t (iI_ix (by omega)), gd_t (iI_ix (by omega)), nm_o, iI_clampN (by omega), k1]
          refine ⟨_, ⟨fun k hk => ?_, fun a j q => (j2 a j q).tr (sa_Ia rfl q)⟩, rfl⟩
          rw [sI_at]
          by_cases q : k = i
          · rw [if_pos q, (j2 203 i (by omega)).1, q]
          · rw [if_neg q]; exact j1 k (by omega))
        refine ⟨u, ⟨fun _ i hi => ?_, fun a j q1 q2 => (i2t a j q1 q2).tr (j2 a j q2)⟩, ?_⟩
        · rw [j1 i hi, t2 i hi]
        · refine (show _ = fn_X12_order_131 (fn_X12_order_79 m) fu (orf (Hu b) (c 6 1).toNat) (iI (M : Int)) (iI ((6 ^ M : Nat) : Int)) (rn c F0 b M r).2 1 (iI (r : Int)) (iI ((0 : Nat) : Int)) t from by rw [z0]).trans (hm2.trans ?_)
          show fn_X12_order_131 _ (m2 + 1) _ _ _ _ _ _ _ _ = _
          rw [fn_X12_order_131, if_pos (yle (by omega) (by omega) (by omega))]
          unfold fn_X12_order_157
          rw [k1, if_pos rfl]
      cases h1 : (bOr c F0 b M r).1
      · rw [if_neg (show ¬ false = true from by decide), if_pos rfl]
        exact put (Or.inl h1)
      · rw [if_pos rfl, if_neg (show ¬ (1 : Int32) = 0 from by decide)]
        by_cases hlt : (bOr c F0 b M r).2.1 < (rn c F0 b M r).2
        · rw [if_pos hlt]
          exact put (Or.inr hlt)
        · have eu : uo c F0 b M (bOr c F0 b M r) r = bOr c F0 b M r := by unfold uo; rw [if_neg (fun q => q.2.elim (fun a => by rw [h1] at a; exact absurd a (by decide)) hlt)]
          rw [if_neg hlt, eu]
          refine ⟨t, ⟨i1t, i2t⟩, ?_⟩
          rw [h1, if_pos rfl]
    · have eu : uo c F0 b M (bOr c F0 b M r) r = bOr c F0 b M r := by unfold uo; rw [if_neg (fun q => hv q.1)]
      rw [tr_n hv, if_pos (show iI 0 = 0 from q_0.symm), eu]
      exact ⟨t, ⟨i1t, i2t⟩, rfl⟩)
  obtain ⟨m2, u, ⟨j1, j2⟩, hm2⟩ := loopE (fun m2 i u => fn_X12_order_166 m2 (iI (M : Int)) (bOr c F0 b M (6 ^ M)).2.1 (iI (i : Int)) u) (fun i u => (∀ k, k < i → u.1 205 k = s.1 204 k) ∧ ∀ a j, ¬ a = 205 → SA s u a j) M (by omega) s ⟨fun k hk => by omega, fun a j _ => SA.rf⟩ (fun i m2 u hi ⟨j1, j2⟩ => by
    show ∃ s', _ ∧ fn_X12_order_166 (m2 + 1) _ _ _ _ = fn_X12_order_166 m2 _ _ _ _
    rw [fn_X12_order_166, if_neg (nle (by omega) (by omega) (by omega)), gd_t (iI_ix (by omega)), gd_t (iI_ix (by omega)), nm_o, iI_clampN (by omega), k1]
    refine ⟨_, ⟨fun k hk => ?_, fun a j q => (j2 a j q).tr (sa_Ia rfl q)⟩, rfl⟩
    rw [sI_at]
    by_cases q : k = i
    · rw [if_pos q, (j2 204 i (by omega)).1, q]
    · rw [if_neg q]; exact j1 k (by omega))
  refine ⟨sI u 172 65 (iI (M : Int)), ?_, by rw [sI_at, if_pos rfl], fun q i hi => ?_⟩
  · refine (show _ = fn_X12_order_79 fu (orf (Hu b) (c 6 1).toNat) (iI (M : Int)) (iI ((6 ^ M : Nat) : Int)) (bOr c F0 b M 0).2.1 (if (bOr c F0 b M 0).1 = true then 1 else 0) (iI ((0 : Nat) : Int)) w from by rw [z0]; rfl).trans (hm1.trans ?_)
    show fn_X12_order_79 (m1 + 1) _ _ _ _ _ _ _ = _
    rw [fn_X12_order_79, if_pos (i_refl _)]
    refine (show _ = fn_X12_order_166 fu (iI (M : Int)) (bOr c F0 b M (6 ^ M)).2.1 (iI ((0 : Nat) : Int)) s from by rw [z0]).trans (hm2.trans ?_)
    show fn_X12_order_166 (m2 + 1) _ _ _ _ = _
    rw [fn_X12_order_166, if_pos (yle (by omega) (by omega) (by omega)), nm_o]
  · rw [(sa_Ia (z := u) (a := 205) (k := i) rfl (by omega)).1, j1 i hi, i1 q i hi]
theorem s_order (h : RD z c F0 F1 b) : Same fn_X11_order fn_X12_order z := by
  have hC := h.vc
  have hV := h.vb
  have hn := hV.1
  have hG := hC.2.1
  have hb6 := cB6_b (Hu b) (c 6 1).toNat
  obtain ⟨M, hM⟩ : ∃ M : Nat, (M : Int) = cB6 (Hu b) (c 6 1).toNat := ⟨(cB6 (Hu b) (c 6 1).toNat).toNat, by omega⟩
  obtain ⟨w, hw, hP⟩ := x_prepP h.xs
  have kw : ∀ a j, pFr a j → SA z w a j := fun a j q => ff_X5_prepare (by show ¬ a = 144 ∧ ¬ a = 13 ∧ ¬ a = 159 ∧ ¬ (a = 156 ∧ j = 9) ∧ ¬ (a = 156 ∧ j = 7) ∧ ¬ (a = 156 ∧ j = 8); unfold pFr at q; omega) hw
  have hwX := h.xs.pfr kw
  have hP2 : w.1 156 8 = iI (M : Int) := by rw [hM]; exact hP.2.1
  have hx : ∃ v, fn_X11_order z = some (if M = 0 then -1000000000 else (bOr c F0 b M (6 ^ M)).2.1, v) ∧ v.1 0 14 = iI (M : Int) ∧ (M ≠ 0 → (bOr c F0 b M (6 ^ M)).1 = true ∧ ∀ i, i < M → v.1 171 i = iI (((bOr c F0 b M (6 ^ M)).2.2 / 6 ^ (M - 1 - i) % 6 : Nat) : Int)) := by
    unfold fn_X11_order fn_X5_findOrder
    rw [bv_o hw, nm_o, nm_o]
    generalize ht : sI (sI w 156 10 0) 156 11 0 = t
    have kt : ∀ a j, ¬ (a = 156 ∧ j = 10) → ¬ (a = 156 ∧ j = 11) → SA w t a j := fun a j q1 q2 => (sa_I rfl q1).tr (sa_I ht.symm q2)
    have t8 : t.1 156 8 = iI (M : Int) := (kt 156 8 (by omega) (by omega)).1.trans hP2
    rw [t8]
    by_cases h0 : M = 0
    · rw [if_pos (show iI (M : Int) ≤ 0 from by rw [q_0]; exact yle (by omega) (by omega) (by omega)), bd_e, nm_o, if_pos h0, if_pos (show (sI t 0 14 (iI (M : Int))).1 0 14 = 0 from by rw [sI_at, if_pos rfl, h0]; exact z0)]
      exact ⟨_, rfl, by rw [sI_at, if_pos rfl], fun q => absurd h0 q⟩
    · have hX : XQ t c F0 b M := ⟨(kt 2 5 (by omega) (by omega)).1.trans hwX.2.2.2.2.1.2.1, (kt 34 2 (by omega) (by omega)).1.trans hwX.2.2.2.2.2.1.1, t8, fun g hg hu p hp => (kt 159 _ (by omega) (by omega)).1.trans (hP.2.2.2 g hg hu p hp)⟩
      obtain ⟨v, g1, g2, g3, -, g5⟩ := x_tryO (F0 := F0) (M := M) hn hG (by omega) M 0 9 0 t (t.1 156 7) (t.1 156 9) (false, -1000000000, 0) (by omega) (by omega) hX ⟨by rw [← ht, sI_at, if_neg (by omega), sI_at, if_pos rfl, if_neg (by decide)], fun q => absurd q (by decide)⟩ (fun k hk => by omega) (fun j hj => by rw [(kt 156 7 (by omega) (by omega)).1, hP.1, tb_orf hj _ (by omega)]; unfold wy; rw [md, Bool.not_false, Bool.and_true]) (fun j hj => by rw [(kt 156 9 (by omega) (by omega)).1, hP.2.2.1, tb_orf hj _ (by omega), rn]; show _ = (_ && !false); rw [Bool.not_false, Bool.and_true]) (by
        rw [cB6_ext 6 (Q := fun j => Hu b j && decide (j < (c 6 1).toNat)) (fun j _ => by unfold wy; rw [md, Bool.not_false, Bool.and_true]), cB6_lt, hM]
        by_cases q : 6 ≤ (c 6 1).toNat
        · rw [if_pos q, show (c 6 1).toNat = 6 from by omega]
        · rw [if_neg q]) (fun j hj => absurd hj (by rw [md]; decide))
      rw [Nat.zero_mul] at g2 g3
      have g1' : recT 9 171 0 (t.1 156 7) (t.1 156 9) 2147483647 t = some v := by rw [← g1, z0]; rfl
      have v8 : v.1 156 8 = iI (M : Int) := (g5 156 8 (by unfold oFr; omega)).1.trans t8
      rw [if_neg (show ¬ iI (M : Int) ≤ 0 from by rw [q_0]; exact nle (by omega) (by omega) (by omega)), bv_o g1', bd_e, nm_o, v8, if_neg h0, if_neg (show ¬ (sI v 0 14 (iI (M : Int))).1 0 14 = 0 from by rw [sI_at, if_pos rfl, q_0]; exact neq (by omega) (by omega) (by omega))]
      refine ⟨sI v 0 14 (iI (M : Int)), ?_, by rw [sI_at, if_pos rfl], fun _ => ⟨g3, fun i hi => ?_⟩⟩
      · rw [(sa_Ia (z := v) (a := 156) (k := 11) rfl (by omega)).1, (g2.2 g3).1]; rfl
      · rw [(sa_Ia (z := v) (a := 171) (k := i) rfl (by omega)).1, (g2.2 g3).2 i hi]; rfl
  obtain ⟨v, g1, g2, g3⟩ := hx
  have kv : ∀ a j, PS a j → ¬ PY a j → SA z v a j := fun a j q1 q2 => ff_X11_order (by show ¬ a = 144 ∧ ¬ a = 13 ∧ ¬ a = 159 ∧ ¬ (a = 156 ∧ j = 9) ∧ ¬ (a = 156 ∧ j = 7) ∧ ¬ (a = 156 ∧ j = 8) ∧ ¬ (a = 156 ∧ j = 10) ∧ ¬ (a = 156 ∧ j = 11) ∧ ¬ a = 171 ∧ ¬ a = 160 ∧ ¬ (a = 0 ∧ j = 14); unfold PS at q1; unfold PY at q2; omega) g1
  have hy : RDy v c F0 F1 b := h.y.fr kv
  have hy' : RDy (sI v 172 65 0) c F0 F1 b := hy.fr fun a k q1 q2 => sa_I rfl (by unfold PY at q2; omega)
  obtain ⟨u, e1, e2⟩ := m_order hy'.ld hM
  have ku : ∀ a j, ¬ a = 204 ∧ ¬ (a = 172 ∧ j = 65) ∧ ¬ a = 205 ∧ ¬ a = 203 ∧ ¬ a = 184 ∧ ¬ a = 182 ∧ ¬ a = 202 ∧ ¬ a = 198 → SA v u a j := fun a j q => ff_X12_order q e1
  refine ⟨_, v, u, g1, e1, c, F0, F1, b, (hy.fr fun a k q1 q2 => ku a k (by unfold PS at q1; unfold PY at q2; omega)).d ⟨M, by omega, (ku 0 14 (by omega)).1.trans g2, ?_, fun i hi => ?_⟩⟩
  · by_cases h0 : M = 0
    · rw [if_pos h0] at e2; rw [e2, h0]; exact z0.symm
    · rw [if_neg h0] at e2; exact e2.1
  · have h0 : M ≠ 0 := by omega
    rw [if_neg h0] at e2
    rw [(ku 171 i (by omega)).1, (g3 h0).2 i hi, e2.2 (g3 h0).1 i hi]
end
