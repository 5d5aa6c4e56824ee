section
variable {z w : St} {T : Nat → Int} {n : Nat}
theorem mv_b {s k : Nat} (h : ∀ j, j < k → 97 ≤ T (s + j) ∧ T (s + j) ≤ 122) : 2 * mvM T s k < 256 ^ k := by
  induction k with
  | zero => rw [mvM]; decide
  | succ k ih =>
    have h1 := ih fun j hj => h j (by omega)
    have h2 := h k (by omega)
    rw [mvM, Nat.pow_succ]
    generalize 256 ^ k = p at *
    omega
theorem m_232 {v : Nat} {s : Nat} {t : St} (h4 : t.1 172 4 = iI (s : Int)) (x : Int) : fn_X12_token_232 (iI (v : Int)) (sI t 172 6 (iI x)) = some (if iI x = 3 then sI t 172 6 (iI x) else sI (sI t 172 6 (iI x)) 172 4 (iI ((s + v : Nat) : Int))) := by
  unfold fn_X12_token_232
  rw [sI_at, if_pos rfl]
  by_cases q : iI x = 3
  · rw [if_pos q, if_pos q]
  · rw [if_neg q, if_neg q, nm_o, sI_at, if_neg (by omega), h4, iI_add]; rfl
theorem m_scanWord (hT : VT T n) (h : MTx z T n) {s : Nat} (hs : s ≤ n) (h4 : z.1 172 4 = iI (s : Int)) (h9 : z.2 172 9 = 0) : ∃ w, fn_X12_token_78 fu 0 z = some w ∧ w.1 172 6 = iI (if we T n s ≤ s + 8 then 1 else 3) ∧ (we T n s ≤ s + 8 → w.1 172 4 = iI (we T n s : Int) ∧ w.2 172 9 = jI (mvM T s (we T n s - s) : Nat)) ∧ w.1 172 7 = z.1 172 7 := by
  have hn := hT.1
  obtain ⟨e1, e2, e3, e4⟩ := we_p T hs
  obtain ⟨m, t, ⟨i1, i3⟩, hm⟩ := loopE (fun m k t => fn_X12_token_78 m (iI (k : Int)) t) (fun k t => (k ≤ 8 → t.2 172 9 = jI (mvM T s k : Nat)) ∧ ∀ a j, ¬ (a = 172 ∧ j = 9) → SA z t a j) (we T n s - s) (by omega) z ⟨fun _ => by rw [h9]; rfl, fun a j q => SA.rf⟩ (fun k m t hk ⟨i1, i3⟩ => by
    have hTt := h.fr (w := t) fun a j q => i3 a j (by omega)
    have t4 : t.1 172 4 = iI (s : Int) := (i3 172 4 (by omega)).1.trans h4
    have hl := e4 (s + k) (by omega) (by omega)
    obtain ⟨l1, l2, l3⟩ := pL_i hl
    have hc := cM_b hT (s + k)
    show ∃ s', _ ∧ fn_X12_token_78 (m + 1) _ _ = fn_X12_token_78 m _ _
    rw [fn_X12_token_78, bd_o (m_here hT hTt t4 (by omega)), bd_o (m_isLet hc), tr_1 (by rw [pL_M]; exact hl), if_neg (show ¬ iI 1 = 0 from by decide), q_8]
    unfold fn_X12_token_113
    rw [k1]
    by_cases q : 8 ≤ k
    · rw [if_pos (yle (by omega) (by omega) (by omega))]
      exact ⟨t, ⟨fun a => by omega, i3⟩, rfl⟩
    · have hb := mv_b (T := T) (s := s) (k := k) fun j hj => (pL_i (e4 (s + j) (by omega) (by omega))).2
      have hp : 256 ^ k ≤ 256 ^ 7 := Nat.pow_le_pow_right (by omega) (by omega)
      have hp7 : 256 ^ 7 = 72057594037927936 := by decide
      rw [if_neg (nle (by omega) (by omega) (by omega)), bd_o (m_here hT hTt t4 (by omega)), nm_o, i1 (by omega), show cM T n (s + k) = (((T (s + k)).toNat : Nat) : Int) from by unfold cM; rw [if_pos l1]; omega, ← q_8, jI_sh (a := mvM T s k) (y := (T (s + k)).toNat) (by omega) (by omega)]
      exact ⟨_, ⟨fun _ => by rw [sJ_at, if_pos rfl]; rfl, fun a j q => (i3 a j q).tr (sa_J rfl q)⟩, rfl⟩)
  have hTt := h.fr (w := t) fun a j q => i3 a j (by omega)
  have t4 : t.1 172 4 = iI (s : Int) := (i3 172 4 (by omega)).1.trans h4
  have hc := cM_b hT (s + (we T n s - s))
  have e78 : fn_X12_token_78 fu 0 z = (if we T n s ≤ s + 8 then fn_X12_token_131 (iI ((we T n s - s : Nat) : Int)) 1 t else fn_X12_token_131 (iI ((we T n s - s : Nat) : Int)) 3 t) := by
    refine (show _ = fn_X12_token_78 fu (iI ((0 : Nat) : Int)) z from by rw [z0]).trans (hm.trans ?_)
    show fn_X12_token_78 (m + 1) _ _ = _
    rw [fn_X12_token_78, bd_o (m_here hT hTt t4 (by omega)), bd_o (m_isLet hc), tr_n (by rw [pL_M, show s + (we T n s - s) = we T n s from by omega, e3]; decide), if_pos (show iI 0 = 0 from q_0.symm), q_8]
    by_cases q : we T n s ≤ s + 8
    · rw [if_pos (yle (by omega) (by omega) (by omega)), if_pos q]
    · rw [if_neg (nle (by omega) (by omega) (by omega)), if_neg q]
  rw [e78]
  unfold fn_X12_token_131
  by_cases q : we T n s ≤ s + 8
  · rw [if_pos q, if_pos q, nm_o, q_1, m_232 t4 1, if_neg (by decide)]
    refine ⟨_, rfl, by rw [sI_at, if_neg (by omega), sI_at, if_pos rfl], fun _ => ⟨by rw [sI_at, if_pos rfl, show s + (we T n s - s) = we T n s from by omega], i1 (by omega)⟩, by rw [sI_at, if_neg (by omega), sI_at, if_neg (by omega), (i3 172 7 (by omega)).1]⟩
  · rw [if_neg q, if_neg q, nm_o, q_3, m_232 t4 3, if_pos (by decide)]
    exact ⟨_, rfl, by rw [sI_at, if_pos rfl], fun a => absurd a q, by rw [sI_at, if_neg (by omega), (i3 172 7 (by omega)).1]⟩
theorem m_scanNumber (hT : VT T n) (h : MTx z T n) {s : Nat} (hs : s ≤ n) (h4 : z.1 172 4 = iI (s : Int)) (h8 : z.1 172 8 = 0) : ∃ w, fn_X12_token_144 fu 0 z = some w ∧ w.1 172 6 = iI (if de T n s ≤ s + 4 ∧ pL T n (de T n s) = false then 2 else 3) ∧ (de T n s ≤ s + 4 ∧ pL T n (de T n s) = false → w.1 172 4 = iI (de T n s : Int) ∧ w.1 172 8 = iI (nv T s (de T n s - s))) ∧ w.1 172 7 = z.1 172 7 := by
  have hn := hT.1
  obtain ⟨e1, e2, e3, e4⟩ := de_p T hs
  obtain ⟨m, t, ⟨i1, i3⟩, hm⟩ := loopE (fun m k t => fn_X12_token_144 m (iI (k : Int)) t) (fun k t => (k ≤ 4 → t.1 172 8 = iI (nv T s k)) ∧ ∀ a j, ¬ (a = 172 ∧ j = 8) → SA z t a j) (de T n s - s) (by omega) z ⟨fun _ => by rw [h8, nv, q_0], fun a j q => SA.rf⟩ (fun k m t hk ⟨i1, i3⟩ => by
    have hTt := h.fr (w := t) fun a j q => i3 a j (by omega)
    have t4 : t.1 172 4 = iI (s : Int) := (i3 172 4 (by omega)).1.trans h4
    have hl := e4 (s + k) (by omega) (by omega)
    obtain ⟨l1, l2, l3⟩ := pD_i hl
    have hc := cM_b hT (s + k)
    show ∃ s', _ ∧ fn_X12_token_144 (m + 1) _ _ = fn_X12_token_144 m _ _
    rw [fn_X12_token_144, bd_o (m_here hT hTt t4 (by omega)), bd_o (m_isDig hc), tr_1 (by rw [pD_M]; exact hl), if_neg (show ¬ iI 1 = 0 from by decide)]
    unfold fn_X12_token_180
    rw [k1]
    by_cases q : 4 ≤ k
    · rw [if_pos (show (4 : Int32) ≤ iI (k : Int) from by rw [q_4]; exact yle (by omega) (by omega) (by omega))]
      exact ⟨t, ⟨fun a => by omega, i3⟩, rfl⟩
    · rw [if_neg (show ¬ (4 : Int32) ≤ iI (k : Int) from by rw [q_4]; exact nle (by omega) (by omega) (by omega)), bd_o (m_here hT hTt t4 (by omega)), nm_o, i1 (by omega), show cM T n (s + k) = T (s + k) from if_pos l1]
      refine ⟨_, ⟨fun _ => ?_, fun a j q => (i3 a j q).tr (sa_I rfl q)⟩, rfl⟩
      rw [sI_at, if_pos rfl, nv, q_10, q_48, iI_mul, iI_add, iI_sub]
      congr 1
      omega)
  have hTt := h.fr (w := t) fun a j q => i3 a j (by omega)
  have t4 : t.1 172 4 = iI (s : Int) := (i3 172 4 (by omega)).1.trans h4
  have hc := cM_b hT (s + (de T n s - s))
  have e144 : fn_X12_token_144 fu 0 z = (if de T n s ≤ s + 4 ∧ pL T n (de T n s) = false then fn_X12_token_208 (iI ((de T n s - s : Nat) : Int)) 2 t else fn_X12_token_208 (iI ((de T n s - s : Nat) : Int)) 3 t) := by
    refine (show _ = fn_X12_token_144 fu (iI ((0 : Nat) : Int)) z from by rw [z0]).trans (hm.trans ?_)
    show fn_X12_token_144 (m + 1) _ _ = _
    rw [fn_X12_token_144, bd_o (m_here hT hTt t4 (by omega)), bd_o (m_isDig hc), tr_n (by rw [pD_M, show s + (de T n s - s) = de T n s from by omega, e3]; decide), if_pos (show iI 0 = 0 from q_0.symm)]
    unfold fn_X12_token_203
    by_cases q : de T n s ≤ s + 4
    · rw [if_neg (show ¬ (4 : Int32) < iI ((de T n s - s : Nat) : Int) from by rw [q_4]; exact nlt (by omega) (by omega) (by omega)), bd_o (m_here hT hTt t4 (by omega)), bd_o (m_isLet hc)]
      by_cases q2 : pL T n (de T n s) = true
      · rw [tr_1 (by rw [pL_M, show s + (de T n s - s) = de T n s from by omega]; exact q2), if_neg (show ¬ iI 1 = 0 from by decide), if_neg (fun a => by rw [a.2] at q2; exact absurd q2 (by decide))]
      · rw [tr_n (by rw [pL_M, show s + (de T n s - s) = de T n s from by omega]; exact q2), if_pos (show iI 0 = 0 from q_0.symm), if_pos ⟨q, Bool.eq_false_iff.mpr q2⟩]
    · rw [if_pos (show (4 : Int32) < iI ((de T n s - s : Nat) : Int) from by rw [q_4]; exact ylt (by omega) (by omega) (by omega)), if_neg (fun a => q a.1)]
  rw [e144]
  unfold fn_X12_token_208
  by_cases q : de T n s ≤ s + 4 ∧ pL T n (de T n s) = false
  · rw [if_pos q, if_pos q, nm_o, q_2, m_232 t4 2, if_neg (by decide)]
    refine ⟨_, rfl, by rw [sI_at, if_neg (by omega), sI_at, if_pos rfl], fun _ => ⟨by rw [sI_at, if_pos rfl, show s + (de T n s - s) = de T n s from by omega], by rw [sI_at, if_neg (by omega), sI_at, if_neg (by omega)]; exact i1 (by omega)⟩, by rw [sI_at, if_neg (by omega), sI_at, if_neg (by omega), (i3 172 7 (by omega)).1]⟩
  · rw [if_neg q, if_neg q, nm_o, q_3, m_232 t4 3, if_pos (by decide)]
    exact ⟨_, rfl, by rw [sI_at, if_pos rfl], fun a => absurd a q, by rw [sI_at, if_neg (by omega), (i3 172 7 (by omega)).1]⟩
/-- the reference reads on -/
theorem m_token (hT : VT T n) (h : MTx z T n) {i : Nat} (hi : i ≤ n) (h4 : z.1 172 4 = iI (i : Int)) : ∃ w, fn_X12_token z = some w ∧ MK w T n (sk T n i) := by
  have hn := hT.1
  obtain ⟨e1, e2, e3, e4⟩ := sk_p T hi
  obtain ⟨m, t, ⟨i1, i3⟩, hm⟩ := loopE (fun m k t => fn_X12_token_0 m t) (fun k t => t.1 172 4 = iI ((i + k : Nat) : Int) ∧ ∀ a j, ¬ (a = 172 ∧ j = 4) → SA z t a j) (sk T n i - i) (by omega) z ⟨h4, fun a j q => SA.rf⟩ (fun k m t hk ⟨i1, i3⟩ => by
    have hTt := h.fr (w := t) fun a j q => i3 a j (by omega)
    have hl := e4 (i + k) (by omega) (by omega)
    have hl1 : i + k < n := by unfold pB at hl; rw [Bool.and_eq_true, decide_eq_true_iff] at hl; exact hl.1
    have hl2 : T (i + k) = 32 ∨ T (i + k) = 10 := by unfold pB tB at hl; rw [Bool.and_eq_true] at hl; exact of_decide_eq_true hl.2
    have h0 : fn_X12_here 0 t = some (iI (T (i + k)), t) := by rw [← z0, m_here hT hTt i1 (by omega)]; unfold cM; rw [Nat.add_zero, if_pos hl1]
    have nx : ∃ s', (s'.1 172 4 = iI ((i + (k + 1) : Nat) : Int) ∧ ∀ a j, ¬ (a = 172 ∧ j = 4) → SA z s' a j) ∧ fn_X12_token_20 (fn_X12_token_0 m) t = fn_X12_token_0 m s' := by
      unfold fn_X12_token_20
      rw [nm_o, i1, k1]
      exact ⟨_, ⟨by rw [sI_at, if_pos rfl]; rfl, fun a j q => (i3 a j q).tr (sa_I rfl q)⟩, rfl⟩
    show ∃ s', _ ∧ fn_X12_token_0 (m + 1) _ = fn_X12_token_0 m _
    rw [fn_X12_token_0, bd_o h0]
    rcases hl2 with e | e
    · rw [if_pos (show iI (T (i + k)) = 32 from by rw [e]; exact q_32.symm)]
      exact nx
    · rw [if_neg (show ¬ iI (T (i + k)) = 32 from by rw [e]; decide), bd_o h0, if_pos (show iI (T (i + k)) = 10 from by rw [e]; exact q_10.symm)]
      exact nx)
  have hTt := h.fr (w := t) fun a j q => i3 a j (by omega)
  rw [show i + (sk T n i - i) = sk T n i from by omega] at i1
  generalize hse : sk T n i = s at *
  unfold fn_X12_token
  rw [show fn_X12_token_0 fu z = fn_X12_token_0 (m + 1) t from hm, fn_X12_token_0]
  have h0 : ∀ u : St, MTx u T n → u.1 172 4 = iI (s : Int) → fn_X12_here 0 u = some (iI (cM T n s), u) := fun u g1 g2 => by rw [← z0, m_here hT g1 g2 (by omega), Nat.add_zero]
  have hcb := cM_b hT s
  have hnb : cM T n s ≠ 32 ∧ cM T n s ≠ 10 := by
    by_cases q0 : s < n
    · have : cM T n s = T s := if_pos q0
      unfold pB tB at e3
      rw [decide_eq_true q0, Bool.true_and, decide_eq_false_iff_not] at e3
      rw [this]
      omega
    · have : cM T n s = -1 := if_neg q0
      omega
  rw [bd_o (h0 t hTt i1), if_neg (show ¬ iI (cM T n s) = 32 from by rw [q_32]; exact neq (by omega) (by omega) hnb.1), bd_o (h0 t hTt i1), if_neg (show ¬ iI (cM T n s) = 10 from by rw [q_10]; exact neq (by omega) (by omega) hnb.2), nm_o, i1]
  generalize ht1 : sI t 172 7 (iI (s : Int)) = t1
  have k1' : ∀ a j, ¬ (a = 172 ∧ j = 7) → SA t t1 a j := fun a j q => sa_I ht1.symm q
  have T1 := hTt.fr (w := t1) fun a j q => k1' a j (by omega)
  have a4 : t1.1 172 4 = iI (s : Int) := (k1' 172 4 (by omega)).1.trans i1
  have a7 : t1.1 172 7 = iI (s : Int) := by rw [← ht1, sI_at, if_pos rfl]
  rw [bd_o (h0 t1 T1 a4), nm_o, nm_o]
  generalize ht2 : sI (sJ t1 172 9 0) 172 8 0 = t2
  have k2' : ∀ a j, ¬ (a = 172 ∧ j = 9) → ¬ (a = 172 ∧ j = 8) → SA t1 t2 a j := fun a j q1 q2 => (sa_J rfl q1).tr (sa_I ht2.symm q2)
  have T2 := T1.fr (w := t2) fun a j q => k2' a j (by omega) (by omega)
  have b4 : t2.1 172 4 = iI (s : Int) := (k2' 172 4 (by omega) (by omega)).1.trans a4
  have b7 : t2.1 172 7 = iI (s : Int) := (k2' 172 7 (by omega) (by omega)).1.trans a7
  have b8 : t2.1 172 8 = 0 := by rw [← ht2, sI_at, if_pos rfl]
  have b9 : t2.2 172 9 = 0 := by rw [← ht2]; show (sJ t1 172 9 0).2 172 9 = 0; rw [sJ_at, if_pos rfl]
  by_cases q0 : n ≤ s
  · have ek : kx T n s = 0 := by unfold kx; rw [if_pos q0]
    have ee : tEn T n s = s := by unfold tEn; rw [if_pos q0]
    have es : tKs T n s = 0 := by unfold tKs; rw [ek]; rfl
    rw [if_neg (show ¬ 0 ≤ iI (cM T n s) from by rw [show cM T n s = -1 from if_neg (by omega)]; decide), nm_o, show (0 : Int32) = iI ((0 : Nat) : Int) from q_0, m_232 b4 ((0 : Nat) : Int), if_neg (by decide)]
    refine ⟨_, rfl, ?_, ?_, fun _ => ?_, fun q => ?_, fun q => ?_⟩
    · rw [sI_at, if_neg (by omega), sI_at, if_neg (by omega), b7]
    · rw [sI_at, if_neg (by omega), sI_at, if_pos rfl, es]; rfl
    · rw [sI_at, if_pos rfl, ee]; rfl
    · rw [ek] at q; omega
    · rw [ek] at q; omega
  · have hc := hT.2 s (by omega)
    have ec : cM T n s = T s := if_pos (by omega)
    rw [ec, if_pos (show 0 ≤ iI (T s) from by rw [q_0]; exact yle (by omega) (by omega) (by omega)), bd_o (m_isLet (by omega))]
    by_cases q1 : tL (T s) = true
    · rw [tr_1 q1, if_neg (show ¬ iI 1 = 0 from by decide)]
      obtain ⟨w, g1, g2, g3, g7⟩ := m_scanWord hT T2 (by omega) b4 b9
      have k7 : w.1 172 7 = iI (s : Int) := g7.trans b7
      have ek : kx T n s = if we T n s ≤ s + 8 then 1 else 4 := by unfold kx; rw [if_neg q0, if_pos q1]
      have ee : tEn T n s = we T n s := by unfold tEn; rw [if_neg q0, if_pos q1]
      refine ⟨w, g1, k7, ?_, fun q => ?_, fun q => ?_, fun q => ?_⟩
      · rw [g2]; unfold tKs; rw [ek]; split <;> rfl
      · rw [ek] at q; rw [ee]; split at q
        · exact (g3 (by assumption)).1
        · exact absurd rfl q
      · rw [ek] at q; split at q
        · exact (g3 (by assumption)).2
        · omega
      · rw [ek] at q; split at q <;> omega
    · rw [tr_n q1, if_pos (show iI 0 = 0 from q_0.symm), bd_o (m_isDig (by omega))]
      by_cases q2 : tD (T s) = true
      · rw [tr_1 q2, if_neg (show ¬ iI 1 = 0 from by decide)]
        obtain ⟨w, g1, g2, g3, g7⟩ := m_scanNumber hT T2 (by omega) b4 b8
        have k7 : w.1 172 7 = iI (s : Int) := g7.trans b7
        have ek : kx T n s = if de T n s ≤ s + 4 ∧ pL T n (de T n s) = false then 2 else 4 := by unfold kx; rw [if_neg q0, if_neg q1, if_pos q2]
        have ee : tEn T n s = de T n s := by unfold tEn; rw [if_neg q0, if_neg q1, if_pos q2]
        refine ⟨w, g1, k7, ?_, fun q => ?_, fun q => ?_, fun q => ?_⟩
        · rw [g2]; unfold tKs; rw [ek]; split <;> rfl
        · rw [ek] at q; rw [ee]; split at q
          · exact (g3 (by assumption)).1
          · exact absurd rfl q
        · rw [ek] at q; split at q <;> omega
        · rw [ek] at q; split at q
          · exact (g3 (by assumption)).2
          · omega
      · rw [tr_n q2, if_pos (show iI 0 = 0 from q_0.symm), bd_o (m_isMar (by omega))]
        have ee : tEn T n s = s + 1 := by unfold tEn; rw [if_neg q0, if_neg q1, if_neg q2]
        have ek : kx T n s = if tM (T s) = true then 3 else 4 := by unfold kx; rw [if_neg q0, if_neg q1, if_neg q2]
        unfold fn_X12_token_229
        by_cases q3 : tM (T s) = true
        · have es : tKs T n s = T s := by unfold tKs; rw [ek, if_pos q3]; rfl
          have hm3 : T s ≠ 3 := by unfold tM at q3; rw [decide_eq_true_iff] at q3; omega
          rw [tr_1 q3, if_neg (show ¬ iI 1 = 0 from by decide), nm_o, show (1 : Int32) = iI ((1 : Nat) : Int) from q_1, m_232 b4, if_neg (show ¬ iI (T s) = 3 from by rw [q_3]; exact neq (by omega) (by omega) hm3)]
          refine ⟨_, rfl, ?_, ?_, fun _ => ?_, fun q => ?_, fun q => ?_⟩
          · rw [sI_at, if_neg (by omega), sI_at, if_neg (by omega), b7]
          · rw [sI_at, if_neg (by omega), sI_at, if_pos rfl, es]
          · rw [sI_at, if_pos rfl, ee]
          · rw [ek, if_pos q3] at q; omega
          · rw [ek, if_pos q3] at q; omega
        · have es : tKs T n s = 3 := by unfold tKs; rw [ek, if_neg q3]; rfl
          rw [tr_n q3, if_pos (show iI 0 = 0 from q_0.symm), nm_o, show (1 : Int32) = iI ((1 : Nat) : Int) from q_1, q_3, m_232 b4, if_pos (by decide)]
          refine ⟨_, rfl, ?_, ?_, fun q => ?_, fun q => ?_, fun q => ?_⟩
          · rw [sI_at, if_neg (by omega), b7]
          · rw [sI_at, if_pos rfl, es]
          · rw [ek, if_neg q3] at q; exact absurd rfl q
          · rw [ek, if_neg q3] at q; omega
          · rw [ek, if_neg q3] at q; omega
end
