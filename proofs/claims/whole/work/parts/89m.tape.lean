section
variable {z w : St} {c : RC} {F0 F1 : FO} {b b' : BD}
theorem RD_RT (h : RD z c F0 F1 b) (hs : ∀ a k, PS a k → ¬ PT a k → SA z w a k) (hN : RT w) : RD w c F0 F1 b :=
  ⟨hN, h.2.1.fr fun a k g => hs a k (by unfold PFt at g; unfold PS; omega) (by unfold PFt at g; unfold PT; omega), h.2.2.1.fr fun a k g => hs a k (by unfold PK at g; unfold PS; omega) (by unfold PK at g; unfold PT; omega), h.2.2.2.1.fr fun a k g => hs a k (by unfold PY at g; unfold PS; omega) (by unfold PY at g; unfold PT; omega), h.2.2.2.2.1.fr fun a k g => hs a k (by unfold PG QX QR at g; unfold PS; omega) (by unfold PG QX QR at g; unfold PT; omega), h.2.2.2.2.2.1.fr fun a k g => hs a k (by unfold PB at g; unfold PS; omega) (by unfold PB at g; unfold PT; omega), h.2.2.2.2.2.2.1.fr fun a k g => hs a k (by unfold PX at g; unfold PS; omega) (by unfold PX at g; unfold PT; omega), h.2.2.2.2.2.2.2.1.fr fun a k g => hs a k (by unfold PL at g; unfold PS; omega) (by unfold PL at g; unfold PT; omega), h.2.2.2.2.2.2.2.2.fr fun a k g => hs a k (by unfold PA at g; unfold PS; omega) (by unfold PA at g; unfold PT; omega)⟩
theorem RD_RY (h : RD z c F0 F1 b) (hs : ∀ a k, PS a k → ¬ PY a k → SA z w a k) (hN : RY w) : RD w c F0 F1 b :=
  ⟨h.1.fr fun a k g => hs a k (by unfold PT at g; unfold PS; omega) (by unfold PT at g; unfold PY; omega), h.2.1.fr fun a k g => hs a k (by unfold PFt at g; unfold PS; omega) (by unfold PFt at g; unfold PY; omega), h.2.2.1.fr fun a k g => hs a k (by unfold PK at g; unfold PS; omega) (by unfold PK at g; unfold PY; omega), hN, h.2.2.2.2.1.fr fun a k g => hs a k (by unfold PG QX QR at g; unfold PS; omega) (by unfold PG QX QR at g; unfold PY; omega), h.2.2.2.2.2.1.fr fun a k g => hs a k (by unfold PB at g; unfold PS; omega) (by unfold PB at g; unfold PY; omega), h.2.2.2.2.2.2.1.fr fun a k g => hs a k (by unfold PX at g; unfold PS; omega) (by unfold PX at g; unfold PY; omega), h.2.2.2.2.2.2.2.1.fr fun a k g => hs a k (by unfold PL at g; unfold PS; omega) (by unfold PL at g; unfold PY; omega), h.2.2.2.2.2.2.2.2.fr fun a k g => hs a k (by unfold PA at g; unfold PS; omega) (by unfold PA at g; unfold PY; omega)⟩
theorem RD_RX (h : RD z c F0 F1 b) (hs : ∀ a k, PS a k → ¬ PX a k → SA z w a k) (hN : RX w c) : RD w c F0 F1 b :=
  ⟨h.1.fr fun a k g => hs a k (by unfold PT at g; unfold PS; omega) (by unfold PT at g; unfold PX; omega), h.2.1.fr fun a k g => hs a k (by unfold PFt at g; unfold PS; omega) (by unfold PFt at g; unfold PX; omega), h.2.2.1.fr fun a k g => hs a k (by unfold PK at g; unfold PS; omega) (by unfold PK at g; unfold PX; omega), h.2.2.2.1.fr fun a k g => hs a k (by unfold PY at g; unfold PS; omega) (by unfold PY at g; unfold PX; omega), h.2.2.2.2.1.fr fun a k g => hs a k (by unfold PG QX QR at g; unfold PS; omega) (by unfold PG QX QR at g; unfold PX; omega), h.2.2.2.2.2.1.fr fun a k g => hs a k (by unfold PB at g; unfold PS; omega) (by unfold PB at g; unfold PX; omega), hN, h.2.2.2.2.2.2.2.1.fr fun a k g => hs a k (by unfold PL at g; unfold PS; omega) (by unfold PL at g; unfold PX; omega), h.2.2.2.2.2.2.2.2.fr fun a k g => hs a k (by unfold PA at g; unfold PS; omega) (by unfold PA at g; unfold PX; omega)⟩
theorem RD_RLo (h : RD z c F0 F1 b) (hs : ∀ a k, PS a k → ¬ PL a k → SA z w a k) (hN : RLo w) : RD w c F0 F1 b :=
  ⟨h.1.fr fun a k g => hs a k (by unfold PT at g; unfold PS; omega) (by unfold PT at g; unfold PL; omega), h.2.1.fr fun a k g => hs a k (by unfold PFt at g; unfold PS; omega) (by unfold PFt at g; unfold PL; omega), h.2.2.1.fr fun a k g => hs a k (by unfold PK at g; unfold PS; omega) (by unfold PK at g; unfold PL; omega), h.2.2.2.1.fr fun a k g => hs a k (by unfold PY at g; unfold PS; omega) (by unfold PY at g; unfold PL; omega), h.2.2.2.2.1.fr fun a k g => hs a k (by unfold PG QX QR at g; unfold PS; omega) (by unfold PG QX QR at g; unfold PL; omega), h.2.2.2.2.2.1.fr fun a k g => hs a k (by unfold PB at g; unfold PS; omega) (by unfold PB at g; unfold PL; omega), h.2.2.2.2.2.2.1.fr fun a k g => hs a k (by unfold PX at g; unfold PS; omega) (by unfold PX at g; unfold PL; omega), hN, h.2.2.2.2.2.2.2.2.fr fun a k g => hs a k (by unfold PA at g; unfold PS; omega) (by unfold PA at g; unfold PL; omega)⟩
/-! the tape -/
theorem and255_b (x : Int32) : 0 ≤ (x &&& 255).toInt ∧ (x &&& 255).toInt ≤ 255 := by
  have h : (x &&& 255).toBitVec.toNat ≤ 255 := by
    rw [Int32.toBitVec_and, BitVec.toNat_and]
    exact Nat.le_trans Nat.and_le_right (by decide)
  have e : (x &&& 255).toInt = ((x &&& 255).toBitVec.toNat : Int) := BitVec.toInt_eq_toNat_of_lt (by omega)
  rw [e]
  omega
def XT (z : St) (n : Nat) (T : Nat → Int32) : Prop := z.1 0 1 = iI n ∧ ∀ i, i < n → z.1 1 i &&& 255 = T i
def MT (z : St) (n : Nat) (T : Nat → Int32) : Prop := z.1 172 1 = iI n ∧ ∀ i, i < n → z.1 173 i = T i
def bt (v : Int32) (i : Nat) : Int32 := (v >>> (iI (24 - 8 * (i : Int)) &&& 31)) &&& 255
def t4 (T : Nat → Int32) (n : Nat) (v : Int32) : Nat → Int32 := fun i => if i < n then T i else bt v (i - n)
theorem x_put4 {n : Nat} {T : Nat → Int32} (v : Int32) (h : XT z n T) (hn : n + 4 ≤ 1600) : ∃ w, fn_X11_putOnTape v z = some w ∧ XT w (n + 4) (t4 T n v) := by
  obtain ⟨m, s, ⟨i1, i2⟩, hm⟩ := loopE (fun m k s => fn_X11_putOnTape_3 m v (iI (24 - 8 * (k : Int))) s) (fun k s => s.1 0 1 = iI ((n + k : Nat) : Int) ∧ ∀ i, i < n + k → s.1 1 i &&& 255 = t4 T n v i) 4 (by omega) z ⟨h.1, fun i hi => by rw [h.2 i hi, t4, if_pos (show i < n from hi)]⟩ (fun k m s hk ⟨i1, i2⟩ => by
    show ∃ s', _ ∧ fn_X11_putOnTape_3 (m + 1) _ _ _ = fn_X11_putOnTape_3 m _ _ _
    rw [fn_X11_putOnTape_3, if_neg (by rw [q_0]; exact nlt (by omega) (by omega) (by omega)), i1, if_neg (by rw [q_1600]; exact nle (by omega) (by omega) (by omega)), gd_t (iI_ix (by omega)), nm_o, nm_o, iI_clampN (by omega)]
    unfold fn_X11_putOnTape_42
    rw [show (sI s 1 (n + k) (Int8.toInt32 (Int32.toInt8 (Int8.toInt32 (Int32.toInt8 (v >>> (iI (24 - 8 * (k : Int)) &&& 31))))))).1 0 1 = iI ((n + k : Nat) : Int) from i1, k1, show iI (24 - 8 * (k : Int)) + -8 = iI (24 - 8 * ((k + 1 : Nat) : Int)) from by rw [q_m8, iI_add]; congr 1; omega]
    refine ⟨sI (sI s 1 (n + k) (Int8.toInt32 (Int32.toInt8 (Int8.toInt32 (Int32.toInt8 (v >>> (iI (24 - 8 * (k : Int)) &&& 31))))))) 0 1 (iI ((n + k + 1 : Nat) : Int)), ⟨by rw [sI_at, if_pos rfl]; rfl, fun i hi => ?_⟩, rfl⟩
    · rw [(sa_Ia (a := 1) (k := i) rfl (by omega)).1, sI_at]
      by_cases hik : i = n + k
      · rw [if_pos hik, and255, hik, t4, if_neg (by omega), bt, show n + k - n = k from by omega, and255]
      · rw [if_neg hik]
        exact i2 i (by omega))
  unfold fn_X11_putOnTape
  refine ⟨s, (show _ = fn_X11_putOnTape_3 fu v (iI (24 - 8 * ((0 : Nat) : Int))) z from by rw [show iI (24 - 8 * ((0 : Nat) : Int)) = 24 from q_24.symm]).trans (hm.trans ?_), i1, i2⟩
  show fn_X11_putOnTape_3 (m + 1) _ _ _ = _
  rw [fn_X11_putOnTape_3, if_pos (by decide)]
theorem m_four {n : Nat} {T : Nat → Int32} (v : Int32) (h : MT z n T) (hn : n + 4 ≤ 1600) : ∃ w, fn_X12_four v z = some w ∧ MT w (n + 4) (t4 T n v) := by
  obtain ⟨m, s, ⟨i1, i2⟩, hm⟩ := loopE (fun m k s => fn_X12_four_3 m v (iI (24 - 8 * (k : Int))) s) (fun k s => s.1 172 1 = iI ((n + k : Nat) : Int) ∧ ∀ i, i < n + k → s.1 173 i = t4 T n v i) 4 (by omega) z ⟨h.1, fun i hi => by rw [h.2 i hi, t4, if_pos (show i < n from hi)]⟩ (fun k m s hk ⟨i1, i2⟩ => by
    show ∃ s', _ ∧ fn_X12_four_3 (m + 1) _ _ _ = fn_X12_four_3 m _ _ _
    rw [fn_X12_four_3, if_neg (by rw [q_0]; exact nlt (by omega) (by omega) (by omega)), i1, gd_t (iI_ix (by omega)), nm_o, nm_o, iI_clampN (by omega), show (sI s 173 (n + k) ((v >>> (iI (24 - 8 * (k : Int)) &&& 31)) &&& 255)).1 172 1 = iI ((n + k : Nat) : Int) from i1, k1, show iI (24 - 8 * (k : Int)) + -8 = iI (24 - 8 * ((k + 1 : Nat) : Int)) from by rw [q_m8, iI_add]; congr 1; omega]
    refine ⟨_, ⟨by rw [sI_at, if_pos rfl]; rfl, fun i hi => ?_⟩, rfl⟩
    rw [(sa_Ia (a := 173) (k := i) rfl (by omega)).1, sI_at]
    by_cases hik : i = n + k
    · rw [if_pos hik, hik, t4, if_neg (by omega), bt, show n + k - n = k from by omega]
    · rw [if_neg hik]
      exact i2 i (by omega))
  unfold fn_X12_four
  refine ⟨s, (show _ = fn_X12_four_3 fu v (iI (24 - 8 * ((0 : Nat) : Int))) z from by rw [show iI (24 - 8 * ((0 : Nat) : Int)) = 24 from q_24.symm]).trans (hm.trans ?_), i1, i2⟩
  show fn_X12_four_3 (m + 1) _ _ _ = _
  rw [fn_X12_four_3, if_pos (by decide)]
theorem t4_b {T : Nat → Int32} {n : Nat} {v : Int32} (h : ∀ i, i < n → 0 ≤ (T i).toInt ∧ (T i).toInt ≤ 255) : ∀ i, i < n + 4 → 0 ≤ (t4 T n v i).toInt ∧ (t4 T n v i).toInt ≤ 255 := fun i _ => by
  unfold t4
  split
  · rename_i hi; exact h i hi
  · exact and255_b _
theorem s_feed (v1 v2 v3 v4 v5 : Int32) (h : RD z c F0 F1 b) : Same (fn_X11_feed v1 v2 v3 v4 v5) (fn_X12_feed v1 v2 v3 v4 v5) z := by
  obtain ⟨n, t1, t2, t3, t4'⟩ := h.1
  by_cases hn : n + 20 ≤ 1600
  · obtain ⟨x1, e1, X1⟩ := x_put4 v1 (z := z) (n := n) (T := z.1 173) ⟨t2, fun i hi => (t4' i hi).1⟩ (by omega)
    obtain ⟨x2, e2, X2⟩ := x_put4 v2 X1 (by omega)
    obtain ⟨x3, e3, X3⟩ := x_put4 v3 X2 (by omega)
    obtain ⟨x4, e4, X4⟩ := x_put4 v4 X3 (by omega)
    obtain ⟨x5, e5, X5⟩ := x_put4 v5 X4 (by omega)
    have ex : fn_X11_feed v1 v2 v3 v4 v5 z = some (iI ((n + 4 + 4 + 4 + 4 + 4 : Nat) : Int), x5) := by
      unfold fn_X11_feed
      rw [t2, if_pos (by rw [q_1580]; exact yle (by omega) (by omega) (by omega)), bv_o e1, bv_o e2, bv_o e3, bv_o e4, bv_o e5, X5.1]
    have fx : ∀ a k, ¬ a = 1 ∧ ¬ (a = 0 ∧ k = 1) → SA z x5 a k := fun a k g => ff_X11_feed g ex
    obtain ⟨m1, g1, M1⟩ := m_four v1 (z := x5) (n := n) (T := z.1 173) ⟨(fx 172 1 (by omega)).1.trans t3, fun i hi => (fx 173 i (by omega)).1⟩ (by omega)
    obtain ⟨m2, g2, M2⟩ := m_four v2 M1 (by omega)
    obtain ⟨m3, g3, M3⟩ := m_four v3 M2 (by omega)
    obtain ⟨m4, g4, M4⟩ := m_four v4 M3 (by omega)
    obtain ⟨m5, g5, M5⟩ := m_four v5 M4 (by omega)
    have em : fn_X12_feed v1 v2 v3 v4 v5 x5 = some (iI ((n + 4 + 4 + 4 + 4 + 4 : Nat) : Int), m5) := by
      unfold fn_X12_feed
      rw [(fx 172 1 (by omega)).1, t3, q_20, iI_add, if_pos (by rw [q_1600]; exact yle (by omega) (by omega) (by omega)), bv_o g1, bv_o g2, bv_o g3, bv_o g4, bv_o g5, M5.1]
    have fm : ∀ a k, ¬ a = 173 ∧ ¬ (a = 172 ∧ k = 1) → SA x5 m5 a k := fun a k g => ff_X12_feed g em
    refine ⟨_, x5, m5, ex, em, c, F0, F1, b, RD_RT h (fun a k g1 g2 => (fx a k (by unfold PT at g2; omega)).tr (fm a k (by unfold PT at g2; omega))) ⟨n + 4 + 4 + 4 + 4 + 4, by omega, (fm 0 1 (by omega)).1.trans X5.1, M5.1, fun i hi => ?_⟩⟩
    rw [(fm 1 i (by omega)).1, X5.2 i hi, M5.2 i hi]
    exact ⟨rfl, t4_b (t4_b (t4_b (t4_b (t4_b fun i hi => (t4' i hi).2)))) i hi⟩
  · refine ⟨-1, z, z, ?_, ?_, c, F0, F1, b, h⟩
    · unfold fn_X11_feed
      rw [t2, if_neg (by rw [q_1580]; exact nle (by omega) (by omega) (by omega))]
    · unfold fn_X12_feed
      rw [t3, q_20, iI_add, if_neg (by rw [q_1600]; exact nle (by omega) (by omega) (by omega))]
theorem s_end (v : Int32) (h : RD z c F0 F1 b) : Same (fn_X11_end v) (fn_X12_end v) z := by
  obtain ⟨y, rfl, hy⟩ := ii v
  obtain ⟨n, t1, t2, t3, t4'⟩ := h.1
  by_cases h1 : 0 ≤ y ∧ y ≤ n
  · refine ⟨iI y, sI z 0 1 (iI y), sI (sI z 0 1 (iI y)) 172 1 (iI y), ?_, ?_, c, F0, F1, b, RD_RT h (fun a k g1 g2 => (sa_I rfl (by unfold PT at g2; omega)).tr (sa_I rfl (by unfold PT at g2; omega))) ⟨y.toNat, by omega, ?_, ?_, fun i hi => t4' i (by omega)⟩⟩
    · unfold fn_X11_end
      rw [t2, if_neg (by rw [q_0]; exact nlt (by omega) (by omega) (by omega)), if_pos (yle (by omega) (by omega) (by omega)), nm_o]
    · unfold fn_X12_end
      rw [show (sI z 0 1 (iI y)).1 172 1 = iI n from t3, if_neg (by rw [q_0]; exact nlt (by omega) (by omega) (by omega)), if_pos (yle (by omega) (by omega) (by omega)), nm_o]
    · rw [show (sI (sI z 0 1 (iI y)) 172 1 (iI y)).1 0 1 = iI y from rfl]; exact nn h1.1
    · rw [sI_at, if_pos rfl]; exact nn h1.1
  · refine ⟨-1, z, z, ?_, ?_, c, F0, F1, b, h⟩
    · unfold fn_X11_end
      rw [t2]
      by_cases g : y < 0
      · rw [if_pos (by rw [q_0]; exact ylt (by omega) (by omega) g)]
      · rw [if_neg (by rw [q_0]; exact nlt (by omega) (by omega) g), if_neg (nle (by omega) (by omega) (by omega))]
    · unfold fn_X12_end
      rw [t3]
      by_cases g : y < 0
      · rw [if_pos (by rw [q_0]; exact ylt (by omega) (by omega) g)]
      · rw [if_neg (by rw [q_0]; exact nlt (by omega) (by omega) g), if_neg (nle (by omega) (by omega) (by omega))]
end
