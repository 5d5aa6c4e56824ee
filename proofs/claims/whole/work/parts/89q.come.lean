section
variable {z w : St} {c : RC} {F0 F1 : FO} {b b' : BD}
/-! the greatest common measure -/
theorem half_step {a r : Nat} (hr : 0 < r) (hra : r < a) : 2 * (a % r) < a := by
  have h1 := Nat.mod_lt a hr
  have h2 := Nat.div_add_mod a r
  have h3 : 1 ≤ a / r := (Nat.le_div_iff_mul_le hr).mpr (by omega)
  have h4 : r * 1 ≤ r * (a / r) := Nat.mul_le_mul_left r h3
  omega
theorem x_gcd : ∀ (j a r i m : Nat), r < 2 ^ j → a < 2147483648 → r < 2147483648 → i + 2 * j ≤ 64 → 2 * j < m → fn_X11_commonDivisor_7 m (iI (a : Int)) (iI (r : Int)) (iI (i : Int)) z = some (iI ((Nat.gcd a r : Nat) : Int), z) := by
  intro j
  induction j with
  | zero =>
    intro a r i m h1 h2 h3 h4 h5
    have hr : r = 0 := by omega
    subst hr
    obtain ⟨m, rfl⟩ : ∃ k, m = k + 1 := ⟨m - 1, by omega⟩
    rw [fn_X11_commonDivisor_7]
    by_cases hi : 64 ≤ i
    · rw [if_pos (by rw [q_64]; exact yle (by omega) (by omega) (by omega)), Nat.gcd_zero_right]
    · rw [if_neg (by rw [q_64]; exact nle (by omega) (by omega) (by omega)), if_pos z0, Nat.gcd_zero_right]
  | succ j ih =>
    intro a r i m h1 h2 h3 h4 h5
    obtain ⟨m, rfl⟩ : ∃ k, m = k + 1 := ⟨m - 1, by omega⟩
    rw [fn_X11_commonDivisor_7, if_neg (by rw [q_64]; exact nle (by omega) (by omega) (by omega))]
    by_cases hr : r = 0
    · subst hr
      rw [if_pos z0, Nat.gcd_zero_right]
    · have hm := Nat.mod_lt a (show r > 0 from by omega)
      have hn0 : ¬ iI (r : Int) = 0 := i0_ne (by omega) (by omega)
      rw [if_neg hn0, gd_t (bne_iff_ne.mpr hn0), nm_o, iI_mod (by omega) (by omega), k1, show ((a : Int) % (r : Int)) = ((a % r : Nat) : Int) from rfl]
      obtain ⟨m, rfl⟩ : ∃ k, m = k + 1 := ⟨m - 1, by omega⟩
      rw [fn_X11_commonDivisor_7, if_neg (by rw [q_64]; exact nle (by omega) (by omega) (by omega))]
      by_cases hr1 : a % r = 0
      · rw [hr1, if_pos z0, Nat.gcd_comm, Nat.gcd_rec, hr1, Nat.gcd_zero_left]
      · have hn1 : ¬ iI ((a % r : Nat) : Int) = 0 := i0_ne (by omega) (by omega)
        have hh := half_step (a := r) (r := a % r) (by omega) hm
        rw [if_neg hn1, gd_t (bne_iff_ne.mpr hn1), nm_o, iI_mod (by omega) (by omega), k1, show ((r : Int) % ((a % r : Nat) : Int)) = ((r % (a % r) : Nat) : Int) from rfl, ih (a % r) (r % (a % r)) (i + 1 + 1) m (by rw [Nat.pow_succ] at h1; omega) (by omega) (by omega) (by omega) (by omega)]
        congr 4
        rw [Nat.gcd_comm a r, Nat.gcd_rec r a, Nat.gcd_rec (a % r) r, Nat.gcd_comm]
theorem m_gcd : ∀ (j a r m : Nat), r < 2 ^ j → a < 2147483648 → r < 2147483648 → 2 * j < m → fn_X12_divisor_4 m (iI (a : Int)) (iI (r : Int)) z = some (iI ((Nat.gcd a r : Nat) : Int), z) := by
  intro j
  induction j with
  | zero =>
    intro a r m h1 h2 h3 h5
    have hr : r = 0 := by omega
    subst hr
    obtain ⟨m, rfl⟩ : ∃ k, m = k + 1 := ⟨m - 1, by omega⟩
    rw [fn_X12_divisor_4, if_pos (by rw [q_0]; exact yle (by omega) (by omega) (by omega)), Nat.gcd_zero_right]
  | succ j ih =>
    intro a r m h1 h2 h3 h5
    obtain ⟨m, rfl⟩ : ∃ k, m = k + 1 := ⟨m - 1, by omega⟩
    rw [fn_X12_divisor_4]
    by_cases hr : r = 0
    · subst hr
      rw [if_pos (by rw [q_0]; exact yle (by omega) (by omega) (by omega)), Nat.gcd_zero_right]
    · have hm := Nat.mod_lt a (show r > 0 from by omega)
      have hn0 : ¬ iI (r : Int) = 0 := i0_ne (by omega) (by omega)
      rw [if_neg (by rw [q_0]; exact nle (by omega) (by omega) (by omega)), gd_t (bne_iff_ne.mpr hn0), nm_o, iI_mod (by omega) (by omega), show ((a : Int) % (r : Int)) = ((a % r : Nat) : Int) from rfl]
      obtain ⟨m, rfl⟩ : ∃ k, m = k + 1 := ⟨m - 1, by omega⟩
      rw [fn_X12_divisor_4]
      by_cases hr1 : a % r = 0
      · rw [hr1, if_pos (by rw [q_0]; exact yle (by omega) (by omega) (by omega)), Nat.gcd_comm, Nat.gcd_rec, hr1, Nat.gcd_zero_left]
      · have hn1 : ¬ iI ((a % r : Nat) : Int) = 0 := i0_ne (by omega) (by omega)
        have hh := half_step (a := r) (r := a % r) (by omega) hm
        rw [if_neg (by rw [q_0]; exact nle (by omega) (by omega) (by omega)), gd_t (bne_iff_ne.mpr hn1), nm_o, iI_mod (by omega) (by omega), show ((r : Int) % ((a % r : Nat) : Int)) = ((r % (a % r) : Nat) : Int) from rfl, ih (a % r) (r % (a % r)) m (by rw [Nat.pow_succ] at h1; omega) (by omega) (by omega) (by omega)]
        congr 4
        rw [Nat.gcd_comm a r, Nat.gcd_rec r a, Nat.gcd_rec (a % r) r, Nat.gcd_comm]
/-! sets of guests as numbers -/
def bi (s g : Nat) : Bool := s / 2 ^ g % 2 == 1
theorem bi_1 {s g : Nat} (hs : s < 64) (hg : g < 6) : ((iI (s : Int) >>> (iI (g : Int) &&& 31)) &&& 1) = if bi s g then 1 else 0 := by
  have : ∀ s : Nat, s < 64 → ∀ g : Nat, g < 6 → ((iI (s : Int) >>> (iI (g : Int) &&& 31)) &&& 1) = if bi s g then 1 else 0 := by decide +kernel
  exact this s hs g hg
def cnb (s : Nat) : Nat → Nat
  | 0 => 0
  | k + 1 => cnb s k + (if bi s k then 1 else 0)
theorem bitc {s : Nat} (hs : s < 64) : fn_J6_bitCount_0f7a4 (iI (s : Int)) z = some (iI ((cnb s 6 : Nat) : Int), z) := by
  have : ∀ s : Nat, s < 64 → (fn_J6_bitCount_0f7a4 (iI (s : Int)) (fun _ _ => 0, fun _ _ => 0)).map (·.1) = some (iI ((cnb s 6 : Nat) : Int)) := by decide +kernel
  have h := this s hs
  unfold fn_J6_bitCount_0f7a4 at h ⊢
  simp only [nm_o, Option.map_some, Option.some.injEq] at h ⊢
  exact Prod.ext h rfl
theorem cnb_le (s : Nat) : ∀ k, cnb s k ≤ k := by
  intro k
  induction k with
  | zero => exact Nat.le_refl 0
  | succ k ih => rw [cnb]; split <;> omega
theorem cnb_mono (s : Nat) {k : Nat} : ∀ n, k ≤ n → cnb s k ≤ cnb s n := by
  intro n
  induction n with
  | zero => intro h; rw [show k = 0 from by omega]; exact Nat.le_refl _
  | succ n ih =>
    intro h
    by_cases hk : k = n + 1
    · rw [hk]; exact Nat.le_refl _
    · have := ih (by omega)
      rw [cnb]
      omega
/-- no guest is set behind the last -/
theorem cnb_top {s n : Nat} (hn : n ≤ 6) (hs : s < 2 ^ n) : cnb s 6 = cnb s n := by
  have : ∀ n : Nat, n ≤ 6 → ∀ s : Nat, s < 2 ^ n → cnb s 6 = cnb s n := by decide +kernel
  exact this n hn s hs
def upb (c : RC) (s : Nat) : Nat → Nat
  | 0 => 1
  | k + 1 => if bi s k then upb c s k * (c 5 k).toNat else upb c s k
theorem upb_le (hC : VC c) (s : Nat) : ∀ k : Nat, (k : Int) ≤ c 6 1 → upb c s k ≤ 100 ^ cnb s k := by
  intro k
  induction k with
  | zero => intro _; exact Nat.le_refl _
  | succ k ih =>
    intro h
    have hk := hC.2.2.2.2 k (by omega)
    have := ih (by omega)
    rw [upb, cnb]
    by_cases hb : bi s k = true
    · rw [if_pos hb, if_pos hb, Nat.pow_succ]
      exact Nat.mul_le_mul this (by omega)
    · rw [if_neg hb, if_neg hb]
      exact this
theorem p100 {k : Nat} (h : k ≤ 4) : 100 ^ k ≤ 100000000 := by
  have : ∀ k : Nat, k ≤ 4 → 100 ^ k ≤ 100000000 := by decide
  exact this k h
theorem sh1 {n : Nat} (h : n ≤ 6) : (1 : Int32) <<< (iI (n : Int) &&& 31) = iI ((2 ^ n : Nat) : Int) := by
  have : ∀ n : Nat, n ≤ 6 → (1 : Int32) <<< (iI (n : Int) &&& 31) = iI ((2 ^ n : Nat) : Int) := by decide +kernel
  exact this n h
theorem p2 {n : Nat} (h : n ≤ 6) : 1 ≤ 2 ^ n ∧ 2 ^ n ≤ 64 := by
  have : ∀ n : Nat, n ≤ 6 → 1 ≤ 2 ^ n ∧ 2 ^ n ≤ 64 := by decide
  exact this n h
def scome (c : RC) (s y : Int) : Int32 := if (0 ≤ s ∧ s < ((2 ^ (c 6 1).toNat : Nat) : Int)) ∧ cnb s.toNat (c 6 1).toNat ≤ 4 ∧ (0 ≤ y ∧ y ≤ 1) then (if y = 0 then iI ((upb c s.toNat (c 6 1).toNat : Nat) : Int) / iI ((Nat.gcd (upb c s.toNat (c 6 1).toNat) (100 ^ cnb s.toNat (c 6 1).toNat) : Nat) : Int) else iI ((100 ^ cnb s.toNat (c 6 1).toNat : Nat) : Int) / iI ((Nat.gcd (upb c s.toNat (c 6 1).toNat) (100 ^ cnb s.toNat (c 6 1).toNat) : Nat) : Int)) else -1
theorem s_come (u v : Int32) (h : RD z c F0 F1 b) : Same (fn_X11_come u v) (fn_X12_come u v) z := by
  obtain ⟨s', rfl, hs'⟩ := ii u
  obtain ⟨y, rfl, hy⟩ := ii v
  have hC := h.vc
  have h6 := hC.2.1
  generalize hG : (c 6 1).toNat = G
  have hGc : (G : Int) = c 6 1 := by omega
  have hp2 := p2 (n := G) (by omega)
  refine qry (scome c s' y) h (fun z h => ⟨z, ?_⟩) (fun z w e a k h => ff_X11_come (by trivial) e) (fun z h => ⟨z, ?_⟩) (fun z w e a k h => ff_X12_come (by trivial) e)
  · unfold fn_X11_come scome
    rw [hG, h.xr.2.1, ← hGc, sh1 (by omega)]
    by_cases g1 : s' < 0
    · rw [if_pos (by rw [q_0]; exact ylt (by omega) (by omega) g1), if_neg (by omega)]
    · rw [if_neg (by rw [q_0]; exact nlt (by omega) (by omega) g1)]
      by_cases g2 : ((2 ^ G : Nat) : Int) ≤ s'
      · rw [if_pos (yle (by omega) (by omega) g2), if_neg (by omega)]
      · obtain ⟨s, rfl⟩ : ∃ s : Nat, s' = s := ⟨s'.toNat, by omega⟩
        have hs : s < 2 ^ G := by omega
        rw [if_neg (nle (by omega) (by omega) g2), bd_o (bitc (by omega)), cnb_top (by omega) hs, Int.toNat_natCast]
        have hcl := cnb_le s G
        by_cases g3 : 4 < cnb s G
        · rw [if_pos (by rw [q_4]; exact ylt (by omega) (by omega) (by omega)), if_neg (by omega)]
        · rw [if_neg (by rw [q_4]; exact nlt (by omega) (by omega) (by omega))]
          by_cases g4 : y < 0
          · rw [if_pos (by rw [q_0]; exact ylt (by omega) (by omega) g4), if_neg (by omega)]
          · rw [if_neg (by rw [q_0]; exact nlt (by omega) (by omega) g4)]
            by_cases g5 : y ≤ 1
            · rw [if_pos (by rw [q_1]; exact yle (by omega) (by omega) g5), if_pos (by omega)]
              obtain ⟨m, hm⟩ := loopK (fun m k => fn_X11_come_44 m (iI (s : Int)) (iI y) (iI ((upb c s k : Nat) : Int)) (iI ((100 ^ cnb s k : Nat) : Int)) (iI (k : Int)) z) G (by omega) (fun k m hk => by
                have hr := h.xr.2.2.2.2 k (by omega)
                have hcc := hC.2.2.2.2 k (by omega)
                show fn_X11_come_44 (m + 1) _ _ _ _ _ _ = fn_X11_come_44 m _ _ _ _ _ _
                rw [fn_X11_come_44, h.xr.2.1, if_neg (nle (by omega) (by omega) (by omega)), bi_1 (by omega) (by omega), upb, cnb]
                unfold fn_X11_come_86
                by_cases hb : bi s k = true
                · rw [if_pos hb, if_pos hb, if_pos rfl, gd_t (iI_ix (by omega)), nm_o, nm_o, iI_clampN (by omega), hr.2.2, k1, q_100, iI_mul, iI_mul, if_pos hb, Nat.pow_succ, show ((upb c s k * (c 5 k).toNat : Nat) : Int) = (upb c s k : Int) * c 5 k from by rw [Int.natCast_mul]; congr 1; omega, show ((100 ^ cnb s k * 100 : Nat) : Int) = ((100 ^ cnb s k : Nat) : Int) * 100 from by rw [Int.natCast_mul]; rfl]
                · rw [if_neg hb, if_neg hb, if_neg (by decide), k1, if_neg hb]
                  rfl)
              have hu := upb_le hC s G (by omega)
              have hp := p100 (k := cnb s G) (by omega)
              refine (show _ = fn_X11_come_44 fu (iI (s : Int)) (iI y) (iI ((1 : Nat) : Int)) (iI ((1 : Nat) : Int)) (iI ((0 : Nat) : Int)) z from by rw [z0, show iI ((1 : Nat) : Int) = 1 from q_1.symm]).trans (hm.trans ?_)
              have hg0 : 0 < Nat.gcd (upb c s G) (100 ^ cnb s G) := Nat.gcd_pos_of_pos_right _ (Nat.pow_pos (by omega))
              have hg1 : Nat.gcd (upb c s G) (100 ^ cnb s G) ≤ 100 ^ cnb s G := Nat.le_of_dvd (Nat.pow_pos (by omega)) (Nat.gcd_dvd_right _ _)
              have hgn : ¬ iI ((Nat.gcd (upb c s G) (100 ^ cnb s G) : Nat) : Int) = 0 := i0_ne (by omega) (by omega)
              rw [fn_X11_come_44, h.xr.2.1, if_pos (yle (by omega) (by omega) (by omega))]
              unfold fn_X11_commonDivisor
              rw [bd_o (show fn_X11_commonDivisor_7 fu _ _ 0 z = _ from by rw [← z0]; exact x_gcd 27 _ _ 0 fu (by omega) (by omega) (by omega) (by omega) (by unfold fu; omega)), if_neg hgn, gd_t (bne_iff_ne.mpr hgn), gd_t (bne_iff_ne.mpr hgn)]
              by_cases y0 : y = 0
              · rw [if_pos (by rw [y0]; rfl), if_pos y0]
              · rw [if_neg (i0_ne hy y0), if_neg y0]
            · rw [if_neg (by rw [q_1]; exact nle (by omega) (by omega) g5), if_neg (by omega)]
  · unfold fn_X12_come scome
    rw [hG, h.mr.2.1, ← hGc, sh1 (by omega), q_1, iI_sub, q_0, bd_o (m_isIn hs' (by omega) (by omega))]
    by_cases g1 : 0 ≤ s' ∧ s' ≤ ((2 ^ G : Nat) : Int) - 1
    · rw [tr_1 g1, if_neg (by decide), bd_o (m_isIn hy (by omega) (by omega))]
      by_cases g2 : 0 ≤ y ∧ y ≤ 1
      · obtain ⟨s, rfl⟩ : ∃ s : Nat, s' = s := ⟨s'.toNat, by omega⟩
        have hs : s < 2 ^ G := by omega
        rw [tr_1 g2, if_neg (by decide), Int.toNat_natCast]
        obtain ⟨r, hr, er⟩ := loopX (fun m k (u : St) => fn_X12_come_38 m (iI (s : Int)) (iI y) (iI ((cnb s k : Nat) : Int)) (iI ((upb c s k : Nat) : Int)) (iI ((100 ^ cnb s k : Nat) : Int)) (iI (k : Int)) u) (fun k u => u = z ∧ cnb s k ≤ 4) (fun r => r = (if ((0 : Int) ≤ (s : Int) ∧ (s : Int) < ((2 ^ G : Nat) : Int)) ∧ cnb s G ≤ 4 ∧ (0 ≤ y ∧ y ≤ 1) then (if y = 0 then iI ((upb c s G : Nat) : Int) / iI ((Nat.gcd (upb c s G) (100 ^ cnb s G) : Nat) : Int) else iI ((100 ^ cnb s G : Nat) : Int) / iI ((Nat.gcd (upb c s G) (100 ^ cnb s G) : Nat) : Int)) else -1, z)) G (by omega) z ⟨rfl, Nat.zero_le _⟩ (fun k m u hk ⟨e, i⟩ => by
          subst e
          have hr := h.mr.2.2.2.2 k (by omega)
          have hcc := hC.2.2.2.2 k (by omega)
          show (∃ r, _ ∧ fn_X12_come_38 (m + 1) _ _ _ _ _ _ _ = _) ∨ ∃ s', _ ∧ fn_X12_come_38 (m + 1) _ _ _ _ _ _ _ = fn_X12_come_38 m _ _ _ _ _ _ _
          rw [fn_X12_come_38, h.mr.2.1, if_neg (nle (by omega) (by omega) (by omega)), bi_1 (by omega) (by omega), upb, cnb]
          unfold fn_X12_come_88
          by_cases hb : bi s k = true
          · rw [if_pos hb, if_neg (show ¬ ((1 : Int32) = 0) from by decide), if_pos hb, if_pos hb]
            by_cases h4 : cnb s k + 1 ≤ 4
            · refine Or.inr ⟨u, ⟨rfl, h4⟩, ?_⟩
              rw [if_pos (by rw [q_1, iI_add, q_4]; exact yle (by omega) (by omega) (by omega)), gd_t (iI_ix (by omega)), nm_o, nm_o, iI_clampN (by omega), hr.2.2, k1, k1, q_100, iI_mul, iI_mul, Nat.pow_succ, show ((upb c s k * (c 5 k).toNat : Nat) : Int) = (upb c s k : Int) * c 5 k from by rw [Int.natCast_mul]; congr 1; omega, show ((100 ^ cnb s k * 100 : Nat) : Int) = ((100 ^ cnb s k : Nat) : Int) * 100 from by rw [Int.natCast_mul]; rfl]
            · refine Or.inl ⟨_, rfl, ?_⟩
              have hc5 : cnb s (k + 1) = cnb s k + 1 := by rw [cnb, if_pos hb]
              have hm := cnb_mono s (k := k + 1) G (by omega)
              rw [if_neg (by rw [q_1, iI_add, q_4]; exact nle (by omega) (by omega) (by omega)), if_neg (by omega)]
          · refine Or.inr ⟨u, ⟨rfl, by rw [if_neg hb]; exact i⟩, ?_⟩
            rw [if_neg hb, if_pos (show (0 : Int32) = 0 from rfl), if_neg hb, if_neg hb, k1]
            rfl) (fun m u ⟨e, i⟩ => by
          subst e
          refine ⟨_, rfl, ?_⟩
          show fn_X12_come_38 (m + 1) _ _ _ _ _ _ _ = _
          have hu := upb_le hC s G (by omega)
          have hp := p100 (k := cnb s G) (by omega)
          have hg0 : 0 < Nat.gcd (upb c s G) (100 ^ cnb s G) := Nat.gcd_pos_of_pos_right _ (Nat.pow_pos (by omega))
          have hg1 : Nat.gcd (upb c s G) (100 ^ cnb s G) ≤ 100 ^ cnb s G := Nat.le_of_dvd (Nat.pow_pos (by omega)) (Nat.gcd_dvd_right _ _)
          have hgn : ¬ iI ((Nat.gcd (upb c s G) (100 ^ cnb s G) : Nat) : Int) = 0 := i0_ne (by omega) (by omega)
          rw [fn_X12_come_38, h.mr.2.1, if_pos (yle (by omega) (by omega) (by omega))]
          unfold fn_X12_divisor
          rw [bd_o (show fn_X12_divisor_4 fu (iI ((100 ^ cnb s G : Nat) : Int)) (iI ((upb c s G : Nat) : Int)) u = some (iI ((Nat.gcd (upb c s G) (100 ^ cnb s G) : Nat) : Int), u) from by rw [Nat.gcd_comm (upb c s G)]; exact m_gcd 27 _ _ fu (by omega) (by omega) (by omega) (by unfold fu; omega)), gd_t (bne_iff_ne.mpr hgn), gd_t (bne_iff_ne.mpr hgn), if_pos (show ((0 : Int) ≤ (s : Int) ∧ (s : Int) < ((2 ^ G : Nat) : Int)) ∧ cnb s G ≤ 4 ∧ (0 ≤ y ∧ y ≤ 1) from by omega)]
          by_cases y0 : y = 0
          · rw [if_pos (by rw [y0]; rfl), if_pos y0]
          · rw [if_neg (i0_ne hy y0), if_neg y0])
        subst hr
        exact (show _ = fn_X12_come_38 fu (iI (s : Int)) (iI y) (iI ((cnb s 0 : Nat) : Int)) (iI ((1 : Nat) : Int)) (iI ((100 ^ cnb s 0 : Nat) : Int)) (iI ((0 : Nat) : Int)) z from rfl).trans er
      · rw [tr_n g2, if_pos rfl, if_neg (by omega), ← q_1]
    · rw [tr_n g1, if_pos rfl, if_neg (by omega), ← q_1]
end
