section
variable {z : St} {c : RC}
theorem ne0 {n : Nat} (h : 1 ≤ n ∧ n < 2147483648) : (iI (n : Int) != 0) = true := bne_iff_ne.mpr (i0_ne (by omega) (by omega))
def gok (C R p q : Nat) : Bool := decide (1 ≤ p ∧ 1 ≤ q ∧ p ≤ C ∧ q ≤ R ∧ C % p = 0 ∧ R % q = 0)
theorem nmod {a n : Nat} (ha : a < 2147483648) (hn : 1 ≤ n ∧ n < 2147483648) : (iI (a : Int) - iI (a : Int) / iI (n : Int) * iI (n : Int)) = iI ((a % n : Nat) : Int) := by
  rw [iI_mod (by omega) (by omega)]
  rfl
theorem ndiv {a n : Nat} (ha : a < 2147483648) (hn : 1 ≤ n ∧ n < 2147483648) : iI (a : Int) / iI (n : Int) = iI ((a / n : Nat) : Int) := by
  rw [iI_div (by omega) (by omega)]
  rfl
theorem x_canBe {C R p q : Nat} (hC : C ≤ 8) (hR : R ≤ 8) (hp : p < 2147483648) (hq : q < 2147483648) : fn_X3_canBe (iI (C : Int)) (iI (R : Int)) (iI (p : Int)) (iI (q : Int)) z = some (iI (tr (gok C R p q = true)), z) := by
  unfold fn_X3_canBe gok
  by_cases g1 : p < 1
  · rw [if_pos (by rw [q_1]; exact ylt (by omega) (by omega) (by omega)), tr_n (by simp; omega), q_0]
  · rw [if_neg (by rw [q_1]; exact nlt (by omega) (by omega) (by omega))]
    by_cases g2 : q < 1
    · rw [if_pos (by rw [q_1]; exact ylt (by omega) (by omega) (by omega)), tr_n (by simp; omega), q_0]
    · rw [if_neg (by rw [q_1]; exact nlt (by omega) (by omega) (by omega))]
      by_cases g3 : C < p
      · rw [if_pos (ylt (by omega) (by omega) (by omega)), tr_n (by simp; omega), q_0]
      · rw [if_neg (nlt (by omega) (by omega) (by omega))]
        by_cases g4 : R < q
        · rw [if_pos (ylt (by omega) (by omega) (by omega)), tr_n (by simp; omega), q_0]
        · rw [if_neg (nlt (by omega) (by omega) (by omega)), gd_t (ne0 (by omega)), nmod (by omega) (by omega)]
          have m1 := Nat.mod_lt C (show p > 0 from by omega)
          have m2 := Nat.mod_lt R (show q > 0 from by omega)
          by_cases g5 : C % p = 0
          · rw [g5, if_pos z0, gd_t (ne0 (by omega)), nmod (by omega) (by omega)]
            by_cases g6 : R % q = 0
            · rw [g6, if_pos z0, tr_1 (decide_eq_true (by omega)), q_1]
            · rw [if_neg (i0_ne (by omega) (by omega)), tr_n (by simp; omega), q_0]
          · rw [if_neg (i0_ne (by omega) (by omega)), tr_n (by simp; omega), q_0]
theorem gok_s {C R p q : Nat} (h : gok C R p q = true) (hC : C ≤ 8) (hR : R ≤ 8) : (1 ≤ p ∧ 1 ≤ C / p ∧ p * (C / p) ≤ 8) ∧ (1 ≤ q ∧ 1 ≤ R / q ∧ q * (R / q) ≤ 8) ∧ p ≤ 8 ∧ q ≤ 8 ∧ C / p ≤ 8 ∧ R / q ≤ 8 := by
  have g := of_decide_eq_true h
  have a1 : 1 ≤ C / p := (Nat.le_div_iff_mul_le (by omega)).mpr (by omega)
  have a2 : 1 ≤ R / q := (Nat.le_div_iff_mul_le (by omega)).mpr (by omega)
  have b1 := Nat.mul_div_le C p
  have b2 := Nat.mul_div_le R q
  have c1 := Nat.div_le_self C p
  have c2 := Nat.div_le_self R q
  omega
theorem x_icingSet {C R p q : Nat} (hC : C ≤ 8) (hR : R ≤ 8) (h : gok C R p q = true) : fn_X3_icingSet (iI (C : Int)) (iI (R : Int)) (iI (p : Int)) (iI (q : Int)) z = some (isI (C / p) (R / q) p q p, z) := by
  obtain ⟨h1, h2, h3, h4, h5, h6⟩ := gok_s h hC hR
  unfold fn_X3_icingSet
  rw [bd_o (x_canBe hC hR (by omega) (by omega)), tr_1 h, if_neg (by decide), gd_t (ne0 (by omega)), nm_o, gd_t (ne0 (by omega)), nm_o, ndiv (by omega) (by omega), ndiv (by omega) (by omega)]
  generalize C / p = w at *
  generalize R / q = d at *
  obtain ⟨m, hm⟩ := loopK (fun m i => fn_X3_icingSet_32 m (iI (p : Int)) (iI (q : Int)) (isI w d p q i) (iI (w : Int)) (iI (d : Int)) (iI (i : Int)) z) p (by omega) (fun i m hi => by
    have inner : ∀ v10 : Int32, v10 = iI (((if i = 0 then d else 0) + (if i = p - 1 then d else 0) : Nat) : Int) → fn_X3_icingSet_69 (fn_X3_icingSet_32 m) fu (iI (p : Int)) (iI (q : Int)) (isI w d p q i) (iI (w : Int)) (iI (d : Int)) (iI (i : Int)) v10 0 z = fn_X3_icingSet_32 m (iI (p : Int)) (iI (q : Int)) (isI w d p q (i + 1)) (iI (w : Int)) (iI (d : Int)) (iI ((i + 1 : Nat) : Int)) z := by
      intro v10 hv
      obtain ⟨m2, hm2⟩ := loopK (fun m2 j => fn_X3_icingSet_69 (fn_X3_icingSet_32 m) m2 (iI (p : Int)) (iI (q : Int)) (isJ w d p q (isI w d p q i) i j) (iI (w : Int)) (iI (d : Int)) (iI (i : Int)) v10 (iI (j : Int)) z) q (by omega) (fun j m2 hj => by
        have hb := icl_b (w := w) (d := d) (p := p) (q := q) (i := i) (j := j) (by omega) (by omega)
        show fn_X3_icingSet_69 _ (m2 + 1) _ _ _ _ _ _ _ _ _ = fn_X3_icingSet_69 _ m2 _ _ _ _ _ _ _ _ _
        rw [fn_X3_icingSet_69, if_neg (nle (by omega) (by omega) (by omega))]
        unfold fn_X3_icingSet_89 fn_X3_icingSet_105
        rw [isJ, q_1, iI_sub]
        simp only [nm_o]
        have e : ∀ (a b : Int32), a = iI ((if j = 0 then w else 0 : Nat) : Int) → b = iI ((if j = q - 1 then w else 0 : Nat) : Int) → v10 + a + b = iI ((icl w d p q i j : Nat) : Int) := by
          intro a b ha hb
          rw [hv, ha, hb, iI_add, iI_add]
          unfold icl
          congr 1
        have key : ∀ (a b : Int32), a = iI ((if j = 0 then w else 0 : Nat) : Int) → b = iI ((if j = q - 1 then w else 0 : Nat) : Int) → fn_X3_icingSet_69 (fn_X3_icingSet_32 m) m2 (iI (p : Int)) (iI (q : Int)) (isJ w d p q (isI w d p q i) i j ||| (1 <<< (Int32.toInt64 (v10 + a + b) &&& 63))) (iI (w : Int)) (iI (d : Int)) (iI (i : Int)) v10 (iI (j : Int) + iI 1) z = fn_X3_icingSet_69 (fn_X3_icingSet_32 m) m2 (iI (p : Int)) (iI (q : Int)) (isJ w d p q (isI w d p q i) i j ||| (1 <<< (Int32.toInt64 (iI ((icl w d p q i j : Nat) : Int)) &&& 63))) (iI (w : Int)) (iI (d : Int)) (iI (i : Int)) v10 (iI ((j + 1 : Nat) : Int)) z := by
          intro a b ha hb
          rw [e a b ha hb, ← q_1, k1]
        by_cases j0 : j = 0
        · rw [if_pos (by rw [j0]; exact z0)]
          by_cases jq : j = q - 1
          · rw [if_pos (show iI (j : Int) = iI ((q : Int) - 1) from by congr 1; omega)]
            exact key _ _ (by rw [if_pos j0]) (by rw [if_pos jq])
          · rw [if_neg (neq (by omega) (by omega) (by omega))]
            exact key _ _ (by rw [if_pos j0]) (by rw [if_neg jq]; exact q_0)
        · rw [if_neg (i0_ne (by omega) (by omega))]
          by_cases jq : j = q - 1
          · rw [if_pos (show iI (j : Int) = iI ((q : Int) - 1) from by congr 1; omega)]
            exact key _ _ (by rw [if_neg j0]; exact q_0) (by rw [if_pos jq])
          · rw [if_neg (neq (by omega) (by omega) (by omega))]
            exact key _ _ (by rw [if_neg j0]; exact q_0) (by rw [if_neg jq]; exact q_0))
      refine (show _ = fn_X3_icingSet_69 (fn_X3_icingSet_32 m) fu (iI (p : Int)) (iI (q : Int)) (isI w d p q i) (iI (w : Int)) (iI (d : Int)) (iI (i : Int)) v10 (iI ((0 : Nat) : Int)) z from by rw [z0]).trans (hm2.trans ?_)
      rw [fn_X3_icingSet_69, if_pos (yle (by omega) (by omega) (by omega)), k1]
      rfl
    show fn_X3_icingSet_32 (m + 1) _ _ _ _ _ _ _ = fn_X3_icingSet_32 m _ _ _ _ _ _ _
    rw [fn_X3_icingSet_32, if_neg (nle (by omega) (by omega) (by omega))]
    unfold fn_X3_icingSet_49 fn_X3_icingSet_63
    simp only [nm_o]
    rw [q_1, iI_sub]
    by_cases i0 : i = 0
    · rw [if_pos (by rw [i0]; exact z0)]
      by_cases ip : i = p - 1
      · rw [if_pos (show iI (i : Int) = iI ((p : Int) - 1) from by congr 1; omega)]
        exact inner _ (by rw [if_pos i0, if_pos ip, iI_add]; rfl)
      · rw [if_neg (neq (by omega) (by omega) (by omega))]
        exact inner _ (by rw [if_pos i0, if_neg ip, q_0, iI_add]; rfl)
    · rw [if_neg (i0_ne (by omega) (by omega))]
      by_cases ip : i = p - 1
      · rw [if_pos (show iI (i : Int) = iI ((p : Int) - 1) from by congr 1; omega)]
        exact inner _ (by rw [if_neg i0, if_pos ip, q_0, iI_add, Nat.zero_add, Int.zero_add])
      · rw [if_neg (neq (by omega) (by omega) (by omega))]
        exact inner _ (by rw [if_neg i0, if_neg ip, q_0, iI_add]; rfl))
  refine (show _ = fn_X3_icingSet_32 fu (iI (p : Int)) (iI (q : Int)) 0 (iI (w : Int)) (iI (d : Int)) (iI ((0 : Nat) : Int)) z from by rw [z0]).trans (hm.trans ?_)
  rw [fn_X3_icingSet_32, if_pos (yle (by omega) (by omega) (by omega))]
theorem cmp_0 (x y : Int64) : lg_cmp x y = 0 ↔ x = y := by
  unfold lg_cmp
  by_cases h1 : x > y
  · rw [if_pos h1]
    exact ⟨fun q => absurd q (by decide), fun q => absurd h1 (by rw [q]; exact Int64.lt_irrefl)⟩
  · rw [if_neg h1]
    by_cases h2 : x = y
    · rw [if_pos h2]; exact ⟨fun _ => h2, fun _ => rfl⟩
    · rw [if_neg h2]; exact ⟨fun q => absurd q (by decide), fun q => absurd q h2⟩
theorem spS_b (s : Int64) : ∀ k : Nat, -1 ≤ (spS s k).1 ∧ (spS s k).1 < k ∧ -1 ≤ (spS s k).2 ∧ (spS s k).2 < k := by
  intro k
  induction k with
  | zero => rw [spS]; dsimp only; omega
  | succ k ih =>
    rw [spS]
    split
    · dsimp only
      split <;> omega
    · omega
theorem x_spread (s : Int64) : fn_X3_spreadOf s z = some (iI ((spS s 33).2 - (spS s 33).1), z) := by
  obtain ⟨m, hm⟩ := loopK (fun m k => fn_X3_spreadOf_7 m s (iI (spS s k).1) (iI (spS s k).2) (iI (k : Int)) z) 33 (by omega) (fun k m hk => by
    have hb := spS_b s k
    show fn_X3_spreadOf_7 (m + 1) _ _ _ _ _ = fn_X3_spreadOf_7 m _ _ _ _ _
    rw [fn_X3_spreadOf_7, if_neg (by rw [q_32]; exact nlt (by omega) (by omega) (by omega)), spS]
    unfold fn_X3_spreadOf_39 fn_X3_spreadOf_40
    rw [k1]
    by_cases hbt : bt64 s k = true
    · rw [if_pos ((cmp_0 _ _).mpr (eq_of_beq hbt)), if_pos hbt]
      by_cases h1 : (spS s k).1 = -1
      · rw [if_pos (by rw [h1, q_m1]), if_pos h1]
      · rw [if_neg (by rw [q_m1]; exact neq (by omega) (by omega) h1), if_neg h1]
    · rw [if_neg (fun q => hbt (beq_iff_eq.mpr ((cmp_0 _ _).mp q))), if_neg hbt])
  unfold fn_X3_spreadOf
  refine (show _ = fn_X3_spreadOf_7 fu s (iI (-1)) (iI (-1)) (iI ((0 : Nat) : Int)) z from by rw [z0, q_m1]).trans (hm.trans ?_)
  rw [fn_X3_spreadOf_7, if_pos (by rw [q_32]; exact ylt (by omega) (by omega) (by omega)), iI_sub]
/-! the reference's grids -/
theorem m_isGrid {t p q C R : Nat} (ht : t < 3) (e1 : z.1 188 t = iI (C : Int)) (e2 : z.1 189 t = iI (R : Int)) (hC : 1 ≤ C ∧ C ≤ 8) (hR : 1 ≤ R ∧ R ≤ 8) (hp : 1 ≤ p ∧ p ≤ 64) (hq : 1 ≤ q ∧ q ≤ 64) : fn_X12_isGrid (iI (t : Int)) (iI (p : Int)) (iI (q : Int)) z = some (iI (tr (gok C R p q = true)), z) := by
  have m1 := Nat.mod_lt C (show p > 0 from by omega)
  have m2 := Nat.mod_lt R (show q > 0 from by omega)
  have d1 : C % p = 0 → p ≤ C := fun h => Nat.le_of_dvd (by omega) (Nat.dvd_of_mod_eq_zero h)
  have d2 : R % q = 0 → q ≤ R := fun h => Nat.le_of_dvd (by omega) (Nat.dvd_of_mod_eq_zero h)
  unfold fn_X12_isGrid gok
  rw [gd_t (iI_ix (by omega)), gd_t (ne0 (by omega)), iI_clampN (by omega), e1, e2, nmod (by omega) (by omega)]
  by_cases g5 : C % p = 0
  · rw [g5, if_pos z0, gd_t (iI_ix (by omega)), gd_t (ne0 (by omega)), nmod (by omega) (by omega)]
    by_cases g6 : R % q = 0
    · rw [g6, if_pos z0, tr_1 (decide_eq_true (by omega)), q_1]
    · rw [if_neg (i0_ne (by omega) (by omega)), tr_n (by simp; omega), q_0]
  · rw [if_neg (i0_ne (by omega) (by omega)), tr_n (by simp; omega), q_0]
theorem m_gridIcing {t p q C R i j : Nat} (ht : t < 3) (e1 : z.1 188 t = iI (C : Int)) (e2 : z.1 189 t = iI (R : Int)) (hC : C ≤ 8) (hR : R ≤ 8) (hp : 1 ≤ p ∧ p ≤ 64) (hq : 1 ≤ q ∧ q ≤ 64) (hi : i < p) (hj : j < q) : fn_X12_gridIcing (iI (t : Int)) (iI (p : Int)) (iI (q : Int)) (iI (i : Int)) (iI (j : Int)) z = some (iI ((icl (C / p) (R / q) p q i j : Nat) : Int), z) := by
  unfold fn_X12_gridIcing
  rw [gd_t (iI_ix (by omega)), gd_t (ne0 (by omega)), iI_clampN (by omega), e1, ndiv (by omega) (by omega)]
  unfold fn_X12_gridIcing_18 fn_X12_gridIcing_34 fn_X12_gridIcing_57 fn_X12_gridIcing_73
  simp only [m_truth0, m_truth1, bd_e, gd_t (iI_ix (show 0 ≤ (t : Int) ∧ (t : Int) < (3 : Nat) ∧ 3 ≤ 2147483648 from by omega)), gd_t (ne0 (show 1 ≤ q ∧ q < 2147483648 from by omega)), iI_clampN (show t < 2147483648 from by omega), e2, ndiv (show R < 2147483648 from by omega) (show 1 ≤ q ∧ q < 2147483648 from by omega)]
  generalize C / p = w
  generalize R / q = d
  unfold icl
  rw [q_1, iI_sub, iI_sub, q_0]
  have ej : (iI (j : Int) = iI 0) = (j = 0) := by rw [iI_eq (by omega) (by omega)]; exact propext (by omega)
  have ei : (iI (i : Int) = iI 0) = (i = 0) := by rw [iI_eq (by omega) (by omega)]; exact propext (by omega)
  have ejq : (iI (j : Int) = iI ((q : Int) - 1)) = (j = q - 1) := by rw [iI_eq (by omega) (by omega)]; exact propext (by omega)
  have eip : (iI (i : Int) = iI ((p : Int) - 1)) = (i = p - 1) := by rw [iI_eq (by omega) (by omega)]; exact propext (by omega)
  simp only [ej, ei, ejq, eip, iI_add, iI_mul]
  by_cases a1 : j = 0 <;> (first | simp only [if_pos a1] | simp only [if_neg a1]) <;> by_cases a2 : j = q - 1 <;> (first | simp only [if_pos a2] | simp only [if_neg a2]) <;> by_cases a3 : i = 0 <;> (first | simp only [if_pos a3] | simp only [if_neg a3]) <;> by_cases a4 : i = p - 1 <;> (first | simp only [if_pos a4] | simp only [if_neg a4]) <;> congr 3 <;> omega
theorem unJ_b {w d p q : Nat} (hw : w ≤ 8) (hd : d ≤ 8) {s : Int × Int} {i : Nat} (hs : 0 ≤ s.1 ∧ s.1 ≤ 33 ∧ 0 ≤ s.2 ∧ s.2 ≤ 33) : ∀ j : Nat, 0 ≤ (unJ w d p q s i j).1 ∧ (unJ w d p q s i j).1 ≤ 33 ∧ 0 ≤ (unJ w d p q s i j).2 ∧ (unJ w d p q s i j).2 ≤ 33 := by
  intro j
  induction j with
  | zero => exact hs
  | succ j ih =>
    have hb := icl_b (p := p) (q := q) (i := i) (j := j) hw hd
    rw [unJ]
    dsimp only
    constructor
    · split <;> omega
    · constructor
      · split <;> omega
      · split <;> omega
theorem unI_b {w d p q : Nat} (hw : w ≤ 8) (hd : d ≤ 8) : ∀ i : Nat, 0 ≤ (unI w d p q i).1 ∧ (unI w d p q i).1 ≤ 33 ∧ 0 ≤ (unI w d p q i).2 ∧ (unI w d p q i).2 ≤ 33 := by
  intro i
  induction i with
  | zero => rw [unI]; dsimp only; omega
  | succ i ih => exact unJ_b hw hd ih q
theorem m_uneven {t p q C R : Nat} (ht : t < 3) (e1 : z.1 188 t = iI (C : Int)) (e2 : z.1 189 t = iI (R : Int)) (hC : C ≤ 8) (hR : R ≤ 8) (hp : 1 ≤ p ∧ p ≤ 64) (hq : 1 ≤ q ∧ q ≤ 64) : fn_X12_gridUneven (iI (t : Int)) (iI (p : Int)) (iI (q : Int)) z = some (iI (unv (C / p) (R / q) p q), z) := by
  have hw : C / p ≤ 8 := Nat.le_trans (Nat.div_le_self C p) hC
  have hd : R / q ≤ 8 := Nat.le_trans (Nat.div_le_self R q) hR
  obtain ⟨m, hm⟩ := loopK (fun m i => fn_X12_gridUneven_10 m (iI (t : Int)) (iI (p : Int)) (iI (q : Int)) (iI (unI (C / p) (R / q) p q i).1) (iI (unI (C / p) (R / q) p q i).2) (iI (i : Int)) z) p (by omega) (fun i m hi => by
    show fn_X12_gridUneven_10 (m + 1) _ _ _ _ _ _ _ = fn_X12_gridUneven_10 m _ _ _ _ _ _ _
    rw [fn_X12_gridUneven_10, if_neg (nle (by omega) (by omega) (by omega))]
    obtain ⟨m2, hm2⟩ := loopK (fun m2 j => fn_X12_gridUneven_19 (fn_X12_gridUneven_10 m) m2 (iI (t : Int)) (iI (p : Int)) (iI (q : Int)) (iI (unJ (C / p) (R / q) p q (unI (C / p) (R / q) p q i) i j).1) (iI (unJ (C / p) (R / q) p q (unI (C / p) (R / q) p q i) i j).2) (iI (i : Int)) (iI (j : Int)) z) q (by omega) (fun j m2 hj => by
      have hb := icl_b (p := p) (q := q) (i := i) (j := j) hw hd
      have hu := unJ_b (p := p) (q := q) (i := i) hw hd (unI_b (p := p) (q := q) hw hd i) j
      show fn_X12_gridUneven_19 _ (m2 + 1) _ _ _ _ _ _ _ _ = fn_X12_gridUneven_19 _ m2 _ _ _ _ _ _ _ _
      rw [fn_X12_gridUneven_19, if_neg (nle (by omega) (by omega) (by omega)), bd_o (m_gridIcing ht e1 e2 hC hR hp hq hi hj), unJ]
      unfold fn_X12_gridUneven_52 fn_X12_gridUneven_68
      rw [k1]
      by_cases g1 : ((icl (C / p) (R / q) p q i j : Nat) : Int) < (unJ (C / p) (R / q) p q (unI (C / p) (R / q) p q i) i j).1
      · rw [if_neg (nle (by omega) (by omega) (by omega)), if_pos g1]
        by_cases g2 : (unJ (C / p) (R / q) p q (unI (C / p) (R / q) p q i) i j).2 < ((icl (C / p) (R / q) p q i j : Nat) : Int)
        · rw [if_neg (nle (by omega) (by omega) (by omega)), if_pos g2]
        · rw [if_pos (yle (by omega) (by omega) (by omega)), if_neg g2]
      · rw [if_pos (yle (by omega) (by omega) (by omega)), if_neg g1]
        by_cases g2 : (unJ (C / p) (R / q) p q (unI (C / p) (R / q) p q i) i j).2 < ((icl (C / p) (R / q) p q i j : Nat) : Int)
        · rw [if_neg (nle (by omega) (by omega) (by omega)), if_pos g2]
        · rw [if_pos (yle (by omega) (by omega) (by omega)), if_neg g2])
    refine (show _ = fn_X12_gridUneven_19 (fn_X12_gridUneven_10 m) fu (iI (t : Int)) (iI (p : Int)) (iI (q : Int)) (iI (unI (C / p) (R / q) p q i).1) (iI (unI (C / p) (R / q) p q i).2) (iI (i : Int)) (iI ((0 : Nat) : Int)) z from by rw [z0]).trans (hm2.trans ?_)
    rw [fn_X12_gridUneven_19, if_pos (yle (by omega) (by omega) (by omega)), k1]
    rfl)
  unfold fn_X12_gridUneven
  refine (show _ = fn_X12_gridUneven_10 fu (iI (t : Int)) (iI (p : Int)) (iI (q : Int)) (iI 33) (iI 0) (iI ((0 : Nat) : Int)) z from by rw [z0, ← q_33, ← q_0]).trans (hm.trans ?_)
  rw [fn_X12_gridUneven_10, if_pos (yle (by omega) (by omega) (by omega)), iI_sub]
  rfl
end
