section
variable {z w : St} {c : RC} {F0 F1 : FO} {b : BD}
/-! orders as numbers, six to a place -/
theorem p6s (e : Nat) : 6 ^ (e + 1) = 6 * 6 ^ e := by rw [Nat.pow_succ, Nat.mul_comm]
theorem p6p (e : Nat) : 0 < 6 ^ e := Nat.pow_pos (by omega)
theorem d6s (r e : Nat) : r / 6 / 6 ^ e = r / 6 ^ (e + 1) := by rw [Nat.div_div_eq_div_mul, p6s]
/-- whether j is among the last n places of r -/
def md : Nat → Nat → Nat → Bool
  | 0, _, _ => false
  | n + 1, r, j => md n (r / 6) j || decide (j = r % 6)
theorem md_c (j : Nat) : ∀ n r : Nat, md (n + 1) r j = (md n r j || decide (j = r / 6 ^ n % 6)) := by
  intro n
  induction n with
  | zero => intro r; rw [md, md, md, Nat.pow_zero, Nat.div_one]
  | succ n ih =>
    intro r
    rw [md, ih (r / 6), d6s, show md (n + 1) r j = (md n (r / 6) j || decide (j = r % 6)) from rfl]
    cases md n (r / 6) j <;> cases decide (j = r / 6 ^ (n + 1) % 6) <;> cases decide (j = r % 6) <;> rfl
theorem md_up {n j : Nat} : ∀ e r : Nat, md n (r / 6 ^ e) j = true → md (n + e) r j = true := by
  intro e
  induction e with
  | zero => intro r h; rwa [Nat.pow_zero, Nat.div_one] at h
  | succ e ih =>
    intro r h
    rw [← d6s] at h
    show (md (n + e) (r / 6) j || decide (j = r % 6)) = true
    rw [ih (r / 6) h, Bool.true_or]
theorem md_6 {j : Nat} : ∀ n r : Nat, md n r j = true → j < 6 := by
  intro n
  induction n with
  | zero => intro r h; exact absurd h (by rw [md]; decide)
  | succ n ih =>
    intro r h
    rw [md, Bool.or_eq_true] at h
    rcases h with h | h
    · exact ih _ h
    · have := of_decide_eq_true h; omega
/-- what one has who picks next -/
def wkO (c : RC) (F : FO) (b : BD) (g : Nat) (T : Nat → Bool) : Int32 := if PKk c F b g T = -1 then 0 else wt c F b g (PKk c F b g T).toNat
/-- taken, and the least, after the last n places of r -/
def rn (c : RC) (F : FO) (b : BD) : Nat → Nat → (Nat → Bool) × Int32
  | 0, _ => (fun _ => false, 2147483647)
  | n + 1, r => (fun j => (rn c F b n (r / 6)).1 j || decide ((j : Int) = PKk c F b (r % 6) (rn c F b n (r / 6)).1), if wkO c F b (r % 6) (rn c F b n (r / 6)).1 < (rn c F b n (r / 6)).2 then wkO c F b (r % 6) (rn c F b n (r / 6)).1 else (rn c F b n (r / 6)).2)
theorem i_trans {x y v : Int32} (h : x ≤ y) (g : y ≤ v) : x ≤ v := by
  rw [Int32.le_iff_toInt_le] at h g ⊢; omega
theorem i_refl (x : Int32) : x ≤ x := by rw [Int32.le_iff_toInt_le]; omega
theorem i_lt_le {x y : Int32} (h : x < y) : x ≤ y := by rw [Int32.lt_iff_toInt_lt] at h; rw [Int32.le_iff_toInt_le]; omega
theorem rn_le {n : Nat} : ∀ e r : Nat, (rn c F0 b (n + e) r).2 ≤ (rn c F0 b n (r / 6 ^ e)).2 := by
  intro e
  induction e with
  | zero => intro r; rw [Nat.pow_zero, Nat.div_one]; exact i_refl _
  | succ e ih =>
    intro r
    refine i_trans ?_ (by rw [← d6s]; exact ih (r / 6))
    show (if wkO c F0 b (r % 6) (rn c F0 b (n + e) (r / 6)).1 < (rn c F0 b (n + e) (r / 6)).2 then wkO c F0 b (r % 6) (rn c F0 b (n + e) (r / 6)).1 else (rn c F0 b (n + e) (r / 6)).2) ≤ (rn c F0 b (n + e) (r / 6)).2
    split
    · rename_i q; exact i_lt_le q
    · exact i_refl _
/-- the order tells just those who wait -/
def vl (c : RC) (b : BD) (M r : Nat) : Bool := (List.range 32).all fun j => md M r j == (Hu b j && decide (j < (c 6 1).toNat))
theorem vl_t {M r : Nat} (h : vl c b M r = true) (j : Nat) (hj : j < 32) : md M r j = (Hu b j && decide (j < (c 6 1).toNat)) := eq_of_beq (List.all_eq_true.mp h j (List.mem_range.mpr hj))
theorem vl_of {M r : Nat} (h : ∀ j, j < 32 → md M r j = (Hu b j && decide (j < (c 6 1).toNat))) : vl c b M r = true := List.all_eq_true.mpr fun j hj => by rw [h j (List.mem_range.mp hj)]; exact beq_self_eq_true _
def uo (c : RC) (F : FO) (b : BD) (M : Nat) (s : Bool × Int32 × Nat) (r : Nat) : Bool × Int32 × Nat := if vl c b M r = true ∧ (s.1 = false ∨ s.2.1 < (rn c F b M r).2) then (true, (rn c F b M r).2, r) else s
def fo (c : RC) (F : FO) (b : BD) (M : Nat) (s : Bool × Int32 × Nat) (lo : Nat) : Nat → Bool × Int32 × Nat
  | 0 => s
  | n + 1 => uo c F b M (fo c F b M s lo n) (lo + n)
theorem fo_a {M : Nat} (s : Bool × Int32 × Nat) (lo n : Nat) : ∀ m, fo c F0 b M s lo (n + m) = fo c F0 b M (fo c F0 b M s lo n) (lo + n) m := by
  intro m
  induction m with
  | zero => rfl
  | succ m ih => show uo c F0 b M (fo c F0 b M s lo (n + m)) (lo + (n + m)) = uo c F0 b M (fo c F0 b M (fo c F0 b M s lo n) (lo + n) m) (lo + n + m); rw [ih, Nat.add_assoc]
theorem fo_id {M : Nat} (s : Bool × Int32 × Nat) (lo : Nat) : ∀ n, (∀ r, lo ≤ r → r < lo + n → uo c F0 b M s r = s) → fo c F0 b M s lo n = s := by
  intro n
  induction n with
  | zero => intro _; rfl
  | succ n ih => intro h; rw [fo, ih fun r h1 h2 => h r h1 (by omega)]; exact h _ (by omega) (by omega)
/-- those who wait and are not told yet -/
def wy (c : RC) (b : BD) (n r j : Nat) : Bool := (Hu b j && decide (j < (c 6 1).toNat)) && !md n r j
theorem wy_s (n r j : Nat) : wy c b (n + 1) r j = (wy c b n (r / 6) j && !decide (j = r % 6)) := by unfold wy; rw [md, Bool.not_or, ← Bool.and_assoc]
theorem cB6_rm {T : Nat → Bool} {x : Nat} : ∀ k, cB6 (fun j => T j && !decide (j = x)) k = cB6 T k - (if T x = true ∧ x < k then 1 else 0) := by
  intro k
  induction k with
  | zero => rw [if_neg (by omega)]; rfl
  | succ k ih =>
    rw [cB6, cB6, ih]
    by_cases e : k = x
    · subst e
      rw [if_neg (show ¬ (T k = true ∧ k < k) from by omega), if_neg (show ¬ (T k && !decide (k = k)) = true from by simp)]
      by_cases q : T k = true
      · rw [if_pos q, if_pos (show T k = true ∧ k < k + 1 from ⟨q, by omega⟩)]; omega
      · rw [if_neg q, if_neg (show ¬ (T k = true ∧ k < k + 1) from fun a => q a.1)]; omega
    · rw [decide_eq_false e, Bool.not_false, Bool.and_true]
      by_cases q : T x = true ∧ x < k
      · rw [if_pos q, if_pos (show T x = true ∧ x < k + 1 from ⟨q.1, by omega⟩)]; omega
      · rw [if_neg q, if_neg (show ¬ (T x = true ∧ x < k + 1) from fun a => q ⟨a.1, by omega⟩)]; omega
theorem cB6_p {T : Nat → Bool} : ∀ k, 0 < cB6 T k → ∃ j, j < k ∧ T j = true := by
  intro k
  induction k with
  | zero => intro h; exact absurd h (by rw [cB6]; decide)
  | succ k ih =>
    intro h
    by_cases q : T k = true
    · exact ⟨k, by omega, q⟩
    · rw [cB6, if_neg q, Int.add_zero] at h
      obtain ⟨j, h1, h2⟩ := ih h
      exact ⟨j, by omega, h2⟩
theorem cB6_z {T : Nat → Bool} : ∀ k, (∀ j, j < k → T j = false) → cB6 T k = 0 := by
  intro k
  induction k with
  | zero => intro _; rfl
  | succ k ih => intro h; rw [cB6, h k (by omega), ih fun j hj => h j (by omega)]; rfl
theorem cB6_n {T : Nat → Bool} : ∀ k, cB6 T k = 0 → ∀ j, j < k → T j = false := by
  intro k
  induction k with
  | zero => intro _ j hj; omega
  | succ k ih =>
    intro h j hj
    have hb := cB6_b T k
    rw [cB6] at h
    by_cases q : T k = true
    · rw [if_pos q] at h; omega
    · rw [if_neg q] at h
      by_cases e : j = k
      · rw [e]; exact Bool.eq_false_iff.mpr q
      · exact ih (by omega) j (by omega)
theorem cB6_lt {T : Nat → Bool} {G : Nat} : ∀ k, cB6 (fun j => T j && decide (j < G)) k = cB6 T (if k ≤ G then k else G) := by
  intro k
  induction k with
  | zero => rw [if_pos (by omega)]; rfl
  | succ k ih =>
    rw [cB6, ih]
    by_cases q : k < G
    · rw [if_pos (show k ≤ G from by omega), if_pos (show k + 1 ≤ G from by omega), decide_eq_true q, Bool.and_true, cB6]
    · rw [decide_eq_false q, Bool.and_false, if_neg (show ¬ false = true from by decide), Int.add_zero, if_neg (show ¬ k + 1 ≤ G from by omega)]
      by_cases e : k ≤ G
      · rw [if_pos e, show k = G from by omega]
      · rw [if_neg e]
theorem wy_e {n : Nat} : ∀ e r : Nat, cB6 (wy c b n (r / 6 ^ e)) 6 - e ≤ cB6 (wy c b (n + e) r) 6 := by
  intro e
  induction e with
  | zero => intro r; rw [Nat.pow_zero, Nat.div_one]; show _ - 0 ≤ cB6 (wy c b n r) 6; omega
  | succ e ih =>
    intro r
    have h1 := ih (r / 6)
    rw [d6s] at h1
    have h2 : cB6 (wy c b (n + (e + 1)) r) 6 = cB6 (fun j => wy c b (n + e) (r / 6) j && !decide (j = r % 6)) 6 := cB6_ext 6 fun j _ => wy_s (n + e) r j
    rw [h2, cB6_rm]
    split <;> omega
theorem r6 {P g : Nat} (hg : g < 6) : (6 * P + g) / 6 = P ∧ (6 * P + g) % 6 = g := by omega
/-- no order goes on behind one told already or not waiting -/
theorem vl_no {M d e P g r : Nat} (hG : (c 6 1).toNat ≤ 6) (hM : M = d + 1 + e) (hc : cB6 (wy c b d P) 6 = ((e + 1 : Nat) : Int)) (hg : g < 6) (hw : wy c b d P g = false) (hr : r / 6 ^ e = 6 * P + g) : vl c b M r = false := by
  refine Bool.eq_false_iff.mpr fun h0 => ?_
  have h := vl_t h0
  obtain ⟨q1, q2⟩ := r6 (P := P) hg
  have hmg : md (d + 1) (6 * P + g) g = true := by rw [md, q2, decide_eq_true rfl, Bool.or_true]
  have hMg : md M r g = true := by rw [hM]; exact md_up e r (by rw [hr]; exact hmg)
  have hS := h g (by omega)
  rw [hMg] at hS
  have h1 := wy_e (c := c) (b := b) (n := d + 1) e r
  rw [hr, ← hM] at h1
  have h2 : cB6 (wy c b (d + 1) (6 * P + g)) 6 = cB6 (fun j => wy c b d P j && !decide (j = g)) 6 := cB6_ext 6 fun j _ => by rw [wy_s, q1, q2]
  rw [h2, cB6_rm, if_neg (by rw [hw]; exact fun a => absurd a.1 (by decide)), hc] at h1
  obtain ⟨j, hj, hT⟩ := cB6_p 6 (show 0 < cB6 (wy c b M r) 6 from by omega)
  unfold wy at hT
  rw [h j (by omega), Bool.and_not_self] at hT
  exact absurd hT (by decide)
theorem vl_yes {M P : Nat} (hG : (c 6 1).toNat ≤ 6) (hc : cB6 (wy c b M P) 6 = 0) (hs : ∀ j, md M P j = true → (Hu b j && decide (j < (c 6 1).toNat)) = true) : vl c b M P = true := by
  refine vl_of fun j hj => ?_
  by_cases hS : (Hu b j && decide (j < (c 6 1).toNat)) = true
  · have hj6 : j < 6 := by rw [Bool.and_eq_true] at hS; have := of_decide_eq_true hS.2; omega
    have := cB6_n 6 hc j hj6
    unfold wy at this
    rw [hS, Bool.true_and] at this
    rw [hS]
    cases hm : md M P j
    · rw [hm] at this; exact absurd this (by decide)
    · rfl
  · rw [Bool.eq_false_iff.mpr hS]
    exact Bool.eq_false_iff.mpr fun q => hS (hs j q)
/-! x tries orders -/
def XO (z : St) (M : Nat) (s : Bool × Int32 × Nat) : Prop := z.1 156 10 = (if s.1 = true then 1 else 0) ∧ (s.1 = true → z.1 156 11 = s.2.1 ∧ ∀ i, i < M → z.1 171 i = iI ((s.2.2 / 6 ^ (M - 1 - i) % 6 : Nat) : Int))
def XQ (z : St) (c : RC) (F : FO) (b : BD) (M : Nat) : Prop := z.1 2 5 = iI (c 6 1) ∧ z.1 34 2 = iI (b 168) ∧ z.1 156 8 = iI (M : Int) ∧ ∀ g : Nat, (g : Int) < c 6 1 → Hu b g = true → XW z c F b g
abbrev oFr (a j : Nat) : Prop := ¬ a = 171 ∧ ¬ a = 160 ∧ ¬ (a = 156 ∧ j = 10) ∧ ¬ (a = 156 ∧ j = 11)
theorem XQ.fr {M : Nat} (h : XQ z c F0 b M) (hs : ∀ a j, oFr a j → SA z w a j) : XQ w c F0 b M :=
  ⟨(hs 2 5 (by unfold oFr; omega)).1.trans h.1, (hs 34 2 (by unfold oFr; omega)).1.trans h.2.1, (hs 156 8 (by unfold oFr; omega)).1.trans h.2.2.1, fun g hg hu p hp => (hs 159 _ (by unfold oFr; omega)).1.trans (h.2.2.2 g hg hu p hp)⟩
theorem XO.fr {M : Nat} {s : Bool × Int32 × Nat} (h : XO z M s) (hs : ∀ a j, a = 171 ∨ (a = 156 ∧ (j = 10 ∨ j = 11)) → SA z w a j) : XO w M s :=
  ⟨(hs 156 10 (by omega)).1.trans h.1, fun q => ⟨(hs 156 11 (by omega)).1.trans (h.2 q).1, fun i hi => (hs 171 i (by omega)).1.trans ((h.2 q).2 i hi)⟩⟩
theorem k6 {d k P g : Nat} (hk : k < d) (hg : g < 6) : (6 * P + g) / 6 ^ (d + 1 - 1 - k) % 6 = P / 6 ^ (d - 1 - k) % 6 := by
  rw [show d + 1 - 1 - k = (d - 1 - k) + 1 from by omega, ← d6s, (r6 hg).1]
theorem x_tryO {M : Nat} (hn : 0 ≤ b 168 ∧ b 168 ≤ 24) (hG : 0 ≤ c 6 1 ∧ c 6 1 ≤ 6) (hM6 : M ≤ 6) : ∀ (e d n P : Nat) (z : St) (W A : Int32) (s : Bool × Int32 × Nat), d + e = M → e < n → XQ z c F0 b M → XO z M s → (∀ k, k < d → z.1 160 k = iI ((P / 6 ^ (d - 1 - k) % 6 : Nat) : Int)) → (∀ j, j < 32 → tb W j = wy c b d P j) → (∀ j, j < 32 → tb A j = ((Fr b j && decide (j < (b 168).toNat)) && !(rn c F0 b d P).1 j)) → cB6 (wy c b d P) 6 = (e : Int) → (∀ j, md d P j = true → (Hu b j && decide (j < (c 6 1).toNat)) = true) →
    ∃ z', recT n 171 (iI (d : Int)) W A (rn c F0 b d P).2 z = some z' ∧ XO z' M (fo c F0 b M s (P * 6 ^ e) (6 ^ e)) ∧ (fo c F0 b M s (P * 6 ^ e) (6 ^ e)).1 = true ∧ (∀ k, k < d → z'.1 160 k = z.1 160 k) ∧ ∀ a j, oFr a j → SA z z' a j := by
  intro e
  induction e with
  | zero =>
    intro d n P z W A s hd hen hQ hO hT hW hA hc hs
    obtain ⟨n, rfl⟩ : ∃ k, n = k + 1 := ⟨n - 1, by omega⟩
    have hdM : d = M := by omega
    subst hdM
    show ∃ z', fn_X5_tryOrders (recT n) 171 (iI (d : Int)) W A (rn c F0 b d P).2 z = some z' ∧ _
    have ef : fo c F0 b d s (P * 6 ^ 0) (6 ^ 0) = uo c F0 b d s P := by rw [Nat.pow_zero, Nat.mul_one]; rfl
    rw [ef]
    have hv := vl_yes (c := c) (b := b) (M := d) (P := P) (by omega) hc hs
    by_cases hp : s.1 = true ∧ (rn c F0 b d P).2 ≤ s.2.1
    · refine ⟨z, ?_, ?_, ?_, fun k _ => rfl, fun a j _ => SA.rf⟩
      · unfold fn_X5_tryOrders
        rw [hO.1, if_pos hp.1, if_neg (show ¬ (1 : Int32) = 0 from by decide), (hO.2 hp.1).1, if_pos hp.2]
      · unfold uo
        rw [if_neg (fun q => q.2.elim (fun a => by rw [hp.1] at a; exact absurd a (by decide)) (fun a => Int32.not_lt.mpr hp.2 a))]
        exact hO
      · unfold uo
        rw [if_neg (fun q => q.2.elim (fun a => by rw [hp.1] at a; exact absurd a (by decide)) (fun a => Int32.not_lt.mpr hp.2 a))]
        exact hp.1
    · have hnp : s.1 = false ∨ s.2.1 < (rn c F0 b d P).2 := by
        cases h1 : s.1
        · exact Or.inl rfl
        · exact Or.inr (Int32.not_le.mp fun q => hp ⟨h1, q⟩)
      have e16 : fn_X5_tryOrders (recT n) 171 (iI (d : Int)) W A (rn c F0 b d P).2 z = fn_X5_tryOrders_16 (recT n) 171 (iI (d : Int)) W A (rn c F0 b d P).2 z := by
        unfold fn_X5_tryOrders
        rw [hO.1]
        cases h1 : s.1
        · rw [if_neg (show ¬ false = true from by decide), if_pos rfl]
        · rw [if_pos rfl, if_neg (show ¬ (1 : Int32) = 0 from by decide), (hO.2 h1).1, if_neg (fun q => hp ⟨h1, q⟩)]
      have eu : uo c F0 b d s P = (true, (rn c F0 b d P).2, P) := by unfold uo; rw [if_pos ⟨hv, hnp⟩]
      rw [e16, eu]
      obtain ⟨m, t, ⟨i1, i2⟩, hm⟩ := loopE (fun m i t => fn_X5_tryOrders_47 (recT n) m 171 (iI (i : Int)) t) (fun i t => (∀ k, k < i → t.1 171 k = z.1 160 k) ∧ ∀ a j, ¬ a = 171 → SA (sI (sI z 156 10 1) 156 11 (rn c F0 b d P).2) t a j) d (by omega) (sI (sI z 156 10 1) 156 11 (rn c F0 b d P).2) ⟨fun k hk => by omega, fun a j _ => SA.rf⟩ (fun i m t hi ⟨i1, i2⟩ => by
        show ∃ s', _ ∧ fn_X5_tryOrders_47 _ (m + 1) _ _ _ = fn_X5_tryOrders_47 _ m _ _ _
        rw [fn_X5_tryOrders_47, (i2 156 8 (by omega)).1, show (sI (sI z 156 10 1) 156 11 (rn c F0 b d P).2).1 156 8 = z.1 156 8 from rfl, hQ.2.2.1, if_neg (nle (by omega) (by omega) (by omega)), ln_171, show Int32.ofNat 6 = iI 6 from by decide, if_neg (nle (by omega) (by omega) (by omega)), gd_t (iI_ix (by omega)), gd_t (iI_ix (by omega)), nm_o, iI_clampN (by omega), k1]
        refine ⟨_, ⟨fun k hk => ?_, fun a j q => (i2 a j q).tr (sa_Ia rfl q)⟩, rfl⟩
        rw [sI_at]
        by_cases q : k = i
        · rw [if_pos q, (i2 160 i (by omega)).1, q]; rfl
        · rw [if_neg q]; exact i1 k (by omega))
      have f0 : ∀ a j, oFr a j → SA z t a j := fun a j q => ((sa_I rfl q.2.2.1).tr (sa_I rfl q.2.2.2)).tr (i2 a j q.1)
      refine ⟨t, ?_, ⟨?_, fun _ => ⟨?_, fun i hi => ?_⟩⟩, rfl, fun k _ => ?_, f0⟩
      · unfold fn_X5_tryOrders_16
        rw [hQ.2.2.1, if_pos (yle (by omega) (by omega) (by omega)), if_pos rfl, nm_o, nm_o]
        refine (show _ = fn_X5_tryOrders_47 (recT n) fu 171 (iI ((0 : Nat) : Int)) (sI (sI z 156 10 1) 156 11 (rn c F0 b d P).2) from by rw [z0]).trans (hm.trans ?_)
        show fn_X5_tryOrders_47 _ (m + 1) _ _ _ = _
        rw [fn_X5_tryOrders_47, (i2 156 8 (by omega)).1, show (sI (sI z 156 10 1) 156 11 (rn c F0 b d P).2).1 156 8 = z.1 156 8 from rfl, hQ.2.2.1, if_pos (yle (by omega) (by omega) (by omega))]
      · rw [(i2 156 10 (by omega)).1, if_pos rfl]; rfl
      · rw [(i2 156 11 (by omega)).1]; rfl
      · rw [i1 i hi, hT i hi]
      · rw [(i2 160 k (by omega)).1]; rfl
  | succ e ih =>
    intro d n P z W A s hd hen hQ hO hT hW hA hc hs
    obtain ⟨n, rfl⟩ : ∃ k, n = k + 1 := ⟨n - 1, by omega⟩
    show ∃ z', fn_X5_tryOrders (recT n) 171 (iI (d : Int)) W A (rn c F0 b d P).2 z = some z' ∧ _
    have h6e := p6p e
    have e6 : 6 ^ (e + 1) = 6 * 6 ^ e := p6s e
    by_cases hp : s.1 = true ∧ (rn c F0 b d P).2 ≤ s.2.1
    · have ef : fo c F0 b M s (P * 6 ^ (e + 1)) (6 ^ (e + 1)) = s := fo_id _ _ _ fun r h1 h2 => by
        unfold uo
        have hq : r / 6 ^ (e + 1) = P := by
          refine (Nat.div_eq_iff (p6p (e + 1))).mpr ⟨h1, ?_⟩
          omega
        have := rn_le (c := c) (F0 := F0) (b := b) (n := d) (e + 1) r
        rw [hq, hd] at this
        rw [if_neg (fun q => q.2.elim (fun a => by rw [hp.1] at a; exact absurd a (by decide)) (fun a => Int32.not_lt.mpr (i_trans this hp.2) a))]
      rw [ef]
      refine ⟨z, ?_, hO, hp.1, fun k _ => rfl, fun a j _ => SA.rf⟩
      unfold fn_X5_tryOrders
      rw [hO.1, if_pos hp.1, if_neg (show ¬ (1 : Int32) = 0 from by decide), (hO.2 hp.1).1, if_pos hp.2]
    · have e16 : fn_X5_tryOrders (recT n) 171 (iI (d : Int)) W A (rn c F0 b d P).2 z = fn_X5_tryOrders_16 (recT n) 171 (iI (d : Int)) W A (rn c F0 b d P).2 z := by
        unfold fn_X5_tryOrders
        rw [hO.1]
        cases h1 : s.1
        · rw [if_neg (show ¬ false = true from by decide), if_pos rfl]
        · rw [if_pos rfl, if_neg (show ¬ (1 : Int32) = 0 from by decide), (hO.2 h1).1, if_neg (fun q => hp ⟨h1, q⟩)]
      rw [e16]
      have skip : ∀ (s' : Bool × Int32 × Nat) (g : Nat), g < 6 → wy c b d P g = false → fo c F0 b M s' (P * 6 ^ (e + 1) + g * 6 ^ e) (6 ^ e) = s' := fun s' g hg hw => fo_id _ _ _ fun r h1 h2 => by
        have hq : r / 6 ^ e = 6 * P + g := by
          refine (Nat.div_eq_iff h6e).mpr ?_
          rw [e6, Nat.mul_comm 6 (6 ^ e), ← Nat.mul_assoc, Nat.mul_right_comm] at h1 h2
          have : (6 * P + g) * 6 ^ e = P * 6 * 6 ^ e + g * 6 ^ e := by rw [Nat.add_mul, Nat.mul_comm 6 P]
          omega
        unfold uo
        rw [vl_no (by omega) (show M = d + 1 + e from by omega) hc hg hw hq, if_neg (fun q => absurd q.1 (by decide))]
      obtain ⟨m, t, ⟨i1, i2, i3, i4⟩, hm⟩ := loopE (fun m g t => fn_X5_tryOrders_84 (recT n) m 171 (iI (d : Int)) W A (rn c F0 b d P).2 (iI (g : Int)) t) (fun g t => XO t M (fo c F0 b M s (P * 6 ^ (e + 1)) (g * 6 ^ e)) ∧ (∀ k, k < d → t.1 160 k = z.1 160 k) ∧ (∀ a j, oFr a j → SA z t a j) ∧ ((fo c F0 b M s (P * 6 ^ (e + 1)) (g * 6 ^ e)).1 = true ∨ ∀ j, j < g → wy c b d P j = false)) (c 6 1).toNat (by omega) z ⟨by rw [Nat.zero_mul]; exact hO, fun k _ => rfl, fun a j _ => SA.rf, Or.inr fun j hj => by omega⟩ (fun g m t hg ⟨i1, i2, i3, i4⟩ => by
        have hQt := hQ.fr i3
        have efo : fo c F0 b M s (P * 6 ^ (e + 1)) ((g + 1) * 6 ^ e) = fo c F0 b M (fo c F0 b M s (P * 6 ^ (e + 1)) (g * 6 ^ e)) (P * 6 ^ (e + 1) + g * 6 ^ e) (6 ^ e) := by rw [Nat.succ_mul, fo_a]
        show ∃ s', _ ∧ fn_X5_tryOrders_84 _ (m + 1) _ _ _ _ _ _ _ = fn_X5_tryOrders_84 _ m _ _ _ _ _ _ _
        rw [fn_X5_tryOrders_84, hQt.1, if_neg (nle (by omega) (by omega) (by omega)), tb_sh (by omega), hW g (by omega)]
        unfold fn_X5_tryOrders_188
        rw [k1]
        by_cases hw : wy c b d P g = true
        · have hu : Hu b g = true := by unfold wy at hw; rw [Bool.and_eq_true, Bool.and_eq_true] at hw; exact hw.1.1
          have hb := PKk_b (c := c) (F0 := F0) (b := b) hn g (rn c F0 b d P).1
          obtain ⟨q1, q2⟩ := r6 (P := P) (g := g) (by omega)
          rw [if_pos hw, if_pos rfl, q_6, if_neg (nle (by omega) (by omega) (by omega)), bd_o (x_pickOf (T := (rn c F0 b d P).1) (by omega) hQt.2.1 hn (hQt.2.2.2 g (by omega) hu) (fun j hj => by rw [hA j (by omega), decide_eq_true (by omega), Bool.and_true]))]
          have go : ∃ s', (XO s' M (fo c F0 b M s (P * 6 ^ (e + 1)) ((g + 1) * 6 ^ e)) ∧ (∀ k, k < d → s'.1 160 k = z.1 160 k) ∧ (∀ a j, oFr a j → SA z s' a j) ∧ ((fo c F0 b M s (P * 6 ^ (e + 1)) ((g + 1) * 6 ^ e)).1 = true ∨ ∀ j, j < g + 1 → wy c b d P j = false)) ∧ fn_X5_tryOrders_148 (recT n) (fn_X5_tryOrders_84 (recT n) m) 171 (iI (d : Int)) W A (rn c F0 b d P).2 (iI (g : Int)) (iI (PKk c F0 b g (rn c F0 b d P).1)) (wkO c F0 b g (rn c F0 b d P).1) t = fn_X5_tryOrders_84 (recT n) m 171 (iI (d : Int)) W A (rn c F0 b d P).2 (iI ((g + 1 : Nat) : Int)) s' := by
            have fr0 : ∀ a j, ¬ a = 160 → SA t (sI t 160 d (iI (g : Int))) a j := fun a j q => sa_Ia rfl q
            obtain ⟨z', g1, g2, g3, g4, g5⟩ := ih (d + 1) n (6 * P + g) (sI t 160 d (iI (g : Int))) (W &&& ((1 <<< (iI (g : Int) &&& 31)) ^^^ (-1))) (if PKk c F0 b g (rn c F0 b d P).1 = -1 then A else A &&& ((1 <<< (iI (PKk c F0 b g (rn c F0 b d P).1) &&& 31)) ^^^ (-1))) (fo c F0 b M s (P * 6 ^ (e + 1)) (g * 6 ^ e)) (by omega) (by omega) (hQt.fr fun a j q => fr0 a j q.2.1) (i1.fr fun a j q => fr0 a j (by omega)) (fun k hk => by
                rw [sI_at]
                by_cases q : k = d
                · rw [if_pos q, q, show d + 1 - 1 - d = 0 from by omega, Nat.pow_zero, Nat.div_one, q2]
                · rw [if_neg q, i2 k (by omega), hT k (by omega), k6 (by omega) (by omega)]) (fun j hj => by rw [tb_rm hj (by omega), hW j hj, wy_s, q1, q2]) (fun j hj => by
                show _ = ((Fr b j && decide (j < (b 168).toNat)) && !((rn c F0 b d ((6 * P + g) / 6)).1 j || decide ((j : Int) = PKk c F0 b ((6 * P + g) % 6) (rn c F0 b d ((6 * P + g) / 6)).1)))
                rw [q1, q2]
                by_cases q : PKk c F0 b g (rn c F0 b d P).1 = -1
                · rw [if_pos q, hA j hj, decide_eq_false (show ¬ (j : Int) = PKk c F0 b g (rn c F0 b d P).1 from by omega), Bool.or_false]
                · rw [if_neg q, nn (show 0 ≤ PKk c F0 b g (rn c F0 b d P).1 from by omega), tb_rm hj (by omega), hA j hj, show decide ((j : Int) = PKk c F0 b g (rn c F0 b d P).1) = decide (j = (PKk c F0 b g (rn c F0 b d P).1).toNat) from decide_eq_decide.mpr (by omega), Bool.not_or, Bool.and_assoc]) (by
                rw [cB6_ext 6 (Q := fun j => wy c b d P j && !decide (j = g)) (fun j _ => by rw [wy_s, q1, q2]), cB6_rm, if_pos ⟨hw, by omega⟩, hc]; omega) (fun j hj => by
                rw [md, q1, q2, Bool.or_eq_true] at hj
                rcases hj with hj | hj
                · exact hs j hj
                · rw [of_decide_eq_true hj]; unfold wy at hw; rw [Bool.and_eq_true] at hw; exact hw.1)
            have el : (6 * P + g) * 6 ^ e = P * 6 ^ (e + 1) + g * 6 ^ e := by rw [Nat.add_mul, e6, Nat.mul_comm 6 P, Nat.mul_assoc]
            rw [el, ← efo] at g2 g3
            refine ⟨z', ⟨g2, fun k hk => ?_, fun a j q => ((i3 a j q).tr (fr0 a j q.2.1)).tr (g5 a j q), Or.inl g3⟩, ?_⟩
            · rw [g4 k (by omega), sI_at, if_neg (by omega), i2 k hk]
            · have er : (rn c F0 b (d + 1) (6 * P + g)).2 = if wkO c F0 b g (rn c F0 b d P).1 < (rn c F0 b d P).2 then wkO c F0 b g (rn c F0 b d P).1 else (rn c F0 b d P).2 := by
                show (if wkO c F0 b ((6 * P + g) % 6) (rn c F0 b d ((6 * P + g) / 6)).1 < (rn c F0 b d ((6 * P + g) / 6)).2 then wkO c F0 b ((6 * P + g) % 6) (rn c F0 b d ((6 * P + g) / 6)).1 else (rn c F0 b d ((6 * P + g) / 6)).2) = _
                rw [q1, q2]
              rw [er] at g1
              unfold fn_X5_tryOrders_148 fn_X5_tryOrders_188
              rw [gd_t (iI_ix (by omega)), nm_o, iI_clampN (by omega), bd_o (x_without (by omega)), k1, bv_o g1, k1]
          by_cases q : PKk c F0 b g (rn c F0 b d P).1 = -1
          · have ewk : wkO c F0 b g (rn c F0 b d P).1 = 0 := by unfold wkO; rw [if_pos q]
            rw [if_pos (show iI (PKk c F0 b g (rn c F0 b d P).1) = -1 from by rw [q]; exact q_m1.symm), ← ewk]
            exact go
          · have ewk : wkO c F0 b g (rn c F0 b d P).1 = wt c F0 b g (PKk c F0 b g (rn c F0 b d P).1).toNat := by unfold wkO; rw [if_neg q]
            have ek : iI (g : Int) * 24 + iI (PKk c F0 b g (rn c F0 b d P).1) = iI ((24 * g + (PKk c F0 b g (rn c F0 b d P).1).toNat : Nat) : Int) := by rw [q_24, iI_mul, iI_add]; congr 1; omega
            rw [if_neg (show ¬ iI (PKk c F0 b g (rn c F0 b d P).1) = -1 from by rw [q_m1]; exact neq (by omega) (by omega) q), ek, gd_t (iI_ix (by omega)), iI_clampN (by omega), hQt.2.2.2 g (by omega) hu _ (by omega), ← ewk]
            exact go
        · have hw' : wy c b d P g = false := Bool.eq_false_iff.mpr hw
          rw [if_neg hw, if_neg (show ¬ (0 : Int32) = 1 from by decide)]
          refine ⟨t, ⟨?_, i2, i3, ?_⟩, rfl⟩
          · rw [efo, skip _ g (by omega) hw']; exact i1
          · rw [efo, skip _ g (by omega) hw']
            rcases i4 with q | q
            · exact Or.inl q
            · exact Or.inr fun j hj => by
                by_cases e1 : j = g
                · rw [e1]; exact hw'
                · exact q j (by omega))
      have hout : ∀ j, (c 6 1).toNat ≤ j → wy c b d P j = false := fun j hj => by unfold wy; rw [decide_eq_false (show ¬ j < (c 6 1).toNat from by omega), Bool.and_false, Bool.false_and]
      have tail : ∀ x : Nat, x ≤ 6 - (c 6 1).toNat → fo c F0 b M s (P * 6 ^ (e + 1)) (((c 6 1).toNat + x) * 6 ^ e) = fo c F0 b M s (P * 6 ^ (e + 1)) ((c 6 1).toNat * 6 ^ e) := by
        intro x
        induction x with
        | zero => intro _; rfl
        | succ x ihx =>
          intro hx
          rw [show (c 6 1).toNat + (x + 1) = ((c 6 1).toNat + x) + 1 from by omega, Nat.succ_mul, fo_a, skip _ _ (by omega) (hout _ (by omega))]
          exact ihx (by omega)
      have efin : fo c F0 b M s (P * 6 ^ (e + 1)) (6 ^ (e + 1)) = fo c F0 b M s (P * 6 ^ (e + 1)) ((c 6 1).toNat * 6 ^ e) := by
        have := tail (6 - (c 6 1).toNat) (by omega)
        rw [show (c 6 1).toNat + (6 - (c 6 1).toNat) = 6 from by omega, ← e6] at this
        exact this
      rw [efin]
      refine ⟨t, ?_, i1, ?_, i2, i3⟩
      · unfold fn_X5_tryOrders_16
        rw [hQ.2.2.1, if_pos (yle (by omega) (by omega) (by omega)), if_neg (neq (by omega) (by omega) (by omega))]
        refine (show _ = fn_X5_tryOrders_84 (recT n) fu 171 (iI (d : Int)) W A (rn c F0 b d P).2 (iI ((0 : Nat) : Int)) z from by rw [z0]).trans (hm.trans ?_)
        show fn_X5_tryOrders_84 _ (m + 1) _ _ _ _ _ _ _ = _
        rw [fn_X5_tryOrders_84, (hQ.fr i3).1, if_pos (yle (by omega) (by omega) (by omega))]
      · rcases i4 with q | q
        · exact q
        · have := cB6_z (T := wy c b d P) 6 fun j _ => by
            by_cases q1 : j < (c 6 1).toNat
            · exact q j q1
            · exact hout j (by omega)
          rw [this] at hc
          omega
end
