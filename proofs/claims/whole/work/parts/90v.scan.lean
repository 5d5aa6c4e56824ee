/-! the text and its tokens -/
def tL (x : Int) : Bool := decide (97 ≤ x ∧ x ≤ 122)
def tD (x : Int) : Bool := decide (48 ≤ x ∧ x ≤ 57)
def tB (x : Int) : Bool := decide (x = 32 ∨ x = 10)
def tM (x : Int) : Bool := decide (x = 59 ∨ (40 ≤ x ∧ x ≤ 43) ∨ x = 45 ∨ x = 47 ∨ (60 ≤ x ∧ x ≤ 62) ∨ x = 37)
/-- where a run ends -/
def sto (P : Nat → Bool) : Nat → Nat → Nat
  | 0, i => i
  | k + 1, i => if P i then sto P k (i + 1) else i
theorem sto_p {P : Nat → Bool} {n : Nat} (hP : ∀ j, n ≤ j → P j = false) : ∀ k i, i + k = n → i ≤ sto P k i ∧ sto P k i ≤ n ∧ P (sto P k i) = false ∧ ∀ j, i ≤ j → j < sto P k i → P j = true := by
  intro k
  induction k with
  | zero => intro i h; rw [sto]; exact ⟨by omega, by omega, hP i (by omega), fun j h1 h2 => by omega⟩
  | succ k ih =>
    intro i h
    rw [sto]
    by_cases q : P i = true
    · rw [if_pos q]
      obtain ⟨h1, h2, h3, h4⟩ := ih (i + 1) (by omega)
      refine ⟨by omega, h2, h3, fun j a1 a2 => ?_⟩
      by_cases e : j = i
      · rw [e]; exact q
      · exact h4 j (by omega) a2
    · rw [if_neg q]
      exact ⟨by omega, by omega, Bool.eq_false_iff.mpr q, fun j a1 a2 => by omega⟩
def pL (T : Nat → Int) (n j : Nat) : Bool := decide (j < n) && tL (T j)
def pD (T : Nat → Int) (n j : Nat) : Bool := decide (j < n) && tD (T j)
def pB (T : Nat → Int) (n j : Nat) : Bool := decide (j < n) && tB (T j)
def we (T : Nat → Int) (n s : Nat) : Nat := sto (pL T n) (n - s) s
def de (T : Nat → Int) (n s : Nat) : Nat := sto (pD T n) (n - s) s
def sk (T : Nat → Int) (n i : Nat) : Nat := sto (pB T n) (n - i) i
theorem we_p (T : Nat → Int) {n s : Nat} (h : s ≤ n) : s ≤ we T n s ∧ we T n s ≤ n ∧ pL T n (we T n s) = false ∧ ∀ j, s ≤ j → j < we T n s → pL T n j = true := sto_p (fun j hj => by unfold pL; rw [decide_eq_false (by omega), Bool.false_and]) _ _ (by omega)
theorem de_p (T : Nat → Int) {n s : Nat} (h : s ≤ n) : s ≤ de T n s ∧ de T n s ≤ n ∧ pD T n (de T n s) = false ∧ ∀ j, s ≤ j → j < de T n s → pD T n j = true := sto_p (fun j hj => by unfold pD; rw [decide_eq_false (by omega), Bool.false_and]) _ _ (by omega)
theorem sk_p (T : Nat → Int) {n s : Nat} (h : s ≤ n) : s ≤ sk T n s ∧ sk T n s ≤ n ∧ pB T n (sk T n s) = false ∧ ∀ j, s ≤ j → j < sk T n s → pB T n j = true := sto_p (fun j hj => by unfold pB; rw [decide_eq_false (by omega), Bool.false_and]) _ _ (by omega)
/-- kinds: 0 the end, 1 a word, 2 a number, 3 a sign, 4 none -/
def kx (T : Nat → Int) (n s : Nat) : Nat := if n ≤ s then 0 else if tL (T s) then (if we T n s ≤ s + 8 then 1 else 4) else if tD (T s) then (if de T n s ≤ s + 4 ∧ pL T n (de T n s) = false then 2 else 4) else if tM (T s) then 3 else 4
def tEn (T : Nat → Int) (n s : Nat) : Nat := if n ≤ s then s else if tL (T s) then we T n s else if tD (T s) then de T n s else s + 1
def tKs (T : Nat → Int) (n s : Nat) : Int := if kx T n s = 4 then 3 else if kx T n s = 3 then T s else (kx T n s : Int)
/-- a word as x keeps it, as the reference keeps it; a number -/
def wvX (T : Nat → Int) (s : Nat) : Nat → Nat
  | 0 => 0
  | k + 1 => 32 * wvX T s k + (T (s + k) - 96).toNat
def mvM (T : Nat → Int) (s : Nat) : Nat → Nat
  | 0 => 0
  | k + 1 => 256 * mvM T s k + (T (s + k)).toNat
def nv (T : Nat → Int) (s : Nat) : Nat → Int
  | 0 => 0
  | k + 1 => 10 * nv T s k + (T (s + k) - 48)
def jI (n : Int) : Int64 := Int64.ofInt n
theorem jI_add (a b : Int) : jI a + jI b = jI (a + b) := (Int64.ofInt_add a b).symm
theorem jI_mul (a b : Int) : jI a * jI b = jI (a * b) := (Int64.ofInt_mul a b).symm
theorem jI_toInt {a : Int} (h : 0 ≤ a ∧ a < 9223372036854775808) : (jI a).toInt = a := Int64.toInt_ofInt_of_le (by omega) (by omega)
theorem jI_eq {a b : Int} (ha : 0 ≤ a ∧ a < 9223372036854775808) (hb : 0 ≤ b ∧ b < 9223372036854775808) : (jI a = jI b) = (a = b) := by
  refine propext ⟨fun h => ?_, fun h => by rw [h]⟩
  have := congrArg Int64.toInt h
  rwa [jI_toInt ha, jI_toInt hb] at this
theorem jI_of {y : Int} (h : 0 ≤ y ∧ y < 2147483648) : Int32.toInt64 (iI y) = jI y := by
  refine Int64.toInt_inj.mp ?_
  rw [Int32.toInt_toInt64, iI_toInt (by omega), jI_toInt (by omega)]
theorem jI_sh {a y : Nat} (ha : a < 36028797018963968) (hy : y < 256) : (jI (a : Int) <<< (Int32.toInt64 8 &&& 63)) ||| Int32.toInt64 (iI (y : Int)) = jI ((256 * a + y : Nat) : Int) := by
  rw [jI_of (by omega)]
  refine Int64.toBitVec_inj.mp ?_
  rw [Int64.toBitVec_or, Int64.toBitVec_shiftLeft]
  unfold jI
  rw [Int64.toBitVec_ofInt, Int64.toBitVec_ofInt, Int64.toBitVec_ofInt, BitVec.ofInt_natCast, BitVec.ofInt_natCast, BitVec.ofInt_natCast]
  refine BitVec.eq_of_toNat_eq ?_
  rw [BitVec.toNat_or, BitVec.shiftLeft_eq', show ((Int32.toInt64 8 &&& 63).toBitVec.smod 64).toNat = 8 from by decide +kernel, BitVec.toNat_shiftLeft, BitVec.toNat_ofNat, BitVec.toNat_ofNat, BitVec.toNat_ofNat, Nat.mod_eq_of_lt (show a < 2 ^ 64 from by omega), Nat.mod_eq_of_lt (show y < 2 ^ 64 from by omega), Nat.mod_eq_of_lt (show 256 * a + y < 2 ^ 64 from by omega), Nat.shiftLeft_eq, Nat.mod_eq_of_lt (show a * 2 ^ 8 < 2 ^ 64 from by omega), ← Nat.shiftLeft_eq, ← Nat.shiftLeft_add_eq_or_of_lt (by omega), Nat.shiftLeft_eq]
  omega
theorem lgc (x y : Int64) : (lg_cmp x y = 0) = (x = y) := by
  unfold lg_cmp
  by_cases h : x > y
  · rw [if_pos h]
    refine propext ⟨fun q => absurd q (by decide), fun q => ?_⟩
    rw [q] at h
    exact absurd h (Int64.lt_irrefl)
  · rw [if_neg h]
    by_cases e : x = y
    · rw [if_pos e]; exact propext ⟨fun _ => e, fun _ => rfl⟩
    · rw [if_neg e]; exact propext ⟨fun q => absurd q (by decide), fun q => absurd q e⟩
/-- which own word it is -/
def kwF (J : Int64) : Nat → Int
  | 0 => -1
  | i + 1 => if KW.getD i 0 = J then (i : Int) else kwF J i
abbrev VT (T : Nat → Int) (n : Nat) : Prop := n ≤ 1600 ∧ ∀ i, i < n → 0 ≤ T i ∧ T i ≤ 255
def XTx (z : St) (T : Nat → Int) (n : Nat) : Prop := z.1 32 3 = iI (n : Int) ∧ (∀ i, i < n → z.1 1 i &&& 255 = iI (T i)) ∧ RK z ∧ z.1 32 12 = -1
def MTx (w : St) (T : Nat → Int) (n : Nat) : Prop := w.1 172 5 = iI (n : Int) ∧ (∀ i, i < n → w.1 173 i = iI (T i)) ∧ w.1 172 3 = -1
/-- x has read the token at s -/
def XK (z : St) (T : Nat → Int) (n s : Nat) : Prop := z.1 32 6 = iI (s : Int) ∧ z.1 32 5 = iI (kx T n s : Int) ∧ (kx T n s ≠ 4 → z.1 32 4 = iI (tEn T n s : Int)) ∧ (kx T n s = 1 → z.2 32 8 = jI (wvX T s (we T n s - s) : Nat) ∧ z.1 32 9 = iI (kwF (jI (wvX T s (we T n s - s) : Nat)) 19)) ∧ (kx T n s = 2 → z.1 32 7 = iI (nv T s (de T n s - s))) ∧ (kx T n s = 3 → z.1 32 10 = iI (T s))
def MK (w : St) (T : Nat → Int) (n s : Nat) : Prop := w.1 172 7 = iI (s : Int) ∧ w.1 172 6 = iI (tKs T n s) ∧ (kx T n s ≠ 4 → w.1 172 4 = iI (tEn T n s : Int)) ∧ (kx T n s = 1 → w.2 172 9 = jI (mvM T s (we T n s - s) : Nat)) ∧ (kx T n s = 2 → w.1 172 8 = iI (nv T s (de T n s - s)))
section
variable {z w : St} {T : Nat → Int} {n : Nat}
theorem XTx.fr (h : XTx z T n) (hs : ∀ a k, (a = 32 ∧ (k = 3 ∨ k = 12)) ∨ a = 1 ∨ a = 33 → SA z w a k) : XTx w T n := ⟨(hs 32 3 (by omega)).1.trans h.1, fun i hi => by rw [(hs 1 i (by omega)).1]; exact h.2.1 i hi, fun j hj => (hs 33 j (by omega)).2.trans (h.2.2.1 j hj), (hs 32 12 (by omega)).1.trans h.2.2.2⟩
theorem MTx.fr (h : MTx z T n) (hs : ∀ a k, (a = 172 ∧ (k = 5 ∨ k = 3)) ∨ a = 173 → SA z w a k) : MTx w T n := ⟨(hs 172 5 (by omega)).1.trans h.1, fun i hi => (hs 173 i (by omega)).1.trans (h.2.1 i hi), (hs 172 3 (by omega)).1.trans h.2.2⟩
/-- the sign at a place, as x sees it -/
def cX (T : Nat → Int) (n i : Nat) : Int := if i < n then T i else 0
def cM (T : Nat → Int) (n i : Nat) : Int := if i < n then T i else -1
theorem cX_b (hT : VT T n) (i : Nat) : 0 ≤ cX T n i ∧ cX T n i ≤ 255 := by
  unfold cX; split
  · exact hT.2 i (by assumption)
  · omega
theorem cM_b (hT : VT T n) (i : Nat) : -1 ≤ cM T n i ∧ cM T n i ≤ 255 := by
  unfold cM; split
  · have := hT.2 i (by assumption); omega
  · omega
theorem x_signAt (hT : VT T n) (h : XTx z T n) {i : Nat} (hi : i < 2147483648) : fn_X6_signAt (iI (i : Int)) z = some (iI (cX T n i), z) := by
  have hn := hT.1
  unfold fn_X6_signAt cX
  rw [h.1, q_0, if_neg (nlt (by omega) (by omega) (by omega))]
  by_cases q : i < n
  · rw [if_neg (nle (by omega) (by omega) (by omega)), q_1600, if_neg (nle (by omega) (by omega) (by omega)), gd_t (iI_ix (by omega)), iI_clampN (by omega), h.2.1 i q, if_pos q]
  · rw [if_pos (yle (by omega) (by omega) (by omega)), if_neg q]
theorem m_here (hT : VT T n) (h : MTx z T n) {a k : Nat} (ha : z.1 172 4 = iI (a : Int)) (hk : a + k < 2147483648) : fn_X12_here (iI (k : Int)) z = some (iI (cM T n (a + k)), z) := by
  have hn := hT.1
  unfold fn_X12_here cM
  rw [h.1, ha, iI_add]
  by_cases q : a + k < n
  · rw [if_neg (nle (by omega) (by omega) (by omega)), gd_t (iI_ix (by omega)), show (a : Int) + (k : Int) = ((a + k : Nat) : Int) from rfl, iI_clampN (by omega), h.2.1 _ q, if_pos q]
  · rw [if_pos (yle (by omega) (by omega) (by omega)), if_neg q, q_m1]
theorem x_isLet {x : Int} (hx : -1 ≤ x ∧ x ≤ 255) : fn_X6_isLetter (iI x) z = some (iI (tr (tL x = true)), z) := by
  unfold fn_X6_isLetter
  rw [three]
  congr 3
  refine tr_c ?_
  rw [q_97, q_122, iI_lt (by omega) (by omega), iI_lt (by omega) (by omega)]
  unfold tL
  rw [decide_eq_true_iff]
  omega
theorem m_isLet {x : Int} (hx : -1 ≤ x ∧ x ≤ 255) : fn_X12_isLetter (iI x) z = some (iI (tr (tL x = true)), z) := x_isLet hx
theorem x_isDig {x : Int} (hx : -1 ≤ x ∧ x ≤ 255) : fn_X6_isDigit (iI x) z = some (iI (tr (tD x = true)), z) := by
  unfold fn_X6_isDigit
  rw [three]
  congr 3
  refine tr_c ?_
  rw [q_48, q_57, iI_lt (by omega) (by omega), iI_lt (by omega) (by omega)]
  unfold tD
  rw [decide_eq_true_iff]
  omega
theorem m_isDig {x : Int} (hx : -1 ≤ x ∧ x ≤ 255) : fn_X12_isDigit (iI x) z = some (iI (tr (tD x = true)), z) := x_isDig hx
theorem x_isBla {x : Int} (hx : -1 ≤ x ∧ x ≤ 255) : fn_X6_isBlank (iI x) z = some (iI (tr (tB x = true)), z) := by
  unfold fn_X6_isBlank
  rw [q_32, q_10]
  unfold tB
  by_cases h1 : x = 32
  · rw [if_pos (yeq (by omega) (by omega) h1), tr_1 (by rw [decide_eq_true_iff]; omega), q_1]
  · rw [if_neg (neq (by omega) (by omega) h1)]
    by_cases h2 : x = 10
    · rw [if_pos (yeq (by omega) (by omega) h2), tr_1 (by rw [decide_eq_true_iff]; omega), q_1]
    · rw [if_neg (neq (by omega) (by omega) h2), tr_n (by rw [decide_eq_true_iff]; omega), q_0]
set_option maxRecDepth 100000 in
theorem mark_x : ∀ x : Nat, x < 256 → (fn_X6_isMark (iI (x : Int)) (fun _ _ => 0, fun _ _ => 0)).map (·.1) = some (iI (tr (tM (x : Int) = true))) := by decide +kernel
set_option maxRecDepth 100000 in
theorem mark_m : ∀ x : Nat, x < 256 → (fn_X12_isSign (iI (x : Int)) (fun _ _ => 0, fun _ _ => 0)).map (·.1) = some (iI (tr (tM (x : Int) = true))) := by decide +kernel
theorem ite_map {P : Prop} [Decidable P] {x y : Option (Int32 × St)} {x' y' : Option (Int32 × St)} (hx : x.map (·.1) = x'.map (·.1)) (hy : y.map (·.1) = y'.map (·.1)) : (if P then x else y).map (·.1) = (if P then x' else y').map (·.1) := by
  split
  · exact hx
  · exact hy
theorem ite_snd {P : Prop} [Decidable P] {x y : Option (Int32 × St)} {z : St} (hx : ∃ r, x = some (r, z)) (hy : ∃ r, y = some (r, z)) : ∃ r, (if P then x else y) = some (r, z) := by
  split
  · exact hx
  · exact hy
theorem x_isMar {x : Int} (hx : 0 ≤ x ∧ x ≤ 255) : fn_X6_isMark (iI x) z = some (iI (tr (tM x = true)), z) := by
  obtain ⟨k, rfl⟩ : ∃ k : Nat, x = (k : Int) := ⟨x.toNat, by omega⟩
  have h := mark_x k (by omega)
  have e : (fn_X6_isMark (iI (k : Int)) z).map (·.1) = (fn_X6_isMark (iI (k : Int)) (fun _ _ => 0, fun _ _ => 0)).map (·.1) := by
    unfold fn_X6_isMark fn_X6_isMark_18 fn_X6_isMark_42
    repeat (first | rfl | refine ite_map ?_ ?_)
  have s : ∃ r, fn_X6_isMark (iI (k : Int)) z = some (r, z) := by
    unfold fn_X6_isMark fn_X6_isMark_18 fn_X6_isMark_42
    repeat (first | exact ⟨_, rfl⟩ | refine ite_snd ?_ ?_)
  obtain ⟨r, s⟩ := s
  rw [h, s] at e
  rw [s]
  exact congrArg (fun v => some (v, z)) (Option.some.inj e)
theorem m_isMar {x : Int} (hx : 0 ≤ x ∧ x ≤ 255) : fn_X12_isSign (iI x) z = some (iI (tr (tM x = true)), z) := by
  obtain ⟨k, rfl⟩ : ∃ k : Nat, x = (k : Int) := ⟨x.toNat, by omega⟩
  have h := mark_m k (by omega)
  have e : (fn_X12_isSign (iI (k : Int)) z).map (·.1) = (fn_X12_isSign (iI (k : Int)) (fun _ _ => 0, fun _ _ => 0)).map (·.1) := by
    unfold fn_X12_isSign
    repeat (first | rfl | refine ite_map ?_ ?_)
  have s : ∃ r, fn_X12_isSign (iI (k : Int)) z = some (r, z) := by
    unfold fn_X12_isSign
    repeat (first | exact ⟨_, rfl⟩ | refine ite_snd ?_ ?_)
  obtain ⟨r, s⟩ := s
  rw [h, s] at e
  rw [s]
  exact congrArg (fun v => some (v, z)) (Option.some.inj e)
theorem pL_X (i : Nat) : (tL (cX T n i) = true) = (pL T n i = true) := by
  unfold cX pL
  by_cases h : i < n
  · rw [if_pos h, decide_eq_true h, Bool.true_and]
  · rw [if_neg h, decide_eq_false h, Bool.false_and]; decide
theorem pL_M (i : Nat) : (tL (cM T n i) = true) = (pL T n i = true) := by
  unfold cM pL
  by_cases h : i < n
  · rw [if_pos h, decide_eq_true h, Bool.true_and]
  · rw [if_neg h, decide_eq_false h, Bool.false_and]; decide
theorem pD_X (i : Nat) : (tD (cX T n i) = true) = (pD T n i = true) := by
  unfold cX pD
  by_cases h : i < n
  · rw [if_pos h, decide_eq_true h, Bool.true_and]
  · rw [if_neg h, decide_eq_false h, Bool.false_and]; decide
theorem pD_M (i : Nat) : (tD (cM T n i) = true) = (pD T n i = true) := by
  unfold cM pD
  by_cases h : i < n
  · rw [if_pos h, decide_eq_true h, Bool.true_and]
  · rw [if_neg h, decide_eq_false h, Bool.false_and]; decide
theorem pL_i {i : Nat} (h : pL T n i = true) : i < n ∧ 97 ≤ T i ∧ T i ≤ 122 := by
  unfold pL tL at h
  rw [Bool.and_eq_true, decide_eq_true_iff, decide_eq_true_iff] at h
  exact h
theorem pD_i {i : Nat} (h : pD T n i = true) : i < n ∧ 48 ≤ T i ∧ T i ≤ 57 := by
  unfold pD tD at h
  rw [Bool.and_eq_true, decide_eq_true_iff, decide_eq_true_iff] at h
  exact h
theorem x_scanWord (hT : VT T n) (h : XTx z T n) {s : Nat} (hs : s ≤ n) (h4 : z.1 32 4 = iI (s : Int)) (h6 : z.1 32 6 = iI (s : Int)) : ∃ w, fn_X6_scanWord z = some w ∧ w.1 32 4 = iI (we T n s : Int) ∧ w.1 32 5 = iI (if we T n s ≤ s + 8 then 1 else 4) ∧ w.2 32 8 = jI (wvX T s (we T n s - s) : Nat) ∧ w.1 32 9 = iI (kwF (jI (wvX T s (we T n s - s) : Nat)) 19) := by
  have hn := hT.1
  obtain ⟨e1, e2, e3, e4⟩ := we_p T hs
  obtain ⟨m, t, ⟨i1, i2, i3⟩, hm⟩ := loopE (fun m k t => fn_X6_scanWord_7 m (iI (k : Int)) t) (fun k t => t.1 32 4 = iI ((s + k : Nat) : Int) ∧ t.2 32 8 = jI (wvX T s k : Nat) ∧ ∀ a j, ¬ (a = 32 ∧ (j = 4 ∨ j = 8)) → SA z t a j) (we T n s - s) (by omega) (sJ z 32 8 0) ⟨h4, by rw [sJ_at, if_pos rfl]; rfl, fun a j q => sa_J rfl (by omega)⟩ (fun k m t hk ⟨i1, i2, i3⟩ => by
    have hTt := h.fr (w := t) fun a j q => i3 a j (by omega)
    have hl := e4 (s + k) (by omega) (by omega)
    obtain ⟨l1, l2, l3⟩ := pL_i hl
    have hc := cX_b hT (s + k)
    show ∃ s', _ ∧ fn_X6_scanWord_7 (m + 1) _ _ = fn_X6_scanWord_7 m _ _
    rw [fn_X6_scanWord_7, q_1600, if_neg (nle (by omega) (by omega) (by omega)), i1, bd_o (x_signAt hT hTt (by omega)), bd_o (x_isLet (by omega)), tr_1 (by rw [pL_X]; exact hl), if_neg (show ¬ iI 1 = 0 from by decide), i1, bd_o (x_signAt hT hTt (by omega))]
    unfold fn_X6_withLetter
    rw [bd_e, nm_o, nm_o, k1, i2, show cX T n (s + k) = T (s + k) from if_pos l1]
    refine ⟨_, ⟨?_, ?_, fun a j q => ((i3 a j q).tr (sa_J rfl (by omega))).tr (sa_I rfl (by omega))⟩, rfl⟩
    · rw [sI_at, if_pos rfl, show (sJ t 32 8 _).1 32 4 = t.1 32 4 from rfl, i1, k1]; rfl
    · show (sJ t 32 8 _).2 32 8 = _
      rw [sJ_at, if_pos rfl, q_97, q_1, iI_sub, iI_add, jI_of (by omega), show (32 : Int64) = jI 32 from by decide, jI_mul, jI_add, wvX]
      exact congrArg jI (by omega))
  have hTt := h.fr (w := t) fun a j q => i3 a j (by omega)
  rw [show s + (we T n s - s) = we T n s from by omega] at i1
  have hc := cX_b hT (we T n s)
  generalize hJ : jI (wvX T s (we T n s - s) : Nat) = J at *
  -- the kind, then the own words
  have e63 : fn_X6_scanWord_63 t = fn_X6_scanWord_93 fu 0 (sI (sI t 32 5 (iI (if we T n s ≤ s + 8 then 1 else 4))) 32 9 (-1)) := by
    unfold fn_X6_scanWord_63
    rw [i1, (i3 32 6 (by omega)).1, h6, iI_sub, q_8]
    by_cases q : we T n s ≤ s + 8
    · rw [if_pos (yle (by omega) (by omega) (by omega)), if_pos q]
      unfold fn_X6_scanWord_83
      rw [nm_o, nm_o, q_1]
    · rw [if_neg (nle (by omega) (by omega) (by omega)), if_neg q]
      unfold fn_X6_scanWord_83
      rw [nm_o, nm_o, q_4]
  obtain ⟨m2, u, ⟨j1, j2⟩, hm2⟩ := loopE (fun m k u => fn_X6_scanWord_93 m (iI (k : Int)) u) (fun k u => u.1 32 9 = iI (kwF J k) ∧ ∀ a j, ¬ (a = 32 ∧ j = 9) → SA (sI t 32 5 (iI (if we T n s ≤ s + 8 then 1 else 4))) u a j) 19 (by omega) (sI (sI t 32 5 (iI (if we T n s ≤ s + 8 then 1 else 4))) 32 9 (-1)) ⟨by rw [sI_at, if_pos rfl, kwF, q_m1], fun a j q => sa_I rfl q⟩ (fun k m u hk ⟨j1, j2⟩ => by
    have e33 : u.2 33 k = KW.getD k 0 := by rw [(j2 33 k (by omega)).2]; exact hTt.2.2.1 k hk
    have e8 : u.2 32 8 = J := by rw [(j2 32 8 (by omega)).2]; exact i2
    show ∃ s', _ ∧ fn_X6_scanWord_93 (m + 1) _ _ = fn_X6_scanWord_93 m _ _
    rw [fn_X6_scanWord_93, q_19, if_neg (nle (by omega) (by omega) (by omega)), gd_t (iI_ix (by omega)), iI_clampN (by omega), e33, e8]
    unfold fn_X6_scanWord_118
    rw [k1, kwF]
    by_cases q : KW.getD k 0 = J
    · rw [if_pos (show lg_cmp (KW.getD k 0) J = 0 from by rw [lgc]; exact q), nm_o, if_pos q]
      exact ⟨_, ⟨by rw [sI_at, if_pos rfl], fun a j q => (j2 a j q).tr (sa_I rfl q)⟩, rfl⟩
    · rw [if_neg (show ¬ lg_cmp (KW.getD k 0) J = 0 from by rw [lgc]; exact q), if_neg q]
      exact ⟨u, ⟨j1, j2⟩, rfl⟩)
  refine ⟨u, ?_, ?_, ?_, ?_, j1⟩
  · unfold fn_X6_scanWord
    rw [nm_o]
    refine (show _ = fn_X6_scanWord_7 fu (iI ((0 : Nat) : Int)) (sJ z 32 8 0) from by rw [z0]).trans (hm.trans ?_)
    show fn_X6_scanWord_7 (m + 1) _ _ = _
    have e93 : fn_X6_scanWord_63 t = some u := by
      rw [e63]
      refine (show _ = fn_X6_scanWord_93 fu (iI ((0 : Nat) : Int)) _ from by rw [z0]).trans (hm2.trans ?_)
      show fn_X6_scanWord_93 (m2 + 1) _ _ = _
      rw [fn_X6_scanWord_93, q_19, if_pos (yle (by omega) (by omega) (by omega))]
    rw [fn_X6_scanWord_7]
    by_cases q : 1600 ≤ we T n s - s
    · rw [q_1600, if_pos (yle (by omega) (by omega) (by omega)), e93]
    · rw [q_1600, if_neg (nle (by omega) (by omega) (by omega)), i1, bd_o (x_signAt hT hTt (by omega)), bd_o (x_isLet (by omega)), tr_n (by rw [pL_X, e3]; decide), if_pos (show iI 0 = 0 from q_0.symm), e93]
  · rw [(j2 32 4 (by omega)).1, (sa_I (z := t) (a := 32) (k := 4) rfl (by omega)).1, i1]
  · rw [(j2 32 5 (by omega)).1, sI_at, if_pos rfl]
  · rw [(j2 32 8 (by omega)).2]; exact i2
theorem nv_b {s k : Nat} (h : ∀ j, j < k → 48 ≤ T (s + j) ∧ T (s + j) ≤ 57) : 0 ≤ nv T s k ∧ nv T s k < (10 ^ k : Nat) := by
  induction k with
  | zero => rw [nv]; exact ⟨by omega, by decide⟩
  | succ k ih =>
    have h1 := ih fun j hj => h j (by omega)
    have h2 := h k (by omega)
    rw [nv, Nat.pow_succ]
    generalize 10 ^ k = p at *
    omega
theorem x_scanNumber (hT : VT T n) (h : XTx z T n) {s : Nat} (hs : s ≤ n) (h4 : z.1 32 4 = iI (s : Int)) (h6 : z.1 32 6 = iI (s : Int)) : ∃ w, fn_X6_scanNumber z = some w ∧ w.1 32 4 = iI (de T n s : Int) ∧ w.1 32 5 = iI (if de T n s ≤ s + 4 ∧ pL T n (de T n s) = false then 2 else 4) ∧ w.1 32 7 = iI (nv T s (de T n s - s)) := by
  have hn := hT.1
  obtain ⟨e1, e2, e3, e4⟩ := de_p T hs
  obtain ⟨m, t, ⟨i1, i2, i3⟩, hm⟩ := loopE (fun m k t => fn_X6_scanNumber_7 m (iI (k : Int)) t) (fun k t => t.1 32 4 = iI ((s + k : Nat) : Int) ∧ t.1 32 7 = iI (nv T s k) ∧ ∀ a j, ¬ (a = 32 ∧ (j = 4 ∨ j = 7)) → SA z t a j) (de T n s - s) (by omega) (sI z 32 7 0) ⟨by rw [sI_at, if_neg (by omega)]; exact h4, by rw [sI_at, if_pos rfl, nv, q_0], fun a j q => sa_I rfl (by omega)⟩ (fun k m t hk ⟨i1, i2, i3⟩ => by
    have hTt := h.fr (w := t) fun a j q => i3 a j (by omega)
    have hl := e4 (s + k) (by omega) (by omega)
    obtain ⟨l1, l2, l3⟩ := pD_i hl
    have hc := cX_b hT (s + k)
    show ∃ s', _ ∧ fn_X6_scanNumber_7 (m + 1) _ _ = fn_X6_scanNumber_7 m _ _
    rw [fn_X6_scanNumber_7, q_1600, if_neg (nle (by omega) (by omega) (by omega)), i1, bd_o (x_signAt hT hTt (by omega)), bd_o (x_isDig (by omega)), tr_1 (by rw [pD_X]; exact hl), if_neg (show ¬ iI 1 = 0 from by decide), i1, bd_o (x_signAt hT hTt (by omega)), nm_o, nm_o, k1, i2, show cX T n (s + k) = T (s + k) from if_pos l1]
    refine ⟨_, ⟨?_, ?_, fun a j q => ((i3 a j q).tr (sa_I rfl (by omega))).tr (sa_I rfl (by omega))⟩, rfl⟩
    · rw [sI_at, if_pos rfl, sI_at, if_neg (by omega), i1, k1]; rfl
    · rw [sI_at, if_neg (by omega), sI_at, if_pos rfl, nv, q_10, q_48, iI_mul, iI_sub, iI_add]
      congr 1
      omega)
  have hTt := h.fr (w := t) fun a j q => i3 a j (by omega)
  rw [show s + (de T n s - s) = de T n s from by omega] at i1
  have hc := cX_b hT (de T n s)
  have e67 : fn_X6_scanNumber_67 t = some (sI t 32 5 (iI (if de T n s ≤ s + 4 ∧ pL T n (de T n s) = false then 2 else 4))) := by
    unfold fn_X6_scanNumber_67 fn_X6_scanNumber_95 fn_X6_scanNumber_100
    rw [i1, (i3 32 6 (by omega)).1, h6, iI_sub, q_4]
    by_cases q : de T n s ≤ s + 4
    · rw [if_neg (nlt (by omega) (by omega) (by omega)), bd_o (x_signAt hT hTt (by omega)), bd_o (x_isLet (by omega))]
      by_cases q2 : pL T n (de T n s) = true
      · rw [tr_1 (by rw [pL_X]; exact q2), if_neg (show ¬ iI 1 = 0 from by decide), nm_o, if_neg (fun a => by rw [a.2] at q2; exact absurd q2 (by decide))]
      · rw [tr_n (by rw [pL_X]; exact q2), if_pos (show iI 0 = 0 from q_0.symm), nm_o, if_pos ⟨q, Bool.eq_false_iff.mpr q2⟩, q_2]
    · rw [if_pos (ylt (by omega) (by omega) (by omega)), nm_o, if_neg (fun a => q a.1)]
  refine ⟨sI t 32 5 (iI (if de T n s ≤ s + 4 ∧ pL T n (de T n s) = false then 2 else 4)), ?_, ?_, by rw [sI_at, if_pos rfl], ?_⟩
  · unfold fn_X6_scanNumber
    rw [nm_o]
    refine (show _ = fn_X6_scanNumber_7 fu (iI ((0 : Nat) : Int)) (sI z 32 7 0) from by rw [z0]).trans (hm.trans ?_)
    show fn_X6_scanNumber_7 (m + 1) _ _ = _
    rw [fn_X6_scanNumber_7]
    by_cases q : 1600 ≤ de T n s - s
    · rw [q_1600, if_pos (yle (by omega) (by omega) (by omega)), e67]
    · rw [q_1600, if_neg (nle (by omega) (by omega) (by omega)), i1, bd_o (x_signAt hT hTt (by omega)), bd_o (x_isDig (by omega)), tr_n (by rw [pD_X, e3]; decide), if_pos (show iI 0 = 0 from q_0.symm), e67]
  · rw [sI_at, if_neg (by omega), i1]
  · rw [sI_at, if_neg (by omega), i2]
/-- x reads on -/
theorem x_advance (hT : VT T n) (h : XTx z T n) {i : Nat} (hi : i ≤ n) (h4 : z.1 32 4 = iI (i : Int)) : ∃ w, fn_X6_advance z = some w ∧ XK w T n (sk T n i) := by
  have hn := hT.1
  obtain ⟨e1, e2, e3, e4⟩ := sk_p T hi
  obtain ⟨m, t, ⟨i1, i3⟩, hm⟩ := loopE (fun m k t => fn_X6_advance_2 m (iI (k : Int)) t) (fun k t => t.1 32 4 = iI ((i + k : Nat) : Int) ∧ ∀ a j, ¬ (a = 32 ∧ j = 4) → SA z t a j) (sk T n i - i) (by omega) z ⟨h4, fun a j q => SA.rf⟩ (fun k m t hk ⟨i1, i3⟩ => by
    have hTt := h.fr (w := t) fun a j q => i3 a j (by omega)
    have hl := e4 (i + k) (by omega) (by omega)
    have hc := cX_b hT (i + k)
    have hl1 : i + k < n := by unfold pB at hl; rw [Bool.and_eq_true, decide_eq_true_iff] at hl; exact hl.1
    have hl2 : tB (cX T n (i + k)) = true := by unfold pB at hl; rw [Bool.and_eq_true] at hl; unfold cX; rw [if_pos hl1]; exact hl.2
    show ∃ s', _ ∧ fn_X6_advance_2 (m + 1) _ _ = fn_X6_advance_2 m _ _
    rw [fn_X6_advance_2, q_1600, if_neg (nle (by omega) (by omega) (by omega)), hTt.1, i1, if_neg (nle (by omega) (by omega) (by omega)), bd_o (x_signAt hT hTt (by omega)), bd_o (x_isBla (by omega)), tr_1 hl2, if_neg (show ¬ iI 1 = 0 from by decide), nm_o, k1, i1, k1]
    exact ⟨_, ⟨by rw [sI_at, if_pos rfl]; rfl, fun a j q => (i3 a j q).tr (sa_I rfl q)⟩, rfl⟩)
  have hTt := h.fr (w := t) fun a j q => i3 a j (by omega)
  rw [show i + (sk T n i - i) = sk T n i from by omega] at i1
  generalize hse : sk T n i = s at *
  have fin : ∃ w, fn_X6_advance_50 t = some w ∧ XK w T n s := by
    unfold fn_X6_advance_50
    rw [nm_o, i1]
    generalize ht1 : sI t 32 6 (iI (s : Int)) = t1
    have k1' : ∀ a j, ¬ (a = 32 ∧ j = 6) → SA t t1 a j := fun a j q => sa_I ht1.symm q
    have T1 := hTt.fr (w := t1) fun a j q => k1' a j (by omega)
    have a4 : t1.1 32 4 = iI (s : Int) := (k1' 32 4 (by omega)).1.trans i1
    have a6 : t1.1 32 6 = iI (s : Int) := by rw [← ht1, sI_at, if_pos rfl]
    rw [a4, T1.1]
    by_cases q0 : n ≤ s
    · have ek : kx T n s = 0 := by unfold kx; rw [if_pos q0]
      have ee : tEn T n s = s := by unfold tEn; rw [if_pos q0]
      rw [if_neg (nlt (by omega) (by omega) (by omega)), nm_o]
      refine ⟨_, rfl, (sa_I (z := t1) (a := 32) (k := 6) rfl (by omega)).1.trans a6, ?_, fun _ => ?_, fun q => ?_, fun q => ?_, fun q => ?_⟩
      · rw [sI_at, if_pos rfl, ek, q_0]; rfl
      · rw [ee, sI_at, if_neg (by omega), a4]
      · rw [ek] at q; omega
      · rw [ek] at q; omega
      · rw [ek] at q; omega
    · have hc := hT.2 s (by omega)
      have ec : cX T n s = T s := if_pos (by omega)
      rw [if_pos (ylt (by omega) (by omega) (by omega)), bd_o (x_signAt hT T1 (by omega)), nm_o, ec]
      generalize ht2 : sI t1 32 10 (iI (T s)) = t2
      have k2' : ∀ a j, ¬ (a = 32 ∧ j = 10) → SA t1 t2 a j := fun a j q => sa_I ht2.symm q
      have T2 := T1.fr (w := t2) fun a j q => k2' a j (by omega)
      have b4 : t2.1 32 4 = iI (s : Int) := (k2' 32 4 (by omega)).1.trans a4
      have b6 : t2.1 32 6 = iI (s : Int) := (k2' 32 6 (by omega)).1.trans a6
      have b10 : t2.1 32 10 = iI (T s) := by rw [← ht2, sI_at, if_pos rfl]
      rw [b10, bd_o (x_isLet (by omega))]
      by_cases q1 : tL (T s) = true
      · rw [tr_1 q1, if_neg (show ¬ iI 1 = 0 from by decide)]
        obtain ⟨w, g1, g2, g3, g4, g5⟩ := x_scanWord hT T2 (by omega) b4 b6
        have kw : ∀ a j, ¬ (a = 32 ∧ j = 9) ∧ ¬ (a = 32 ∧ j = 5) ∧ ¬ (a = 32 ∧ j = 8) ∧ ¬ (a = 32 ∧ j = 4) → SA t2 w a j := fun a j q => ff_X6_scanWord q g1
        have ek : kx T n s = if we T n s ≤ s + 8 then 1 else 4 := by unfold kx; rw [if_neg q0, if_pos q1]
        have ee : tEn T n s = we T n s := by unfold tEn; rw [if_neg q0, if_pos q1]
        rw [bv_o g1]
        refine ⟨w, rfl, (kw 32 6 (by omega)).1.trans b6, ?_, fun _ => by rw [ee]; exact g2, fun _ => ⟨g4, g5⟩, fun q => ?_, fun q => ?_⟩
        · rw [ek, g3]; split <;> rfl
        · rw [ek] at q; split at q <;> omega
        · rw [ek] at q; split at q <;> omega
      · rw [tr_n q1, if_pos (show iI 0 = 0 from q_0.symm), b10, bd_o (x_isDig (by omega))]
        by_cases q2 : tD (T s) = true
        · rw [tr_1 q2, if_neg (show ¬ iI 1 = 0 from by decide)]
          obtain ⟨w, g1, g2, g3, g4⟩ := x_scanNumber hT T2 (by omega) b4 b6
          have kw : ∀ a j, ¬ (a = 32 ∧ j = 5) ∧ ¬ (a = 32 ∧ j = 7) ∧ ¬ (a = 32 ∧ j = 4) → SA t2 w a j := fun a j q => ff_X6_scanNumber q g1
          have ek : kx T n s = if de T n s ≤ s + 4 ∧ pL T n (de T n s) = false then 2 else 4 := by unfold kx; rw [if_neg q0, if_neg q1, if_pos q2]
          have ee : tEn T n s = de T n s := by unfold tEn; rw [if_neg q0, if_neg q1, if_pos q2]
          rw [bv_o g1]
          refine ⟨w, rfl, (kw 32 6 (by omega)).1.trans b6, ?_, fun _ => by rw [ee]; exact g2, fun q => ?_, fun _ => g4, fun q => ?_⟩
          · rw [ek, g3]; split <;> rfl
          · rw [ek] at q; split at q <;> omega
          · rw [ek] at q; split at q <;> omega
        · rw [tr_n q2, if_pos (show iI 0 = 0 from q_0.symm), b10, bd_o (x_isMar (by omega))]
          have ee : tEn T n s = s + 1 := by unfold tEn; rw [if_neg q0, if_neg q1, if_neg q2]
          have ek : kx T n s = if tM (T s) = true then 3 else 4 := by unfold kx; rw [if_neg q0, if_neg q1, if_neg q2]
          unfold fn_X6_advance_137
          have last : ∀ v : Nat, v = kx T n s → ∃ w, (nm (sI t2 32 5 (iI (v : Int))) (fun z1 => nm (sI z1 32 4 ((z1.1 32 4) + 1)) (fun z2 => some z2))) = some w ∧ XK w T n s := by
            intro v hv
            rw [nm_o, nm_o]
            refine ⟨_, rfl, ?_, ?_, fun _ => ?_, fun q => ?_, fun q => ?_, fun _ => ?_⟩
            · rw [sI_at, if_neg (by omega), sI_at, if_neg (by omega), b6]
            · rw [sI_at, if_neg (by omega), sI_at, if_pos rfl, hv]
            · rw [sI_at, if_pos rfl, sI_at, if_neg (by omega), b4, k1, ee]
            · rw [ek] at q; split at q <;> omega
            · rw [ek] at q; split at q <;> omega
            · rw [sI_at, if_neg (by omega), sI_at, if_neg (by omega), b10]
          by_cases q3 : tM (T s) = true
          · rw [tr_1 q3, if_neg (show ¬ iI 1 = 0 from by decide), q_3]
            exact last 3 (by rw [ek, if_pos q3])
          · rw [tr_n q3, if_pos (show iI 0 = 0 from q_0.symm), q_4]
            exact last 4 (by rw [ek, if_neg q3])
  obtain ⟨w, g1, g2⟩ := fin
  refine ⟨w, ?_, g2⟩
  unfold fn_X6_advance
  refine (show _ = fn_X6_advance_2 fu (iI ((0 : Nat) : Int)) z from by rw [z0]).trans (hm.trans ?_)
  show fn_X6_advance_2 (m + 1) _ _ = _
  rw [fn_X6_advance_2]
  by_cases q : 1600 ≤ s - i
  · rw [q_1600, if_pos (yle (by omega) (by omega) (by omega)), g1]
  · rw [q_1600, if_neg (nle (by omega) (by omega) (by omega)), hTt.1, i1]
    by_cases q0 : n ≤ s
    · rw [if_pos (yle (by omega) (by omega) (by omega)), g1]
    · have hc := cX_b hT s
      have hl2 : ¬ tB (cX T n s) = true := fun a => by
        unfold pB at e3
        rw [decide_eq_true (show s < n from by omega), Bool.true_and] at e3
        unfold cX at a
        rw [if_pos (show s < n from by omega), e3] at a
        exact absurd a (by decide)
      rw [if_neg (nle (by omega) (by omega) (by omega)), bd_o (x_signAt hT hTt (by omega)), bd_o (x_isBla (by omega)), tr_n hl2, if_pos (show iI 0 = 0 from q_0.symm), g1]
end
