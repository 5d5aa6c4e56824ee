/-! numbers -/
def iI (n : Int) : Int32 := Int32.ofInt n
theorem iI_add (a b : Int) : iI a + iI b = iI (a + b) := (Int32.ofInt_add a b).symm
theorem iI_sub (a b : Int) : iI a - iI b = iI (a - b) := (Int32.ofInt_sub a b).symm
theorem iI_mul (a b : Int) : iI a * iI b = iI (a * b) := (Int32.ofInt_mul a b).symm
theorem iI_neg (a : Int) : -iI a = iI (-a) := (Int32.ofInt_neg a).symm
theorem iI_toInt {a : Int} (h : -2147483648 ≤ a ∧ a < 2147483648) : (iI a).toInt = a := Int32.toInt_ofInt_of_le h.1 h.2
theorem iI_self (x : Int32) : iI x.toInt = x := Int32.ofInt_toInt x
theorem iI_lo (x : Int32) : -2147483648 ≤ x.toInt := Int32.le_toInt x
theorem iI_hi (x : Int32) : x.toInt < 2147483648 := Int32.toInt_lt x
theorem iI_eq {a b : Int} (ha : -2147483648 ≤ a ∧ a < 2147483648) (hb : -2147483648 ≤ b ∧ b < 2147483648) : (iI a = iI b) = (a = b) := by
  refine propext ⟨fun h => ?_, fun h => by rw [h]⟩
  have := congrArg Int32.toInt h
  rwa [iI_toInt ha, iI_toInt hb] at this
theorem iI_le {a b : Int} (ha : -2147483648 ≤ a ∧ a < 2147483648) (hb : -2147483648 ≤ b ∧ b < 2147483648) : (iI a ≤ iI b) = (a ≤ b) := by
  rw [Int32.le_iff_toInt_le, iI_toInt ha, iI_toInt hb]
theorem iI_lt {a b : Int} (ha : -2147483648 ≤ a ∧ a < 2147483648) (hb : -2147483648 ≤ b ∧ b < 2147483648) : (iI a < iI b) = (a < b) := by
  rw [Int32.lt_iff_toInt_lt, iI_toInt ha, iI_toInt hb]
theorem iI_clamp {a : Int} (h : -2147483648 ≤ a ∧ a < 2147483648) : (iI a).toNatClampNeg = a.toNat := by
  rw [← Int32.toNat_toInt, iI_toInt h]
theorem iI_clampN {k : Nat} (h : k < 2147483648) : (iI (k : Int)).toNatClampNeg = k := by
  rw [iI_clamp (by omega)]; rfl
theorem iI_ix {a : Int} {n : Nat} (h : 0 ≤ a ∧ a < n ∧ n ≤ 2147483648) : ix (iI a) n = true := by
  refine decide_eq_true ?_
  rw [iI_toInt (by omega)]
  omega
theorem iI_div {a b : Int} (ha : 0 ≤ a ∧ a < 2147483648) (hb : 0 < b ∧ b < 2147483648) : iI a / iI b = iI (a / b) := by
  refine Int32.toInt_inj.mp ?_
  have h0 : a / b ≤ a := Int.ediv_le_self b ha.1
  have h1 : 0 ≤ a / b := Int.ediv_nonneg ha.1 (by omega)
  rw [Int32.toInt_div_of_ne_right _ _ (fun q => by
    have := congrArg Int32.toInt q
    rw [iI_toInt (by omega), show (-1 : Int32).toInt = -1 from by decide] at this
    omega), iI_toInt (by omega), iI_toInt (by omega), iI_toInt (by omega), Int.tdiv_eq_ediv_of_nonneg ha.1]
theorem iI_mod {a b : Int} (ha : 0 ≤ a ∧ a < 2147483648) (hb : 0 < b ∧ b < 2147483648) : iI a - iI a / iI b * iI b = iI (a % b) := by
  rw [iI_div ha hb, iI_mul, iI_sub, Int.emod_def, Int.mul_comm]
section
variable {a b : Int}
theorem nle (ha : -2147483648 ≤ a ∧ a < 2147483648) (hb : -2147483648 ≤ b ∧ b < 2147483648) (h : ¬ a ≤ b) : ¬ iI a ≤ iI b := by rw [iI_le ha hb]; exact h
theorem yle (ha : -2147483648 ≤ a ∧ a < 2147483648) (hb : -2147483648 ≤ b ∧ b < 2147483648) (h : a ≤ b) : iI a ≤ iI b := by rw [iI_le ha hb]; exact h
theorem nlt (ha : -2147483648 ≤ a ∧ a < 2147483648) (hb : -2147483648 ≤ b ∧ b < 2147483648) (h : ¬ a < b) : ¬ iI a < iI b := by rw [iI_lt ha hb]; exact h
theorem ylt (ha : -2147483648 ≤ a ∧ a < 2147483648) (hb : -2147483648 ≤ b ∧ b < 2147483648) (h : a < b) : iI a < iI b := by rw [iI_lt ha hb]; exact h
theorem neq (ha : -2147483648 ≤ a ∧ a < 2147483648) (hb : -2147483648 ≤ b ∧ b < 2147483648) (h : ¬ a = b) : ¬ iI a = iI b := by rw [iI_eq ha hb]; exact h
theorem yeq (_ha : -2147483648 ≤ a ∧ a < 2147483648) (_hb : -2147483648 ≤ b ∧ b < 2147483648) (h : a = b) : iI a = iI b := by rw [h]
end
theorem nm_o {α β : Type} (x : α) (f : α → Option β) : nm x f = f x := rfl
theorem toInt_iI (x : Int32) : x = iI x.toInt := (iI_self x).symm
theorem gd_t {β : Type} {b : Bool} {x : Option β} (h : b = true) : gd b x = x := by rw [h]; rfl
theorem bd_e {α β : Type} (r : α) (z : St) (f : α → St → Option β) : bd (some (r, z)) f = f r z := rfl
theorem bv_e {β : Type} (z : St) (f : St → Option β) : bv (some z) f = f z := rfl
theorem bd_o {α β : Type} {x : Option (α × St)} {r : α} {z : St} {f : α → St → Option β} (h : x = some (r, z)) : bd x f = f r z := by rw [h]; rfl
theorem bv_o {β : Type} {x : Option St} {z : St} {f : St → Option β} (h : x = some z) : bv x f = f z := by rw [h]; rfl
/-! loops -/
theorem loopA {β : Type} (F : Nat → Nat → Option β) (n : Nat) (h : ∀ k m, k < n → F (m + 1) k = F m (k + 1)) : ∀ m, F (m + n) 0 = F m n := by
  induction n with
  | zero => intro m; rfl
  | succ n ih =>
    intro m
    rw [show m + (n + 1) = (m + 1) + n from by omega, ih (fun k m hk => h k m (by omega)) (m + 1)]
    exact h n m (by omega)
theorem loopK {β : Type} (F : Nat → Nat → Option β) (n : Nat) (hn : n < 1000000) (h : ∀ k m, k < n → F (m + 1) k = F m (k + 1)) : ∃ m, F fu 0 = F (m + 1) n := by
  refine ⟨999999 - n, ?_⟩
  have := loopA F n h (999999 - n + 1)
  rw [show 999999 - n + 1 + n = fu from by unfold fu; omega] at this
  exact this
theorem loopE0 {σ β : Type} (F : Nat → Nat → σ → Option β) (I : Nat → σ → Prop) (n : Nat) (h : ∀ k m s, k < n → I k s → ∃ s', I (k + 1) s' ∧ F (m + 1) k s = F m (k + 1) s') (s0 : σ) (h0 : I 0 s0) : ∀ m, ∃ s, I n s ∧ F (m + n) 0 s0 = F m n s := by
  induction n with
  | zero => intro m; exact ⟨s0, h0, rfl⟩
  | succ n ih =>
    intro m
    obtain ⟨s, hs, e⟩ := ih (fun k m s hk => h k m s (by omega)) (m + 1)
    obtain ⟨s', hs', e'⟩ := h n m s (by omega) hs
    exact ⟨s', hs', by rw [show m + (n + 1) = (m + 1) + n from by omega, e, e']⟩
theorem loopE {σ β : Type} (F : Nat → Nat → σ → Option β) (I : Nat → σ → Prop) (n : Nat) (hn : n < 1000000) (s0 : σ) (h0 : I 0 s0) (h : ∀ k m s, k < n → I k s → ∃ s', I (k + 1) s' ∧ F (m + 1) k s = F m (k + 1) s') : ∃ m s, I n s ∧ F fu 0 s0 = F (m + 1) n s := by
  obtain ⟨s, hs, e⟩ := loopE0 F I n h s0 h0 (999999 - n + 1)
  rw [show 999999 - n + 1 + n = fu from by unfold fu; omega] at e
  exact ⟨999999 - n, s, hs, e⟩
/-- a loop that may end early, with a last word -/
theorem loopX {σ β : Type} (F : Nat → Nat → σ → Option β) (I : Nat → σ → Prop) (P : β → Prop) (n : Nat) (hn : n < 1000000) (s0 : σ) (h0 : I 0 s0)
    (h : ∀ k m s, k < n → I k s → (∃ y, P y ∧ F (m + 1) k s = some y) ∨ ∃ s', I (k + 1) s' ∧ F (m + 1) k s = F m (k + 1) s')
    (he : ∀ m s, I n s → ∃ y, P y ∧ F (m + 1) n s = some y) : ∃ y, P y ∧ F fu 0 s0 = some y := by
  have key : ∀ d k m s, k + d = n → d < m → I k s → ∃ y, P y ∧ F m k s = some y := by
    intro d
    induction d with
    | zero =>
      intro k m s hk hm hI
      obtain ⟨m', rfl⟩ : ∃ m', m = m' + 1 := ⟨m - 1, by omega⟩
      have : k = n := by omega
      subst this
      exact he m' s hI
    | succ d ih =>
      intro k m s hk hm hI
      obtain ⟨m', rfl⟩ : ∃ m', m = m' + 1 := ⟨m - 1, by omega⟩
      rcases h k m' s (by omega) hI with ⟨y, hy, e⟩ | ⟨s', hs', e⟩
      · exact ⟨y, hy, e⟩
      · rw [e]
        exact ih (k + 1) m' s' (by omega) (by omega) hs'
  exact key n 0 fu s0 (by omega) (by unfold fu; omega) h0
