/-! steps as lists, signs that wait as lists (the last one first) -/
abbrev SL : Type := List (Nat × Int)
def fkO (o : SL) : Nat → Nat := fun k => (o.getD k (0, 0)).1
def faO (o : SL) : Nat → Int := fun k => (o.getD k (0, 0)).2
theorem gd_l {o : SL} {x : Nat × Int} {k : Nat} (h : k < o.length) : (o ++ [x]).getD k (0, 0) = o.getD k (0, 0) := by
  rw [List.getD_eq_getElem?_getD, List.getD_eq_getElem?_getD, List.getElem?_append_left h]
theorem gd_e {o : SL} {x : Nat × Int} : (o ++ [x]).getD o.length (0, 0) = x := by
  rw [List.getD_eq_getElem?_getD, List.getElem?_append_right (Nat.le_refl _), Nat.sub_self]; rfl
theorem len_s {o : SL} {x : Nat × Int} : (o ++ [x]).length = o.length + 1 := by rw [List.length_append]; rfl
def XOt (q : Nat) (z : St) (o : SL) : Prop := XF q z o.length (fkO o) (faO o)
def MOt (f : Nat) (w : St) (o : SL) : Prop := w.1 177 f = iI (o.length : Int) ∧ ∀ k, k < o.length → w.1 175 (320 * f + k) = iI ((fkO o k : Nat) : Int) ∧ w.1 176 (320 * f + k) = iI (faO o k)
def VSp (k : Nat) (a : Int) (d : Nat) : Prop := (k = 0 ∧ 0 ≤ a ∧ a ≤ 9999) ∨ (k = 1 ∧ 0 ≤ a ∧ a < 6) ∨ (k = 2 ∧ 1 ≤ d) ∨ (k = 3 ∧ 2 ≤ d ∧ isOp a)
def Vo (o : SL) (d : Nat) : Prop := dp (fkO o) o.length = d ∧ ∀ k, k < o.length → dp (fkO o) k ≤ 30 ∧ VSp (fkO o k) (faO o k) (dp (fkO o) k)
theorem dp_ext {f g : Nat → Nat} : ∀ k, (∀ j, j < k → f j = g j) → dp f k = dp g k := by
  intro k
  induction k with
  | zero => intro _; rfl
  | succ k ih => intro h; rw [dp, dp, ih fun j hj => h j (by omega), h k (by omega)]
theorem Vo_0 : Vo [] 0 := ⟨rfl, fun k hk => absurd hk (Nat.not_lt_zero k)⟩
theorem Vo_s {o : SL} {d : Nat} {x : Nat × Int} (h : Vo o d) (hd : d ≤ 30) (hv : VSp x.1 x.2 d) : Vo (o ++ [x]) (if x.1 ≤ 1 then d + 1 else if x.1 = 2 then d else d - 1) := by
  have e : ∀ j, j < o.length → fkO (o ++ [x]) j = fkO o j := fun j hj => by unfold fkO; rw [gd_l hj]
  have e2 : ∀ j, j < o.length → faO (o ++ [x]) j = faO o j := fun j hj => by unfold faO; rw [gd_l hj]
  have el : fkO (o ++ [x]) o.length = x.1 := by unfold fkO; rw [gd_e]
  have el2 : faO (o ++ [x]) o.length = x.2 := by unfold faO; rw [gd_e]
  have ed : dp (fkO (o ++ [x])) o.length = d := by rw [dp_ext o.length e]; exact h.1
  refine ⟨?_, fun k hk => ?_⟩
  · rw [len_s, dp, el, ed]
  · rw [len_s] at hk
    by_cases q : k = o.length
    · rw [q, ed, el, el2]; exact ⟨hd, hv⟩
    · have := h.2 k (by omega)
      rw [dp_ext k fun j hj => e j (by omega), e k (by omega), e2 k (by omega)]
      exact this
theorem shr5 {N : Nat} (h : N < 2147483648) : iI (N : Int) >>> (5 &&& 31) = iI ((N / 32 : Nat) : Int) := by
  refine Int32.toBitVec_inj.mp ?_
  rw [Int32.toBitVec_shiftRight, toB, toB, BitVec.sshiftRight', show ((5 &&& 31 : Int32).toBitVec.smod 32).toNat = 5 from by decide +kernel, BitVec.sshiftRight_eq_of_msb_false (BitVec.msb_eq_false_iff_two_mul_lt.mpr (by rw [BitVec.toNat_ofNat]; omega))]
  refine BitVec.eq_of_toNat_eq ?_
  rw [BitVec.toNat_ushiftRight, BitVec.toNat_ofNat, BitVec.toNat_ofNat, Nat.mod_eq_of_lt (by omega), Nat.mod_eq_of_lt (by omega), Nat.shiftRight_eq_div_pow]
theorem shl5 {a c : Nat} (ha : a < 10000) (hc : c < 32) : (iI (a : Int) <<< (5 &&& 31)) ||| iI (c : Int) = iI ((32 * a + c : Nat) : Int) := by
  refine Int32.toBitVec_inj.mp ?_
  rw [Int32.toBitVec_or, Int32.toBitVec_shiftLeft, toB, toB, toB]
  refine BitVec.eq_of_toNat_eq ?_
  rw [BitVec.toNat_or, BitVec.shiftLeft_eq', show ((5 &&& 31 : Int32).toBitVec.smod 32).toNat = 5 from by decide +kernel, BitVec.toNat_shiftLeft, BitVec.toNat_ofNat, BitVec.toNat_ofNat, BitVec.toNat_ofNat, Nat.mod_eq_of_lt (show a < 2 ^ 32 from by omega), Nat.mod_eq_of_lt (show c < 2 ^ 32 from by omega), Nat.mod_eq_of_lt (show 32 * a + c < 2 ^ 32 from by omega), Nat.shiftLeft_eq, Nat.mod_eq_of_lt (show a * 2 ^ 5 < 2 ^ 32 from by omega), ← Nat.shiftLeft_eq, ← Nat.shiftLeft_add_eq_or_of_lt (by omega), Nat.shiftLeft_eq]
  omega
theorem and31 {N : Nat} (h : N < 2147483648) : iI (N : Int) &&& 31 = iI ((N % 32 : Nat) : Int) := by
  rw [show (31 : Int32) = iI ((31 : Nat) : Int) from by decide, andN h (by omega), show (31 : Nat) = 2 ^ 5 - 1 from rfl, Nat.and_two_pow_sub_one_eq_mod]
section
variable {z w : St} {o : SL} {q f : Nat}
theorem XOt.fr (h : XOt q z o) (hs : ∀ a k, a = q ∧ k = 2 ∨ a = q + 1 → SA z w a k) : XOt q w o := XF.fr h hs
theorem MOt.fr (h : MOt f z o) (hs : ∀ a k, (a = 177 ∧ k = f) ∨ ((a = 175 ∨ a = 176) ∧ 320 * f ≤ k ∧ k < 320 * f + o.length) → SA z w a k) : MOt f w o :=
  ⟨(hs 177 f (by omega)).1.trans h.1, fun k hk => ⟨(hs 175 _ (by omega)).1.trans (h.2 k hk).1, (hs 176 _ (by omega)).1.trans (h.2 k hk).2⟩⟩
theorem x_addO (h : XOt q z o) (hl : o.length < 272) {k : Nat} {a : Int} {d : Nat} (hv : VSp k a d) : ∃ w, fn_X2_add q (iI (xsp k a)) (iI (if k = 0 then a else 0)) z = some w ∧ XOt q w (o ++ [(k, a)]) ∧ ∀ a' j, ¬ a' = q + 1 → ¬ (a' = q ∧ j = 2) → SA z w a' j := by
  have hx : 0 ≤ xsp k a ∧ xsp k a < 32 := by
    rcases hv with ⟨rfl, h1, h2⟩ | ⟨rfl, h1, h2⟩ | ⟨rfl, h1⟩ | ⟨rfl, h1, h2⟩
    · rw [xsp_0]; omega
    · rw [xsp_1]; omega
    · rw [xsp_2]; omega
    · rw [xsp_3]; have := xst_b (s := a); omega
  have ha : 0 ≤ (if k = 0 then a else 0) ∧ (if k = 0 then a else 0) < 10000 := by
    rcases hv with ⟨rfl, h1, h2⟩ | ⟨rfl, h1, h2⟩ | ⟨rfl, h1⟩ | ⟨rfl, h1, h2⟩
    · rw [if_pos rfl]; omega
    · rw [if_neg (by omega)]; omega
    · rw [if_neg (by omega)]; omega
    · rw [if_neg (by omega)]; omega
  obtain ⟨c, hc⟩ : ∃ c : Nat, xsp k a = (c : Int) := ⟨(xsp k a).toNat, by omega⟩
  obtain ⟨y, hy⟩ : ∃ y : Nat, (if k = 0 then a else 0) = (y : Int) := ⟨(if k = 0 then a else 0).toNat, by omega⟩
  unfold fn_X2_add
  rw [h.1, q_272, if_neg (nle (by omega) (by omega) (by omega)), gd_t (iI_ix (by omega)), nm_o, nm_o, iI_clampN (by omega), hc, hy, shl5 (by omega) (by omega)]
  refine ⟨_, rfl, ⟨?_, fun j hj => ?_⟩, fun a' j q1 q2 => (sa_Ia rfl q1).tr (sa_I rfl q2)⟩
  · rw [sI_at, if_pos rfl, (sa_Ia (z := z) (a := q) (k := 2) rfl (by omega)).1, h.1, k1, len_s]
  · rw [len_s] at hj
    rw [(sa_Ia (z := sI z (q + 1) o.length (iI ((32 * y + c : Nat) : Int))) (a := q + 1) (k := j) rfl (by omega)).1, sI_at]
    by_cases e : j = o.length
    · have e1 : fkO (o ++ [(k, a)]) j = k := by unfold fkO; rw [e, gd_e]
      have e2 : faO (o ++ [(k, a)]) j = a := by unfold faO; rw [e, gd_e]
      rw [if_pos e, e1, e2, and31 (by omega), shr5 (by omega), hc, show (32 * y + c) % 32 = c from by omega, show (32 * y + c) / 32 = y from by omega]
      refine ⟨rfl, fun q0 => ?_⟩
      rw [if_pos q0] at hy
      rw [hy]
    · have e1 : fkO (o ++ [(k, a)]) j = fkO o j := by unfold fkO; rw [gd_l (by omega)]
      have e2 : faO (o ++ [(k, a)]) j = faO o j := by unfold faO; rw [gd_l (by omega)]
      rw [if_neg e, e1, e2]
      exact h.2 j (by omega)
/-- whatever lies there, a step more is no harm -/
theorem x_addA (q : Nat) (v1 v2 : Int32) {N : Nat} (hN : N ≤ 272) (h : z.1 q 2 = iI (N : Int)) : ∃ w, fn_X2_add q v1 v2 z = some w ∧ (∃ N' : Nat, N' ≤ 272 ∧ w.1 q 2 = iI (N' : Int)) ∧ ∀ a' j, ¬ a' = q + 1 → ¬ (a' = q ∧ j = 2) → SA z w a' j := by
  unfold fn_X2_add
  rw [h, q_272]
  by_cases e : N = 272
  · rw [if_pos (yle (by omega) (by omega) (by omega))]
    exact ⟨z, rfl, ⟨N, hN, h⟩, fun _ _ _ _ => SA.rf⟩
  · rw [if_neg (nle (by omega) (by omega) (by omega)), gd_t (iI_ix (by omega)), nm_o, nm_o]
    refine ⟨_, rfl, ⟨N + 1, by omega, ?_⟩, fun a' j q1 q2 => (sa_Ia rfl q1).tr (sa_I rfl q2)⟩
    rw [sI_at, if_pos rfl, (sa_Ia (z := z) (a := q) (k := 2) rfl (by omega)).1, h, k1]
abbrev aFr (f : Nat) (a j : Nat) : Prop := ¬ ((a = 175 ∨ a = 176) ∧ 320 * f ≤ j ∧ j < 320 * f + 320) ∧ ¬ (a = 177 ∧ j = f)
theorem m_addO (hf : f < 2) (h20 : w.1 172 20 = iI (f : Int)) (h : MOt f w o) (hl : o.length < 320) (k : Nat) (a : Int) : ∃ w', fn_X12_add (iI (k : Int)) (iI a) w = some w' ∧ MOt f w' (o ++ [(k, a)]) ∧ ∀ a' j, aFr f a' j → SA w w' a' j := by
  have ei : (320 : Int32) * iI (f : Int) + iI (o.length : Int) = iI ((320 * f + o.length : Nat) : Int) := by rw [q_320, iI_mul, iI_add]; rfl
  unfold fn_X12_add
  rw [h20, gd_t (iI_ix (by omega)), iI_clampN (show f < 2147483648 from by omega), h.1, ei, gd_t (iI_ix (by omega)), nm_o, iI_clampN (show 320 * f + o.length < 2147483648 from by omega)]
  generalize e1 : sI w 175 (320 * f + o.length) (iI (k : Int)) = w1
  have k1' : ∀ a j, ¬ (a = 175 ∧ j = 320 * f + o.length) → SA w w1 a j := fun a j q => sa_I e1.symm q
  rw [(k1' 172 20 (by omega)).1, h20, gd_t (iI_ix (by omega)), iI_clampN (show f < 2147483648 from by omega), (k1' 177 f (by omega)).1, h.1, ei, gd_t (iI_ix (by omega)), nm_o, iI_clampN (show 320 * f + o.length < 2147483648 from by omega)]
  generalize e2 : sI w1 176 (320 * f + o.length) (iI a) = w2
  have k2' : ∀ a j, ¬ (a = 175 ∧ j = 320 * f + o.length) → ¬ (a = 176 ∧ j = 320 * f + o.length) → SA w w2 a j := fun a j q1 q2 => (k1' a j q1).tr (sa_I e2.symm q2)
  rw [(k2' 172 20 (by omega) (by omega)).1, h20, gd_t (iI_ix (by omega)), gd_t (iI_ix (by omega)), nm_o, iI_clampN (show f < 2147483648 from by omega), (k2' 177 f (by omega) (by omega)).1, h.1, k1]
  refine ⟨_, rfl, ⟨by rw [sI_at, if_pos rfl, len_s], fun j hj => ?_⟩, fun a' j q => (k2' a' j (by unfold aFr at q; omega) (by unfold aFr at q; omega)).tr (sa_I rfl q.2)⟩
  rw [len_s] at hj
  rw [(sa_Ia (z := w2) (a := 175) (k := 320 * f + j) rfl (by omega)).1, (sa_Ia (z := w2) (a := 176) (k := 320 * f + j) rfl (by omega)).1]
  by_cases e : j = o.length
  · have g1 : fkO (o ++ [(k, a)]) j = k := by unfold fkO; rw [e, gd_e]
    have g2 : faO (o ++ [(k, a)]) j = a := by unfold faO; rw [e, gd_e]
    rw [g1, g2, e]
    constructor
    · rw [← e2, (sa_Ia (z := w1) (a := 175) (k := 320 * f + o.length) rfl (by omega)).1, ← e1, sI_at, if_pos rfl]
    · rw [← e2, sI_at, if_pos rfl]
  · have g1 : fkO (o ++ [(k, a)]) j = fkO o j := by unfold fkO; rw [gd_l (by omega)]
    have g2 : faO (o ++ [(k, a)]) j = faO o j := by unfold faO; rw [gd_l (by omega)]
    rw [g1, g2, (k2' 175 (320 * f + j) (by omega) (by omega)).1, (k2' 176 (320 * f + j) (by omega) (by omega)).1]
    exact h.2 j (by omega)
end
/-! the signs that wait -/
def MStk (w : St) : List Int → Prop
  | [] => True
  | x :: l => w.1 181 l.length = iI x ∧ MStk w l
def vsE (x : Int) : Prop := x = 20 ∨ x = 21 ∨ isOp x
def tg (x : Int) : Nat := if x = 21 then 3 else if x = 38 then 2 else if x = 43 then 5 else if x = 45 then 5 else if x = 60 then 4 else if x = 61 then 4 else if x = 62 then 4 else if x = 124 then 1 else 6
def nb : List Int → Nat
  | [] => 0
  | x :: l => nb l + (if x = 20 ∨ x = 21 then 1 else 0)
def np : List Int → Nat
  | [] => 0
  | x :: l => np l + (if x = 20 then 0 else 1)
def ct : List Int → Nat
  | [] => 0
  | x :: l => if x = 21 then ct l + 1 else 0
def em (x : Int) : Nat × Int := if x = 21 then (2, 0) else (3, x)
def fl (l : List Int) : SL := l.map em
theorem fl_a (l m : List Int) : fl (l ++ m) = fl l ++ fl m := List.map_append
theorem nb_a (l m : List Int) : nb (l ++ m) = nb l + nb m := by
  induction l with
  | nil => show nb m = 0 + nb m; omega
  | cons x l ih => show nb (l ++ m) + _ = nb l + _ + nb m; rw [ih]; omega
theorem np_a (l m : List Int) : np (l ++ m) = np l + np m := by
  induction l with
  | nil => show np m = 0 + np m; omega
  | cons x l ih => show np (l ++ m) + _ = np l + _ + np m; rw [ih]; omega
theorem np_l {l : List Int} (h : ∀ x ∈ l, x ≠ 20) : np l = l.length := by
  induction l with
  | nil => rfl
  | cons x l ih =>
    show np l + (if x = 20 then 0 else 1) = l.length + 1
    rw [ih fun y hy => h y (List.mem_cons_of_mem _ hy), if_neg (h x (List.mem_cons_self ..))]
theorem ct_nb (l : List Int) : ct l ≤ nb l := by
  induction l with
  | nil => exact Nat.le_refl 0
  | cons x l ih =>
    show (if x = 21 then ct l + 1 else 0) ≤ nb l + (if x = 20 ∨ x = 21 then 1 else 0)
    by_cases q : x = 21
    · rw [if_pos q, if_pos (Or.inr q)]; omega
    · rw [if_neg q]; omega
theorem tg_b (x : Int) : 1 ≤ tg x ∧ tg x ≤ 6 := by
  unfold tg
  repeat' split
  all_goals omega
theorem vs_b {x : Int} (h : vsE x) : 20 ≤ x ∧ x ≤ 124 := by unfold vsE isOp at h; omega
section
variable {z w : St} {f : Nat} {σ : List Int}
theorem MStk.fr : ∀ {σ : List Int}, MStk z σ → (∀ k, k < σ.length → SA z w 181 k) → MStk w σ := by
  intro σ
  induction σ with
  | nil => intro _ _; trivial
  | cons x l ih => intro h hs; exact ⟨(hs l.length (by show l.length < l.length + 1; omega)).1.trans h.1, ih h.2 fun k hk => hs k (by show k < l.length + 1; omega)⟩
theorem m_tight {x : Int} (h : vsE x) : fn_X12_tight (iI x) w = some (iI ((tg x : Nat) : Int), w) := by
  unfold vsE isOp at h
  rcases h with rfl | rfl | rfl | rfl | rfl | rfl | rfl | rfl | rfl | rfl | rfl | rfl <;> rfl
/-- the reference within a formula -/
def MS (w : St) (f : Nat) (σ : List Int) (o : SL) (u v : Nat) : Prop := w.1 172 20 = iI (f : Int) ∧ MOt f w o ∧ w.1 172 21 = iI (σ.length : Int) ∧ MStk w σ ∧ w.1 172 25 = iI ((nb σ : Nat) : Int) ∧ w.1 172 24 = iI (u : Int) ∧ w.1 172 22 = iI ((u + v : Nat) : Int)
abbrev msF (f : Nat) (a j : Nat) : Prop := (a = 172 ∧ (j = 20 ∨ j = 21 ∨ j = 25 ∨ j = 24 ∨ j = 22)) ∨ a = 181 ∨ ((a = 175 ∨ a = 176) ∧ 320 * f ≤ j ∧ j < 320 * f + 320) ∨ (a = 177 ∧ j = f)
theorem MS.fr {o : SL} {u v : Nat} (h : MS z f σ o u v) (hl : o.length ≤ 320) (hs : ∀ a j, msF f a j → SA z w a j) : MS w f σ o u v := by
  obtain ⟨h1, h2, h3, h4, h5, h6, h7⟩ := h
  exact ⟨(hs 172 20 (by unfold msF; omega)).1.trans h1, h2.fr fun a k q => hs a k (by unfold msF; omega), (hs 172 21 (by unfold msF; omega)).1.trans h3, h4.fr fun k _ => hs 181 k (by unfold msF; omega), (hs 172 25 (by unfold msF; omega)).1.trans h5, (hs 172 24 (by unfold msF; omega)).1.trans h6, (hs 172 22 (by unfold msF; omega)).1.trans h7⟩
/-- where close(l) stops -/
def stpL (l : Nat) : List Int → Prop
  | [] => True
  | x :: _ => x = 20 ∨ tg x < l
abbrev cFr (f : Nat) (a j : Nat) : Prop := ¬ (a = 172 ∧ (j = 21 ∨ j = 25)) ∧ aFr f a j
theorem m_close0 {l u v : Nat} (hf : f < 2) (hl : l ≤ 6) (hσ : stpL l σ) (hv : ∀ x ∈ σ, vsE x) : ∀ (π : List Int) (om : SL) (w : St) (k : Nat), MS w f (π ++ σ) om u v → (∀ x ∈ π, vsE x ∧ x ≠ 20 ∧ l ≤ tg x) → om.length + π.length ≤ 300 → (π ++ σ).length ≤ 160 → π.length < k → ∃ w', fn_X12_close_0 k (iI (l : Int)) w = some w' ∧ MS w' f σ (om ++ fl π) u v ∧ ∀ a j, cFr f a j → SA w w' a j := by
  intro π
  induction π with
  | nil =>
    intro om w k hM _ ho h160 hk
    obtain ⟨k, rfl⟩ : ∃ k', k = k' + 1 := ⟨k - 1, by omega⟩
    refine ⟨w, ?_, ?_, fun _ _ _ => SA.rf⟩
    · have hM' : MS w f σ om u v := hM
      have h160' : σ.length ≤ 160 := h160
      rw [fn_X12_close_0, hM'.2.2.1]
      cases σ with
      | nil => rw [if_pos (show iI (([] : List Int).length : Int) ≤ 0 from by decide)]
      | cons x τ =>
        have hx := hM'.2.2.2.1.1
        have hvx := hv x (List.mem_cons_self ..)
        have hb := vs_b hvx
        have ht := tg_b x
        have el : iI ((x :: τ).length : Int) - 1 = iI (τ.length : Int) := by rw [q_1, iI_sub]; congr 1; show ((τ.length + 1 : Nat) : Int) - 1 = _; omega
        have h161 : τ.length < 160 := by have : τ.length + 1 ≤ 160 := h160'; omega
        rw [if_neg (show ¬ iI ((x :: τ).length : Int) ≤ 0 from by rw [q_0]; exact nle (by show _ ∧ ((τ.length + 1 : Nat) : Int) < _; omega) (by omega) (by show ¬ ((τ.length + 1 : Nat) : Int) ≤ 0; omega)), el, gd_t (iI_ix (by omega)), iI_clampN (by omega), hx]
        rcases hσ with e | e
        · rw [if_pos (show iI x = 20 from by rw [e]; exact q_20.symm)]
        · by_cases e20 : x = 20
          · rw [if_pos (show iI x = 20 from by rw [e20]; exact q_20.symm)]
          · rw [if_neg (show ¬ iI x = 20 from by rw [q_20]; exact neq (by omega) (by omega) e20), gd_t (iI_ix (by omega)), bd_o (m_tight hvx), if_pos (ylt (by omega) (by omega) (by omega))]
    · show MS w f σ (om ++ []) u v
      rw [List.append_nil]
      exact hM
  | cons x π ih =>
    intro om w k hM hπ ho h160 hk
    have ho' : om.length + (π.length + 1) ≤ 300 := ho
    have h160' : (π ++ σ).length + 1 ≤ 160 := h160
    have hk' : π.length + 1 < k := hk
    obtain ⟨k, rfl⟩ : ∃ k', k = k' + 1 := ⟨k - 1, by omega⟩
    obtain ⟨hvx, h20, hlx⟩ := hπ x (List.mem_cons_self ..)
    have hb := vs_b hvx
    have ht := tg_b x
    obtain ⟨m1, m2, m3, m4, m5, m6, m7⟩ := hM
    have m3' : w.1 172 21 = iI (((π ++ σ).length + 1 : Nat) : Int) := m3
    have m4' : w.1 181 (π ++ σ).length = iI x ∧ MStk w (π ++ σ) := m4
    have m5' : w.1 172 25 = iI ((nb (π ++ σ) + (if x = 20 ∨ x = 21 then 1 else 0) : Nat) : Int) := m5
    have el : iI (((π ++ σ).length + 1 : Nat) : Int) - 1 = iI ((π ++ σ).length : Int) := by rw [q_1, iI_sub]; congr 1; omega
    rw [fn_X12_close_0, m3', if_neg (show ¬ iI (((π ++ σ).length + 1 : Nat) : Int) ≤ 0 from by rw [q_0]; exact nle (by omega) (by omega) (by omega)), el, gd_t (iI_ix (by omega)), iI_clampN (by omega), m4'.1, if_neg (show ¬ iI x = 20 from by rw [q_20]; exact neq (by omega) (by omega) h20), gd_t (iI_ix (by omega)), bd_o (m_tight hvx), if_neg (nlt (by omega) (by omega) (by omega)), nm_o, m3', el]
    generalize e1 : sI w 172 21 (iI ((π ++ σ).length : Int)) = w1
    have k1' : ∀ a j, ¬ (a = 172 ∧ j = 21) → SA w w1 a j := fun a j q => sa_I e1.symm q
    have a21 : w1.1 172 21 = iI ((π ++ σ).length : Int) := by rw [← e1, sI_at, if_pos rfl]
    have a20 : w1.1 172 20 = iI (f : Int) := (k1' 172 20 (by omega)).1.trans m1
    have aO : MOt f w1 om := m2.fr fun a j q => k1' a j (by omega)
    have ax : w1.1 181 (π ++ σ).length = iI x := (k1' 181 _ (by omega)).1.trans m4'.1
    rw [a21, gd_t (iI_ix (by omega)), iI_clampN (by omega), ax]
    have fin : ∀ w3 : St, MOt f w3 (om ++ [em x]) → (∀ a j, ¬ (a = 172 ∧ j = 25) → aFr f a j → SA w1 w3 a j) → w3.1 172 25 = iI ((nb (π ++ σ) : Nat) : Int) → ∃ w', fn_X12_close_0 k (iI (l : Int)) w3 = some w' ∧ MS w' f σ (om ++ fl (x :: π)) u v ∧ ∀ a j, cFr f a j → SA w w' a j := by
      intro w3 b1 b2 b3
      have hM3 : MS w3 f (π ++ σ) (om ++ [em x]) u v := ⟨(b2 172 20 (by omega) (by unfold aFr; omega)).1.trans a20, b1, (b2 172 21 (by omega) (by unfold aFr; omega)).1.trans a21, m4'.2.fr fun j _ => (k1' 181 j (by omega)).tr (b2 181 j (by omega) (by unfold aFr; omega)), b3, (b2 172 24 (by omega) (by unfold aFr; omega)).1.trans ((k1' 172 24 (by omega)).1.trans m6), (b2 172 22 (by omega) (by unfold aFr; omega)).1.trans ((k1' 172 22 (by omega)).1.trans m7)⟩
      obtain ⟨w', g1, g2, g3⟩ := ih (om ++ [em x]) w3 k hM3 (fun y hy => hπ y (List.mem_cons_of_mem _ hy)) (by rw [len_s]; omega) (by omega) (by omega)
      refine ⟨w', g1, ?_, fun a j q => ((k1' a j (by unfold cFr at q; omega)).tr (b2 a j (by unfold cFr at q; omega) q.2)).tr (g3 a j q)⟩
      show MS w' f σ (om ++ (em x :: fl π)) u v
      rw [show om ++ (em x :: fl π) = (om ++ [em x]) ++ fl π from by rw [List.append_assoc]; rfl]
      exact g2
    by_cases e21 : x = 21
    · have ee : em x = (2, 0) := if_pos e21
      rw [if_pos (show iI x = 21 from by rw [e21]; exact q_21.symm)]
      obtain ⟨w2, g1, g2, g3⟩ := m_addO hf a20 aO (by omega) 2 0
      rw [show (2 : Int32) = iI ((2 : Nat) : Int) from q_2, q_0, bv_o g1, nm_o]
      have h25 : w2.1 172 25 = iI ((nb (π ++ σ) + 1 : Nat) : Int) := by rw [(g3 172 25 (by unfold aFr; omega)).1, (k1' 172 25 (by omega)).1, m5', if_pos (Or.inr e21)]
      rw [h25]
      refine fin _ ?_ (fun a j q1 q2 => (g3 a j q2).tr (sa_I rfl q1)) ?_
      · rw [ee]; exact g2.fr fun a j q => sa_I rfl (by omega)
      · rw [sI_at, if_pos rfl, q_1, iI_sub]; congr 1; omega
    · have ee : em x = (3, x) := if_neg e21
      rw [if_neg (show ¬ iI x = 21 from by rw [q_21]; exact neq (by omega) (by omega) e21), gd_t (iI_ix (by omega))]
      obtain ⟨w2, g1, g2, g3⟩ := m_addO hf a20 aO (by omega) 3 x
      rw [show (3 : Int32) = iI ((3 : Nat) : Int) from q_3, bv_o g1]
      refine fin w2 (by rw [ee]; exact g2) (fun a j q1 q2 => g3 a j q2) ?_
      rw [(g3 172 25 (by unfold aFr; omega)).1, (k1' 172 25 (by omega)).1, m5', if_neg (by omega)]
      rfl
theorem m_close {l u v : Nat} {π : List Int} {om : SL} (hf : f < 2) (hl : l ≤ 6) (hσ : stpL l σ) (hv : ∀ x ∈ σ, vsE x) (hM : MS w f (π ++ σ) om u v) (hπ : ∀ x ∈ π, vsE x ∧ x ≠ 20 ∧ l ≤ tg x) (ho : om.length + π.length ≤ 300) (h160 : (π ++ σ).length ≤ 160) : ∃ w', fn_X12_close (iI (l : Int)) w = some w' ∧ MS w' f σ (om ++ fl π) u v ∧ ∀ a j, cFr f a j → SA w w' a j :=
  m_close0 hf hl hσ hv π om w fu hM hπ ho h160 (by unfold fu; omega)
/-- a relation waits -/
def hrl : List Int → Bool
  | [] => false
  | x :: l => if x = 20 then false else if 4 < tg x then hrl l else decide (tg x = 4)
theorem m_hasRel0 : ∀ (σ : List Int) (k : Nat), MStk w σ → (∀ x ∈ σ, vsE x) → σ.length ≤ 160 → σ.length < k → fn_X12_hasRelation_7 k (iI ((σ.length : Int) - 1)) w = some (iI (tr (hrl σ = true)), w) := by
  intro σ
  induction σ with
  | nil =>
    intro k _ _ _ hk
    obtain ⟨k, rfl⟩ : ∃ k', k = k' + 1 := ⟨k - 1, by omega⟩
    rw [fn_X12_hasRelation_7, if_pos (show iI ((([] : List Int).length : Int) - 1) < 0 from by decide)]
    unfold fn_X12_hasRelation_41
    rw [if_pos (show iI ((([] : List Int).length : Int) - 1) < 0 from by decide), tr_n (by rw [hrl]; decide), q_0]
  | cons x l ih =>
    intro k hM hv h160 hk
    have hk' : l.length + 1 < k := hk
    have h160' : l.length + 1 ≤ 160 := h160
    obtain ⟨k, rfl⟩ : ∃ k', k = k' + 1 := ⟨k - 1, by omega⟩
    have hvx := hv x (List.mem_cons_self ..)
    have hb := vs_b hvx
    have ht := tg_b x
    have el : iI ((((x :: l).length : Nat) : Int) - 1) = iI (l.length : Int) := by congr 1; show ((l.length + 1 : Nat) : Int) - 1 = _; omega
    have h41 : fn_X12_hasRelation_41 (iI (l.length : Int)) w = some (iI (tr (x ≠ 20 ∧ tg x = 4)), w) := by
      unfold fn_X12_hasRelation_41
      rw [if_neg (show ¬ iI (l.length : Int) < 0 from by rw [q_0]; exact nlt (by omega) (by omega) (by omega)), gd_t (iI_ix (by omega)), iI_clampN (by omega), hM.1]
      by_cases e : x = 20
      · rw [if_pos (show iI x = 20 from by rw [e]; exact q_20.symm), tr_n (fun a => a.1 e), q_0]
      · rw [if_neg (show ¬ iI x = 20 from by rw [q_20]; exact neq (by omega) (by omega) e), gd_t (iI_ix (by omega)), bd_o (m_tight hvx)]
        by_cases e4 : tg x = 4
        · rw [if_pos (show iI ((tg x : Nat) : Int) = 4 from by rw [e4]; exact q_4.symm), tr_1 ⟨e, e4⟩, q_1]
        · rw [if_neg (show ¬ iI ((tg x : Nat) : Int) = 4 from by rw [q_4]; exact neq (by omega) (by omega) (by omega)), tr_n (fun a => e4 a.2), q_0]
    rw [el, fn_X12_hasRelation_7, if_neg (show ¬ iI (l.length : Int) < 0 from by rw [q_0]; exact nlt (by omega) (by omega) (by omega)), gd_t (iI_ix (by omega)), iI_clampN (by omega), hM.1, hrl]
    by_cases e : x = 20
    · rw [if_pos (show iI x = 20 from by rw [e]; exact q_20.symm), h41, if_pos e, tr_n (fun a => a.1 e), tr_n (by decide)]
    · rw [if_neg (show ¬ iI x = 20 from by rw [q_20]; exact neq (by omega) (by omega) e), gd_t (iI_ix (by omega)), bd_o (m_tight hvx), if_neg e]
      by_cases e4 : 4 < tg x
      · rw [if_neg (show ¬ iI ((tg x : Nat) : Int) ≤ 4 from by rw [q_4]; exact nle (by omega) (by omega) (by omega)), if_pos e4, q_m1, iI_add]
        exact ih k hM.2 (fun y hy => hv y (List.mem_cons_of_mem _ hy)) (by omega) (by omega)
      · rw [if_pos (show iI ((tg x : Nat) : Int) ≤ 4 from by rw [q_4]; exact yle (by omega) (by omega) (by omega)), if_neg e4, h41]
        congr 3
        exact tr_c (by rw [decide_eq_true_iff]; exact ⟨fun a => a.2, fun a => ⟨e, a⟩⟩)
theorem m_hasRel {o : SL} {u v : Nat} (hM : MS w f σ o u v) (hv : ∀ x ∈ σ, vsE x) (h160 : σ.length ≤ 160) : fn_X12_hasRelation w = some (iI (tr (hrl σ = true)), w) := by
  unfold fn_X12_hasRelation
  rw [nm_o, hM.2.2.1, q_1, iI_sub]
  exact m_hasRel0 σ fu hM.2.2.2.1 hv h160 (by unfold fu; omega)
/-- a not may stand -/
def mnt : List Int → Bool
  | [] => true
  | x :: _ => decide (x = 20 ∨ tg x < 4)
theorem m_mayNot {o : SL} {u v : Nat} (hM : MS w f σ o u v) (hv : ∀ x ∈ σ, vsE x) (h160 : σ.length ≤ 160) : fn_X12_mayNot w = some (iI (tr (mnt σ = true)), w) := by
  unfold fn_X12_mayNot
  rw [hM.2.2.1]
  cases σ with
  | nil => rw [if_pos (show iI ((([] : List Int).length : Nat) : Int) = 0 from by decide), tr_1 (by rw [mnt]), q_1]
  | cons x l =>
    have h160' : l.length + 1 ≤ 160 := h160
    have hvx := hv x (List.mem_cons_self ..)
    have hb := vs_b hvx
    have ht := tg_b x
    have el : iI (((x :: l).length : Nat) : Int) - 1 = iI (l.length : Int) := by rw [q_1, iI_sub]; congr 1; show ((l.length + 1 : Nat) : Int) - 1 = _; omega
    rw [if_neg (show ¬ iI (((x :: l).length : Nat) : Int) = 0 from by rw [q_0]; exact neq (by show _ ∧ ((l.length + 1 : Nat) : Int) < _; omega) (by omega) (by show ¬ ((l.length + 1 : Nat) : Int) = 0; omega)), el, gd_t (iI_ix (by omega)), iI_clampN (by omega), hM.2.2.2.1.1, mnt]
    by_cases e : x = 20
    · rw [if_pos (show iI x = 20 from by rw [e]; exact q_20.symm), tr_1 (by rw [decide_eq_true_iff]; exact Or.inl e), q_1]
    · rw [if_neg (show ¬ iI x = 20 from by rw [q_20]; exact neq (by omega) (by omega) e), gd_t (iI_ix (by omega)), bd_o (m_tight hvx)]
      by_cases e4 : 4 ≤ tg x
      · rw [if_pos (show (4 : Int32) ≤ iI ((tg x : Nat) : Int) from by rw [q_4]; exact yle (by omega) (by omega) (by omega)), tr_n (by rw [decide_eq_true_iff]; omega), q_0]
      · rw [if_neg (show ¬ (4 : Int32) ≤ iI ((tg x : Nat) : Int) from by rw [q_4]; exact nle (by omega) (by omega) (by omega)), tr_1 (by rw [decide_eq_true_iff]; omega), q_1]
/-- a bracket waits -/
theorem MStk_get : ∀ {σ : List Int}, MStk w σ → ∀ i, i < σ.length → w.1 181 i = iI (σ.getD (σ.length - 1 - i) 0) := by
  intro σ
  induction σ with
  | nil => intro _ i hi; exact absurd hi (Nat.not_lt_zero i)
  | cons x l ih =>
    intro h i hi
    have hi' : i < l.length + 1 := hi
    by_cases e : i = l.length
    · rw [e, show (x :: l).length - 1 - l.length = 0 from by show l.length + 1 - 1 - l.length = 0; omega]
      exact h.1
    · rw [ih h.2 i (by omega), show (x :: l).length - 1 - i = (l.length - 1 - i) + 1 from by show l.length + 1 - 1 - i = _; omega]
      rfl
def hbk (σ : List Int) : Nat → Bool
  | 0 => false
  | i + 1 => hbk σ i || decide (σ.getD (σ.length - 1 - i) 0 = 20)
theorem hbk_y : ∀ {σ : List Int}, 20 ∈ σ → hbk σ σ.length = true := by
  have key : ∀ (σ : List Int) (n : Nat), (∃ j, j < n ∧ σ.getD (σ.length - 1 - j) 0 = 20) → hbk σ n = true := by
    intro σ n
    induction n with
    | zero => intro ⟨j, hj, _⟩; omega
    | succ n ih =>
      intro ⟨j, hj, h⟩
      rw [hbk]
      by_cases e : j = n
      · rw [← e, decide_eq_true h, Bool.or_true]
      · rw [ih ⟨j, by omega, h⟩, Bool.true_or]
  intro σ h
  refine key σ σ.length ?_
  obtain ⟨i, hi, h⟩ := List.mem_iff_getElem.mp h
  refine ⟨σ.length - 1 - i, by omega, ?_⟩
  rw [show σ.length - 1 - (σ.length - 1 - i) = i from by omega, List.getD_eq_getElem?_getD, List.getElem?_eq_getElem hi, h]
  rfl
theorem hbk_n {σ : List Int} (h : 20 ∉ σ) : ∀ n, n ≤ σ.length → hbk σ n = false := by
  intro n
  induction n with
  | zero => intro _; rfl
  | succ n ih =>
    intro hn
    rw [hbk, ih (by omega), Bool.false_or]
    refine decide_eq_false fun e => h ?_
    rw [List.getD_eq_getElem?_getD, List.getElem?_eq_getElem (show σ.length - 1 - n < σ.length from by omega)] at e
    exact List.mem_iff_getElem.mpr ⟨_, _, e⟩
theorem m_hasBr {o : SL} {u v : Nat} (hM : MS w f σ o u v) (hv : ∀ x ∈ σ, vsE x) (h160 : σ.length ≤ 160) : fn_X12_hasBracket w = some (iI (tr (hbk σ σ.length = true)), w) := by
  obtain ⟨m, hm⟩ := loopK (fun m i => fn_X12_hasBracket_4 m (iI (tr (hbk σ i = true))) (iI (i : Int)) w) σ.length (by omega) (fun i m hi => by
    show fn_X12_hasBracket_4 (m + 1) _ _ _ = fn_X12_hasBracket_4 m _ _ _
    have hvi : vsE (σ.getD (σ.length - 1 - i) 0) := by
      refine hv _ ?_
      rw [List.getD_eq_getElem?_getD, List.getElem?_eq_getElem (show σ.length - 1 - i < σ.length from by omega)]
      exact List.getElem_mem _
    have hb := vs_b hvi
    rw [fn_X12_hasBracket_4, hM.2.2.1, if_neg (nle (by omega) (by omega) (by omega)), hbk]
    unfold fn_X12_hasBracket_27 fn_X12_hasBracket_32
    rw [k1]
    by_cases q : hbk σ i = true
    · rw [tr_1 q, if_neg (show ¬ iI 1 = 0 from by decide), q, tr_1 (by rw [Bool.true_or]), q_1]
    · rw [tr_n q, if_pos (show iI 0 = 0 from q_0.symm), gd_t (iI_ix (by omega)), iI_clampN (by omega), MStk_get hM.2.2.2.1 i hi, Bool.eq_false_iff.mpr q, Bool.false_or]
      by_cases e : σ.getD (σ.length - 1 - i) 0 = 20
      · rw [if_pos (show iI (σ.getD (σ.length - 1 - i) 0) = 20 from by rw [e]; exact q_20.symm), tr_1 (decide_eq_true e), q_1]
      · rw [if_neg (show ¬ iI (σ.getD (σ.length - 1 - i) 0) = 20 from by rw [q_20]; exact neq (by omega) (by omega) e), tr_n (by rw [decide_eq_true_iff]; exact e), q_0])
  unfold fn_X12_hasBracket
  refine (show _ = fn_X12_hasBracket_4 fu (iI (tr (hbk σ 0 = true))) (iI ((0 : Nat) : Int)) w from by rw [z0, tr_n (by rw [hbk]; decide), ← q_0]).trans (hm.trans ?_)
  show fn_X12_hasBracket_4 (m + 1) _ _ _ = _
  rw [fn_X12_hasBracket_4, hM.2.2.1, if_pos (yle (by omega) (by omega) (by omega)), gd_t (tr_z _)]
end
