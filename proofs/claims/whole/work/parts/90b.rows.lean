/-! rows that are kept in order -/
/-- a row in places 0, 1, ..: the list's head lies last -/
def AR (pl : Nat) (z : St) : List Nat → Prop
  | [] => True
  | a :: t => z.1 pl t.length = iI (a : Int) ∧ AR pl z t
theorem AR.fr {pl : Nat} {z w : St} : ∀ {l : List Nat}, AR pl z l → (∀ j, j < l.length → w.1 pl j = z.1 pl j) → AR pl w l := by
  intro l
  induction l with
  | nil => intro _ _; exact trivial
  | cons a t ih => intro h hs; exact ⟨(hs t.length (by simp)).trans h.1, ih h.2 fun j hj => hs j (by simp; omega)⟩
theorem AR.get {pl : Nat} {z : St} : ∀ {l : List Nat}, AR pl z l → ∀ (i x : Nat), l.reverse[i]? = some x → z.1 pl i = iI (x : Int) := by
  intro l
  induction l with
  | nil => intro _ i x h; simp at h
  | cons a t ih =>
    intro h i x hx
    rw [List.reverse_cons] at hx
    by_cases hi : i < t.length
    · rw [List.getElem?_append_left (by simpa using hi)] at hx
      exact ih h.2 i x hx
    · have hl := (List.getElem?_eq_some_iff.mp hx).1
      simp at hl
      have : i = t.length := by omega
      subst this
      rw [List.getElem?_append_right (by simp)] at hx
      simp at hx
      rw [← hx]
      exact h.1
/-- the reference's way: the greatest lies first -/
def insR (v : Nat) : List Nat → List Nat
  | [] => [v]
  | a :: t => if v < a then a :: insR v t else v :: a :: t
/-- x's way: the least lies first -/
def insA (v : Nat) : List Nat → List Nat
  | [] => [v]
  | a :: t => if a < v then a :: insA v t else v :: a :: t
theorem insR_len (v : Nat) : ∀ l, (insR v l).length = l.length + 1 := by
  intro l
  induction l with
  | nil => rfl
  | cons a t ih => rw [insR]; split <;> simp [ih]
theorem insA_len (v : Nat) : ∀ l, (insA v l).length = l.length + 1 := by
  intro l
  induction l with
  | nil => rfl
  | cons a t ih => rw [insA]; split <;> simp [ih]
theorem insA_mem {v x : Nat} : ∀ {l : List Nat}, x ∈ insA v l → x = v ∨ x ∈ l := by
  intro l
  induction l with
  | nil => intro h; rw [insA] at h; simp at h; exact Or.inl h
  | cons a t ih =>
    intro h
    rw [insA] at h
    split at h
    · rcases List.mem_cons.mp h with e | e
      · exact Or.inr (e ▸ List.mem_cons_self ..)
      · rcases ih e with e | e
        · exact Or.inl e
        · exact Or.inr (List.mem_cons_of_mem _ e)
    · rcases List.mem_cons.mp h with e | e
      · exact Or.inl e
      · exact Or.inr e
theorem insA_up {v : Nat} : ∀ {l : List Nat}, sv_up l → sv_up (insA v l) := by
  intro l
  induction l with
  | nil => intro _; exact ⟨fun b hb => (by cases hb), trivial⟩
  | cons a t ih =>
    intro h
    rw [insA]
    split
    · rename_i hav
      refine ⟨fun b hb => ?_, ih h.2⟩
      rcases insA_mem hb with e | e
      · omega
      · exact h.1 b e
    · rename_i hav
      refine ⟨fun b hb => ?_, h⟩
      rcases List.mem_cons.mp hb with e | e
      · omega
      · have := h.1 b e; omega
theorem all_same {a : Nat} : ∀ (l : List Nat), (∀ b ∈ l, a ≤ b) → (∀ b ∈ l, b ≤ a) → a :: l = l ++ [a] := by
  intro l
  induction l with
  | nil => intro _ _; rfl
  | cons b t ih2 =>
    intro h1 h2
    have hb : b = a := by have := h1 b (List.mem_cons_self ..); have := h2 b (List.mem_cons_self ..); omega
    rw [hb, List.cons_append, ← ih2 (fun x hx => h1 x (List.mem_cons_of_mem _ hx)) fun x hx => h2 x (List.mem_cons_of_mem _ hx)]
theorem insA_all {v : Nat} : ∀ {l : List Nat}, (∀ b ∈ l, b ≤ v) → sv_up l → insA v l = l ++ [v] := by
  intro l
  induction l with
  | nil => intro _ _; rfl
  | cons a t ih =>
    intro h hu
    have ha := h a (List.mem_cons_self ..)
    rw [insA]
    by_cases hav : a < v
    · rw [if_pos hav, ih (fun b hb => h b (List.mem_cons_of_mem _ hb)) hu.2]; rfl
    · have : a = v := by omega
      rw [if_neg hav]
      subst this
      rw [List.cons_append, ← all_same t (fun b hb => hu.1 b hb) fun b hb => h b (List.mem_cons_of_mem _ hb)]
theorem insA_app {v a : Nat} (hva : v < a) : ∀ {l : List Nat}, insA v (l ++ [a]) = insA v l ++ [a] := by
  intro l
  induction l with
  | nil =>
    show (if a < v then a :: insA v [] else v :: [a]) = _
    rw [if_neg (by omega)]; rfl
  | cons b t ih =>
    rw [List.cons_append, insA, insA]
    split
    · rw [ih]; rfl
    · rfl
theorem sv_up_app {a : Nat} : ∀ {l : List Nat}, sv_up (l ++ [a]) → sv_up l ∧ ∀ b ∈ l, b ≤ a := by
  intro l
  induction l with
  | nil => intro _; exact ⟨trivial, fun b hb => (by cases hb)⟩
  | cons b t ih =>
    intro h
    obtain ⟨i1, i2⟩ := ih h.2
    refine ⟨⟨fun x hx => h.1 x (List.mem_append_left _ hx), i1⟩, fun x hx => ?_⟩
    rcases List.mem_cons.mp hx with e | e
    · rw [e]; exact h.1 a (List.mem_append_right _ (List.mem_singleton.mpr rfl))
    · exact i2 x e
/-- both ways keep the same row -/
theorem ins_same {v : Nat} : ∀ {r : List Nat}, sv_up r.reverse → (insR v r).reverse = insA v r.reverse := by
  intro r
  induction r with
  | nil => intro _; rfl
  | cons a t ih =>
    intro h
    rw [List.reverse_cons] at h ⊢
    obtain ⟨h1, h2⟩ := sv_up_app h
    rw [insR]
    by_cases hva : v < a
    · rw [if_pos hva, List.reverse_cons, ih h1, insA_app hva]
    · rw [if_neg hva, List.reverse_cons, List.reverse_cons]
      refine (insA_all (fun b hb => ?_) h).symm
      rcases List.mem_append.mp hb with e | e
      · have := h2 b e; omega
      · rw [List.mem_singleton] at e; omega
theorem sv_cnt_app (w : Nat) : ∀ (l m : List Nat), sv_cnt (l ++ m) w = sv_cnt l w + sv_cnt m w := by
  intro l
  induction l with
  | nil => intro m; simp [sv_cnt]
  | cons a t ih => intro m; rw [List.cons_append, sv_cnt, sv_cnt, ih]; omega
theorem sv_cnt_ins (v w : Nat) : ∀ l, sv_cnt (insA v l) w = sv_cnt l w + (if w ≤ v then 1 else 0) := by
  intro l
  induction l with
  | nil => simp [insA, sv_cnt]
  | cons a t ih =>
    rw [insA]
    split
    · rw [sv_cnt, sv_cnt, ih]; omega
    · rw [sv_cnt, sv_cnt]; omega
/-- the row of those for whom a word holds -/
def WL (C : Nat → Bool) (V : Nat → Nat) : Nat → List Nat
  | 0 => []
  | k + 1 => if C k then insA (V k) (WL C V k) else WL C V k
def WR (C : Nat → Bool) (V : Nat → Nat) : Nat → List Nat
  | 0 => []
  | k + 1 => if C k then insR (V k) (WR C V k) else WR C V k
theorem WL_up {C : Nat → Bool} {V : Nat → Nat} : ∀ k, sv_up (WL C V k) := by
  intro k
  induction k with
  | zero => exact trivial
  | succ k ih => rw [WL]; split; exact insA_up ih; exact ih
theorem WL_WR {C : Nat → Bool} {V : Nat → Nat} : ∀ k, (WR C V k).reverse = WL C V k := by
  intro k
  induction k with
  | zero => rfl
  | succ k ih =>
    rw [WL, WR]
    by_cases h : C k = true
    · rw [if_pos h, if_pos h, ins_same (by rw [ih]; exact WL_up k), ih]
    · rw [if_neg h, if_neg h, ih]
theorem WL_len {C : Nat → Bool} {V : Nat → Nat} : ∀ k, (WL C V k).length ≤ k := by
  intro k
  induction k with
  | zero => exact Nat.le_refl 0
  | succ k ih => rw [WL]; split; rw [insA_len]; omega; omega
theorem WR_len {C : Nat → Bool} {V : Nat → Nat} (k : Nat) : (WR C V k).length ≤ k := by
  rw [← List.length_reverse, WL_WR]; exact WL_len k
def cA (C : Nat → Bool) (V : Nat → Nat) (w : Nat) : Nat → Nat
  | 0 => 0
  | k + 1 => cA C V w k + (if C k ∧ w ≤ V k then 1 else 0)
theorem WL_cnt {C : Nat → Bool} {V : Nat → Nat} (w : Nat) : ∀ k, sv_cnt (WL C V k) w = cA C V w k := by
  intro k
  induction k with
  | zero => rfl
  | succ k ih =>
    rw [WL, cA]
    by_cases h : C k = true
    · rw [if_pos h, sv_cnt_ins, ih]
      by_cases hw : w ≤ V k
      · rw [if_pos hw, if_pos ⟨h, hw⟩]
      · rw [if_neg hw, if_neg fun q => hw q.2]
    · rw [if_neg h, if_neg fun q => h q.1, ih]; rfl
theorem WL_bound {C : Nat → Bool} {V : Nat → Nat} {B : Nat} : ∀ k, (∀ i, i < k → C i = true → V i ≤ B) → ∀ x ∈ WL C V k, x ≤ B := by
  intro k
  induction k with
  | zero => intro _ x hx; cases hx
  | succ k ih =>
    intro h x hx
    rw [WL] at hx
    split at hx
    · rename_i hc
      rcases insA_mem hx with e | e
      · rw [e]; exact h k (by omega) hc
      · exact ih (fun i hi => h i (by omega)) x e
    · exact ih (fun i hi => h i (by omega)) x hx
/-- the passes, with counts as whole numbers -/
def svI (e : Nat → Int) : List Nat → Int
  | [] => 0
  | d :: ds => if svI e ds < e d then svI e ds + 1 else svI e ds
theorem svI_e {c : Nat → Nat} : ∀ l, svI (fun w => (c w : Int)) l = (sv_de c l : Int) := by
  intro l
  induction l with
  | nil => rfl
  | cons d ds ih =>
    rw [svI, sv_de, ih]
    by_cases h : sv_de c ds < c d
    · rw [if_pos h, if_pos (by omega)]; rfl
    · rw [if_neg h, if_neg (by omega)]
theorem svI_b (e : Nat → Int) : ∀ l, 0 ≤ svI e l ∧ svI e l ≤ l.length := by
  intro l
  induction l with
  | nil => exact ⟨Int.le_refl 0, Int.le_refl 0⟩
  | cons d ds ih => rw [svI, List.length_cons]; split <;> omega
theorem svI_ext {e f : Nat → Int} : ∀ l, (∀ x ∈ l, e x = f x) → svI e l = svI f l := by
  intro l
  induction l with
  | nil => intro _; rfl
  | cons d ds ih => intro h; rw [svI, svI, ih fun x hx => h x (List.mem_cons_of_mem _ hx), h d (List.mem_cons_self ..)]
