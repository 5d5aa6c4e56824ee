section
variable {z w : St} {c : RC} {F0 F1 : FO} {b : BD}
/-! x keeps wants from the greatest on, with counts beside them -/
def AE (e : Nat → Int) (z : St) : List Nat → Prop
  | [] => True
  | a :: t => z.1 155 t.length = iI (e a) ∧ AE e z t
theorem AE.fr {e : Nat → Int} {z w : St} : ∀ {l : List Nat}, AE e z l → (∀ j, j < l.length → w.1 155 j = z.1 155 j) → AE e w l := by
  intro l
  induction l with
  | nil => intro _ _; exact trivial
  | cons a t ih => intro h hs; exact ⟨(hs t.length (by simp)).trans h.1, ih h.2 fun j hj => hs j (by simp; omega)⟩
theorem x_add15 {v : Nat} (hv : v ≤ 2000) : ∀ (r : List Nat) (m : Nat) (z : St), AR 154 z r → r.length < 6 → r.length < m → (∀ x ∈ r, x ≤ 2000) → ∃ w, fn_X8_addWanted_15 m (iI (v : Int)) (iI (r.length : Int)) z = some (sI w 153 4 (w.1 153 4 + 1)) ∧ AR 154 w (insA v r) ∧ ∀ a j, a ≠ 154 ∨ r.length < j → SA z w a j := by
  intro r
  induction r with
  | nil =>
    intro m z h1 h2 h3 h4
    obtain ⟨m, rfl⟩ : ∃ k, m = k + 1 := ⟨m - 1, by simp at h3; omega⟩
    rw [fn_X8_addWanted_15, if_pos (by decide)]
    unfold fn_X8_addWanted_51
    rw [gd_t (iI_ix (by simp)), nm_o, nm_o, iI_clampN (by simp)]
    refine ⟨_, rfl, ⟨by rw [sI_at, if_pos rfl], trivial⟩, fun a j h => sa_I rfl (by rw [List.length_nil] at h; show ¬ (a = 154 ∧ j = 0); omega)⟩
  | cons a t ih =>
    intro m z h1 h2 h3 h4
    rw [List.length_cons] at h2 h3
    obtain ⟨m, rfl⟩ : ∃ k, m = k + 1 := ⟨m - 1, by omega⟩
    have ha := h4 a (List.mem_cons_self ..)
    have e1 : iI (((a :: t).length : Nat) : Int) - 1 = iI (t.length : Int) := by rw [q_1, iI_sub, List.length_cons]; congr 1; omega
    rw [fn_X8_addWanted_15, if_neg (by rw [q_0]; exact nle (by rw [List.length_cons]; omega) (by omega) (by rw [List.length_cons]; omega)), e1, gd_t (iI_ix (by omega)), iI_clampN (by omega), h1.1, insA]
    by_cases hva : a < v
    · rw [if_neg (nle (by omega) (by omega) (by omega)), gd_t (iI_ix (by omega)), gd_t (iI_ix (by rw [List.length_cons]; omega)), nm_o, iI_clampN (by rw [List.length_cons]; omega), if_pos hva, show iI (((a :: t).length : Nat) : Int) + -1 = iI (t.length : Int) from by rw [q_m1, iI_add, List.length_cons]; congr 1; omega]
      obtain ⟨w, g1, g2, g3⟩ := ih m (sI z 154 (a :: t).length (iI (a : Int))) (h1.2.fr fun j hj => by rw [sI_at, if_neg (by rw [List.length_cons]; omega)]) (by omega) (by omega) fun x hx => h4 x (List.mem_cons_of_mem _ hx)
      refine ⟨w, g1, ⟨?_, g2⟩, fun a' j h => (sa_I rfl (by rw [List.length_cons] at h ⊢; omega)).tr (g3 a' j (by rw [List.length_cons] at h; omega))⟩
      rw [insA_len, (g3 154 (t.length + 1) (Or.inr (by omega))).1, sI_at, if_pos (by rw [List.length_cons])]
    · rw [if_pos (yle (by omega) (by omega) (by omega)), if_neg hva]
      unfold fn_X8_addWanted_51
      rw [gd_t (iI_ix (by rw [List.length_cons]; omega)), nm_o, nm_o, iI_clampN (by rw [List.length_cons]; omega)]
      refine ⟨_, rfl, ⟨by rw [sI_at, if_pos rfl], AR.fr h1 fun j hj => by rw [sI_at, if_neg (by rw [List.length_cons] at hj ⊢; omega)]⟩, fun a j h => sa_I rfl (by omega)⟩
/-- x's state while it serves: wants l, counts e -/
def SX (z : St) (l : List Nat) (e : Nat → Int) : Prop := z.1 153 4 = iI (l.length : Int) ∧ AR 154 z l ∧ AE e z l ∧ l.length ≤ 6 ∧ (∀ x ∈ l, x ≤ 2000)
theorem SX.ex {l : List Nat} {e f : Nat → Int} (h : SX z l e) (hf : ∀ x ∈ l, f x = e x) : SX z l f := by
  refine ⟨h.1, h.2.1, ?_, h.2.2.2⟩
  have : ∀ l : List Nat, AE e z l → (∀ x ∈ l, f x = e x) → AE f z l := by
    intro l
    induction l with
    | nil => intro _ _; exact trivial
    | cons a t ih => intro h1 h2; exact ⟨by rw [h2 a (List.mem_cons_self ..)]; exact h1.1, ih h1.2 fun x hx => h2 x (List.mem_cons_of_mem _ hx)⟩
  exact this l h.2.2.1 hf
theorem SX.fr {l : List Nat} {e : Nat → Int} (h : SX z l e) (hs : ∀ a j, (a = 153 ∧ j = 4) ∨ a = 154 ∨ a = 155 → SA z w a j) : SX w l e :=
  ⟨(hs _ _ (by omega)).1.trans h.1, h.2.1.fr fun j _ => (hs 154 j (by omega)).1, h.2.2.1.fr fun j _ => (hs 155 j (by omega)).1, h.2.2.2⟩
/-- reading a row by place -/
theorem AR.at {pl : Nat} : ∀ {l : List Nat}, AR pl z l → ∀ t, t <:+ l → ∀ a u, t = a :: u → z.1 pl u.length = iI (a : Int) := by
  intro l
  induction l with
  | nil => intro _ t ht a u e; rw [List.suffix_nil.mp ht] at e; cases e
  | cons b l ih =>
    intro h t ht a u e
    rcases List.suffix_cons_iff.mp ht with e' | e'
    · rw [e'] at e; cases e; exact h.1
    · exact ih h.2 t e' a u e
theorem x_count {l : List Nat} {e : Nat → Int} {A : Nat} {by' : Int} (h : SX z l e) (hA : A ≤ 2000) : ∃ w, fn_X8_count (iI (A : Int)) (iI by') z = some w ∧ SX w l (fun x => e x + (if x ≤ A then by' else 0)) ∧ ∀ a j, a ≠ 155 → SA z w a j := by
  obtain ⟨h1, h2, h3, h4, h5⟩ := h
  -- the loop goes from the last of the list on
  have run : ∀ (n : Nat) (u : List Nat), u.length = n → u <:+ l → ∀ (m : Nat), ∃ s : St, (AE (fun x => e x + (if x ≤ A then by' else 0)) s u ∧ (∀ a j, ¬ (a = 155 ∧ j < u.length) → SA z s a j)) ∧ fn_X8_count_2 (m + n) (iI (A : Int)) (iI by') 0 z = fn_X8_count_2 m (iI (A : Int)) (iI by') (iI (n : Int)) s := by
    intro n
    induction n with
    | zero =>
      intro u hu _ m
      have : u = [] := List.eq_nil_of_length_eq_zero hu
      subst this
      exact ⟨z, ⟨trivial, fun a j _ => SA.rf⟩, by rw [z0]; rfl⟩
    | succ n ih =>
      intro u hu hs m
      obtain ⟨a, t, rfl⟩ : ∃ a t, u = a :: t := by
        cases u with
        | nil => simp at hu
        | cons a t => exact ⟨a, t, rfl⟩
      have htl : t.length = n := by rw [List.length_cons] at hu; omega
      have hts : t <:+ l := (List.suffix_cons a t).trans hs
      obtain ⟨s, ⟨g1, g2⟩, g3⟩ := ih t htl hts (m + 1)
      have hll : (a :: t).length ≤ l.length := hs.length_le
      rw [List.length_cons] at hll
      have ha := h5 a (hs.mem (List.mem_cons_self ..))
      have v154 : s.1 154 n = iI (a : Int) := by rw [(g2 154 n (by omega)).1, ← htl]; exact h2.at _ hs a t rfl
      have v155 : s.1 155 n = iI (e a) := by
        rw [(g2 155 n (by omega)).1, ← htl]
        have : ∀ {l : List Nat}, AE e z l → ∀ t, t <:+ l → ∀ a u, t = a :: u → z.1 155 u.length = iI (e a) := by
          intro l
          induction l with
          | nil => intro _ t ht a u e; rw [List.suffix_nil.mp ht] at e; cases e
          | cons b l ih =>
            intro h t ht a u e
            rcases List.suffix_cons_iff.mp ht with e' | e'
            · rw [e'] at e; cases e; exact h.1
            · exact ih h.2 t e' a u e
        exact this h3 _ hs a t rfl
      rw [show m + (n + 1) = m + 1 + n from by omega, g3, fn_X8_count_2, (g2 153 4 (by omega)).1, h1, if_neg (nle (by omega) (by omega) (by omega)), gd_t (iI_ix (by omega)), iI_clampN (by omega), v154]
      unfold fn_X8_count_30
      rw [k1]
      by_cases hle : a ≤ A
      · rw [if_neg (nlt (by omega) (by omega) (by omega)), gd_t (iI_ix (by omega)), gd_t (iI_ix (by omega)), nm_o, v155, iI_add]
        refine ⟨_, ⟨⟨?_, g1.fr fun j hj => by rw [sI_at, if_neg (by omega)]⟩, fun a' j hj => (g2 a' j (by rw [List.length_cons] at hj; omega)).tr (sa_I rfl (by rw [List.length_cons] at hj; omega))⟩, rfl⟩
        rw [htl, sI_at, if_pos rfl]
        dsimp only
        rw [if_pos hle]
      · rw [if_pos (ylt (by omega) (by omega) (by omega))]
        refine ⟨s, ⟨⟨?_, g1⟩, fun a' j hj => g2 a' j (by rw [List.length_cons] at hj; omega)⟩, rfl⟩
        rw [htl, v155]
        dsimp only
        rw [if_neg hle, Int.add_zero]
  obtain ⟨s, ⟨g1, g2⟩, g3⟩ := run l.length l rfl (List.suffix_refl l) (999999 - l.length + 1)
  rw [show 999999 - l.length + 1 + l.length = fu from by unfold fu; omega] at g3
  refine ⟨s, ?_, ⟨(g2 153 4 (by omega)).1.trans h1, h2.fr fun j _ => (g2 154 j (by omega)).1, g1, h4, h5⟩, fun a j ha => g2 a j (by omega)⟩
  unfold fn_X8_count
  rw [g3, fn_X8_count_2, (g2 153 4 (by omega)).1, h1, if_pos (yle (by omega) (by omega) (by omega))]
theorem x_matched {l : List Nat} {e : Nat → Int} (h : SX z l e) (he : ∀ x ∈ l, -2147483648 ≤ e x ∧ e x < 2147483648) : fn_X8_matched z = some (iI (svI e l), z) := by
  obtain ⟨h1, h2, h3, h4, h5⟩ := h
  have run : ∀ (n : Nat) (u : List Nat), u.length = n → u <:+ l → ∀ (m : Nat), fn_X8_matched_4 (m + n) 0 0 z = fn_X8_matched_4 m (iI (svI e u)) (iI (n : Int)) z := by
    intro n
    induction n with
    | zero =>
      intro u hu _ m
      have : u = [] := List.eq_nil_of_length_eq_zero hu
      subst this
      rw [z0, show iI (svI e []) = 0 from q_0.symm]; rfl
    | succ n ih =>
      intro u hu hs m
      obtain ⟨a, t, rfl⟩ : ∃ a t, u = a :: t := by
        cases u with
        | nil => simp at hu
        | cons a t => exact ⟨a, t, rfl⟩
      have htl : t.length = n := by rw [List.length_cons] at hu; omega
      have hts : t <:+ l := (List.suffix_cons a t).trans hs
      have hll : (a :: t).length ≤ l.length := hs.length_le
      rw [List.length_cons] at hll
      have hb := svI_b e t
      have hea := he a (hs.mem (List.mem_cons_self ..))
      have v155 : z.1 155 n = iI (e a) := by
        rw [← htl]
        have : ∀ {l : List Nat}, AE e z l → ∀ t, t <:+ l → ∀ a u, t = a :: u → z.1 155 u.length = iI (e a) := by
          intro l
          induction l with
          | nil => intro _ t ht a u e; rw [List.suffix_nil.mp ht] at e; cases e
          | cons b l ih =>
            intro h t ht a u e
            rcases List.suffix_cons_iff.mp ht with e' | e'
            · rw [e'] at e; cases e; exact h.1
            · exact ih h.2 t e' a u e
        exact this h3 _ hs a t rfl
      rw [show m + (n + 1) = m + 1 + n from by omega, ih t htl hts (m + 1), fn_X8_matched_4, h1, if_neg (nle (by omega) (by omega) (by omega)), gd_t (iI_ix (by omega)), iI_clampN (by omega), v155, svI]
      unfold fn_X8_matched_25
      rw [k1]
      by_cases hlt : svI e t < e a
      · rw [if_neg (nle (by omega) (by omega) (by omega)), if_pos hlt, q_1, iI_add]
      · rw [if_pos (yle (by omega) (by omega) (by omega)), if_neg hlt]
  have g3 := run l.length l rfl (List.suffix_refl l) (999999 - l.length + 1)
  rw [show 999999 - l.length + 1 + l.length = fu from by unfold fu; omega] at g3
  unfold fn_X8_matched
  rw [g3, fn_X8_matched_4, h1, if_pos (yle (by omega) (by omega) (by omega))]
end
