/-! who can be served: the greedy pass over sorted rows, and the pass from the greatest want on by counts -/
/-- how many areas are w at least -/
def sv_cnt : List Nat → Nat → Nat
  | [], _ => 0
  | a :: as, w => (if w ≤ a then 1 else 0) + sv_cnt as w
/-- areas and wants from the least on: each area serves the next want, if it is enough -/
def sv_gr : List Nat → List Nat → Nat
  | [], _ => 0
  | _ :: _, [] => 0
  | a :: as, d :: ds => if d ≤ a then 1 + sv_gr as ds else sv_gr as (d :: ds)
/-- a row from the least on -/
def sv_up : List Nat → Prop
  | [] => True
  | a :: as => (∀ b ∈ as, a ≤ b) ∧ sv_up as
/-- the k least wants can be served: of those from the j-th on each area that feeds one feeds the j-th -/
def sv_ok (as ds : List Nat) (k : Nat) : Prop := ∀ j d, j < k → ds[j]? = some d → k ≤ sv_cnt as d + j
theorem sv_cnt_le (as : List Nat) (w : Nat) : sv_cnt as w ≤ as.length := by
  induction as with
  | nil => exact Nat.le_refl _
  | cons a as ih => simp only [sv_cnt, List.length_cons]; split <;> omega
theorem sv_cnt_all {as : List Nat} {w : Nat} (h : ∀ b ∈ as, w ≤ b) : sv_cnt as w = as.length := by
  induction as with
  | nil => rfl
  | cons a as ih =>
    simp only [sv_cnt, List.length_cons]
    rw [if_pos (h a List.mem_cons_self), ih (fun b hb => h b (List.mem_cons_of_mem _ hb))]
    omega
theorem sv_cnt_anti (as : List Nat) {v w : Nat} (h : v ≤ w) : sv_cnt as w ≤ sv_cnt as v := by
  induction as with
  | nil => exact Nat.le_refl _
  | cons a as ih =>
    simp only [sv_cnt]
    by_cases h1 : w ≤ a
    · rw [if_pos h1, if_pos (Nat.le_trans h h1)]; omega
    · rw [if_neg h1]; split <;> omega
theorem sv_up_ge {d : Nat} {ds : List Nat} (h : sv_up (d :: ds)) {j x : Nat} (hx : (d :: ds)[j]? = some x) : d ≤ x := by
  cases j with
  | zero => simp at hx; omega
  | succ j => simp at hx; exact h.1 x (List.mem_of_getElem? hx)
/-- what can be served is served -/
theorem sv_gr_ge : ∀ (as ds : List Nat), sv_up as → sv_up ds → ∀ k, k ≤ ds.length → sv_ok as ds k → k ≤ sv_gr as ds := by
  intro as
  induction as with
  | nil =>
    intro ds _ _ k hk h
    cases k with
    | zero => exact Nat.zero_le _
    | succ k =>
      cases ds with
      | nil => simp at hk
      | cons d ds =>
        have := h 0 d (by omega) rfl
        simp [sv_cnt] at this
  | cons a as ih =>
    intro ds hu hd k hk h
    cases ds with
    | nil => simp at hk; subst hk; exact Nat.zero_le _
    | cons d ds =>
      simp only [sv_gr]
      by_cases hda : d ≤ a
      · rw [if_pos hda]
        cases k with
        | zero => exact Nat.zero_le _
        | succ k =>
          have hk2 : k ≤ ds.length := by simp at hk; omega
          have h0 := h 0 d (by omega) rfl
          have hlen : k ≤ as.length := by
            have := sv_cnt_le (a :: as) d
            simp at this
            omega
          have key : sv_ok as ds k := by
            intro j x hj hx
            have hjx := h (j + 1) x (by omega) (by simpa using hx)
            simp only [sv_cnt] at hjx
            by_cases hxa : x ≤ a
            · have hall : sv_cnt as x = as.length := sv_cnt_all (fun b hb => Nat.le_trans hxa (hu.1 b hb))
              omega
            · rw [if_neg hxa] at hjx; omega
          have := ih ds hu.2 hd.2 k hk2 key
          omega
      · rw [if_neg hda]
        refine ih (d :: ds) hu.2 hd k hk ?_
        intro j x hj hx
        have hjx := h j x hj hx
        have hdx := sv_up_ge hd hx
        simp only [sv_cnt] at hjx
        rw [if_neg (by omega)] at hjx
        omega
theorem sv_gr_le : ∀ (as ds : List Nat), sv_gr as ds ≤ ds.length := by
  intro as
  induction as with
  | nil => intro ds; exact Nat.zero_le _
  | cons a as ih =>
    intro ds
    cases ds with
    | nil => exact Nat.le_refl _
    | cons d ds =>
      simp only [sv_gr, List.length_cons]
      split
      · have := ih ds; omega
      · have := ih (d :: ds); simpa using this
/-- what is served can be served -/
theorem sv_gr_ok : ∀ (as ds : List Nat), sv_up as → sv_up ds → sv_ok as ds (sv_gr as ds) := by
  intro as
  induction as with
  | nil => intro ds _ _ j d hj _; simp [sv_gr] at hj
  | cons a as ih =>
    intro ds hu hd
    cases ds with
    | nil => intro j d hj _; simp [sv_gr] at hj
    | cons d ds =>
      simp only [sv_gr]
      by_cases hda : d ≤ a
      · rw [if_pos hda]
        have h1 := ih ds hu.2 hd.2
        intro j x hj hx
        cases j with
        | zero =>
          simp at hx
          subst hx
          simp only [sv_cnt]
          rw [if_pos hda]
          have hl : sv_gr as ds ≤ sv_cnt as d := by
            cases hg : sv_gr as ds with
            | zero => exact Nat.zero_le _
            | succ g =>
              cases ds with
              | nil => have := sv_gr_le as []; simp at this; omega
              | cons e es =>
                have h2 := h1 0 e (by omega) rfl
                have h3 : d ≤ e := hd.1 e List.mem_cons_self
                have h4 := sv_cnt_anti as h3
                omega
          omega
        | succ j =>
          simp at hx
          have h2 := h1 j x (by omega) hx
          simp only [sv_cnt]
          split <;> omega
      · rw [if_neg hda]
        have h1 := ih (d :: ds) hu.2 hd
        intro j x hj hx
        have h2 := h1 j x hj hx
        simp only [sv_cnt]
        split <;> omega
/-- from the greatest want on: one more, if more areas are enough for it than are served yet -/
def sv_de (c : Nat → Nat) : List Nat → Nat
  | [] => 0
  | d :: ds => if sv_de c ds < c d then sv_de c ds + 1 else sv_de c ds
theorem sv_de_ok (as : List Nat) : ∀ ds, sv_up ds → sv_ok as ds (sv_de (sv_cnt as) ds) ∧ sv_de (sv_cnt as) ds ≤ ds.length ∧ ∀ k, k ≤ ds.length → sv_ok as ds k → k ≤ sv_de (sv_cnt as) ds := by
  intro ds
  induction ds with
  | nil => intro _; exact ⟨fun j d hj _ => by simp [sv_de] at hj, Nat.le_refl _, fun k hk _ => hk⟩
  | cons d ds ih =>
    intro hd
    obtain ⟨h1, h2, h3⟩ := ih hd.2
    have hc : sv_de (sv_cnt as) ds ≤ sv_cnt as d := by
      cases hg : sv_de (sv_cnt as) ds with
      | zero => exact Nat.zero_le _
      | succ g =>
        cases ds with
        | nil => simp [sv_de] at hg
        | cons e es =>
          have h4 := h1 0 e (by omega) rfl
          have h5 := sv_cnt_anti as (hd.1 e List.mem_cons_self)
          omega
    simp only [sv_de, List.length_cons]
    by_cases hlt : sv_de (sv_cnt as) ds < sv_cnt as d
    · rw [if_pos hlt]
      refine ⟨?_, by omega, ?_⟩
      · intro j x hj hx
        cases j with
        | zero => simp at hx; subst hx; omega
        | succ j => simp at hx; have := h1 j x (by omega) hx; omega
      · intro k hk h
        cases k with
        | zero => omega
        | succ k =>
          have : k ≤ sv_de (sv_cnt as) ds := h3 k (by omega) (fun j x hj hx => by
            have := h (j + 1) x (by omega) (by simpa using hx)
            omega)
          omega
    · rw [if_neg hlt]
      have heq : sv_de (sv_cnt as) ds = sv_cnt as d := by omega
      refine ⟨?_, by omega, ?_⟩
      · intro j x hj hx
        cases j with
        | zero => simp at hx; subst hx; omega
        | succ j =>
          simp at hx
          have := h1 j x (by omega) hx
          omega
      · intro k hk h
        cases k with
        | zero => omega
        | succ k =>
          have h6 := h 0 d (by omega) rfl
          omega
theorem sv_same (as ds : List Nat) (hu : sv_up as) (hd : sv_up ds) : sv_gr as ds = sv_de (sv_cnt as) ds := by
  obtain ⟨h1, h2, h3⟩ := sv_de_ok as ds hd
  have a := sv_gr_ge as ds hu hd _ h2 h1
  have b := h3 _ (sv_gr_le as ds) (sv_gr_ok as ds hu hd)
  omega
