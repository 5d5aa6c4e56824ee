section
variable {z w : St} {T : Nat → Int} {n s q f u v L a : Nat} {σ : List Int} {o : SL}
/-! which sign it is -/
theorem sg_c {c : Int} (hc : c = 60 ∨ c = 62 ∨ c = 61 ∨ c = 43 ∨ c = 45 ∨ c = 42 ∨ c = 47 ∨ c = 37) : sg T n s = c ↔ kx T n s = 3 ∧ T s = c := by
  constructor
  · intro h
    unfold sg at h
    by_cases q1 : kw T n s = 12
    · rw [if_pos q1] at h; omega
    · rw [if_neg q1] at h
      by_cases q2 : kw T n s = 11
      · rw [if_pos q2] at h; omega
      · rw [if_neg q2] at h
        split at h
        · rename_i q3; exact ⟨q3.1, h⟩
        · omega
  · intro h
    have hk : kw T n s = -1 := by unfold kw; rw [if_neg (by omega)]
    unfold sg
    rw [if_neg (by omega), if_neg (by omega), if_pos ⟨h.1, by rw [h.2]; exact hc⟩, h.2]
theorem sg_and : sg T n s = 38 ↔ kw T n s = 12 := by
  constructor
  · intro h
    unfold sg at h
    by_cases q1 : kw T n s = 12
    · exact q1
    · rw [if_neg q1] at h
      by_cases q2 : kw T n s = 11
      · rw [if_pos q2] at h; omega
      · rw [if_neg q2] at h
        split at h
        · rename_i q3; omega
        · omega
  · intro h; unfold sg; rw [if_pos h]
theorem sg_or : sg T n s = 124 ↔ kw T n s = 11 := by
  constructor
  · intro h
    unfold sg at h
    by_cases q1 : kw T n s = 12
    · rw [if_pos q1] at h; omega
    · rw [if_neg q1] at h
      by_cases q2 : kw T n s = 11
      · exact q2
      · rw [if_neg q2] at h
        split at h
        · rename_i q3; omega
        · omega
  · intro h; unfold sg; rw [if_neg (by omega), if_pos h]
theorem sg_6 (h0 : sg T n s ≠ 0) (h : tg (sg T n s) = 6) : sg T n s = 42 ∨ sg T n s = 47 ∨ sg T n s = 37 := by
  have := sg_op h0
  unfold isOp at this
  rcases this with e | e | e | e | e | e | e | e | e | e <;> rw [e] at h ⊢ <;> first | omega | exact absurd h (by decide)
theorem sg_5 (h0 : sg T n s ≠ 0) (h : tg (sg T n s) = 5) : sg T n s = 43 ∨ sg T n s = 45 := by
  have := sg_op h0
  unfold isOp at this
  rcases this with e | e | e | e | e | e | e | e | e | e <;> rw [e] at h ⊢ <;> first | omega | exact absurd h (by decide)
theorem sg_4 (h0 : sg T n s ≠ 0) (h : tg (sg T n s) = 4) : sg T n s = 60 ∨ sg T n s = 62 ∨ sg T n s = 61 := by
  have := sg_op h0
  unfold isOp at this
  rcases this with e | e | e | e | e | e | e | e | e | e <;> rw [e] at h ⊢ <;> first | omega | exact absurd h (by decide)
theorem sg_2 (h0 : sg T n s ≠ 0) (h : tg (sg T n s) = 2) : sg T n s = 38 := by
  have := sg_op h0
  unfold isOp at this
  rcases this with e | e | e | e | e | e | e | e | e | e <;> rw [e] at h ⊢ <;> first | rfl | exact absurd h (by decide)
theorem sg_1 (h0 : sg T n s ≠ 0) (h : tg (sg T n s) = 1) : sg T n s = 124 := by
  have := sg_op h0
  unfold isOp at this
  rcases this with e | e | e | e | e | e | e | e | e | e <;> rw [e] at h ⊢ <;> first | rfl | exact absurd h (by decide)
theorem sg_3 (h0 : sg T n s ≠ 0) : tg (sg T n s) ≠ 3 := by
  have := sg_op h0
  unfold isOp at this
  rcases this with e | e | e | e | e | e | e | e | e | e <;> rw [e] <;> decide
/-! products -/
theorem CL_term {kE : Nat → Int32 → St → Option St} (hT : VT T n) (hq : q = 26 ∨ q = 29) (hf : f < 2) (hU : CLm T n q f v 7 a (fn_X6_unit kE q (iI (a : Int)))) : CLm T n q f v 6 a (fn_X6_term kE q (iI (a : Int))) := by
  have key := CL_loop (L := 6) (Lp := fun m i z => fn_X6_term_8 kE m q (iI (a : Int)) (iI (i : Int)) z) hT hq hf (by omega) hU (fun m i z h => ef_term8 kE _ _ m h) (fun m i z s hK h0 hc => by
    show fn_X6_term_8 kE (m + 1) q (iI (a : Int)) (iI (i : Int)) z = some z
    have e42 : fn_X6_isSign 42 z = some (iI (tr (kx T n s = 3 ∧ T s = 42)), z) := by rw [q_42]; exact x_isSg hT hK h0 (by omega)
    have e47 : fn_X6_isSign 47 z = some (iI (tr (kx T n s = 3 ∧ T s = 47)), z) := by rw [q_47]; exact x_isSg hT hK h0 (by omega)
    have e37 : fn_X6_isSign 37 z = some (iI (tr (kx T n s = 3 ∧ T s = 37)), z) := by rw [q_37]; exact x_isSg hT hK h0 (by omega)
    have n42 : ¬ (kx T n s = 3 ∧ T s = 42) := fun e => hc (by rw [(sg_c (by omega)).mpr e]; exact ⟨by omega, by decide⟩)
    have n47 : ¬ (kx T n s = 3 ∧ T s = 47) := fun e => hc (by rw [(sg_c (by omega)).mpr e]; exact ⟨by omega, by decide⟩)
    have n37 : ¬ (kx T n s = 3 ∧ T s = 37) := fun e => hc (by rw [(sg_c (by omega)).mpr e]; exact ⟨by omega, by decide⟩)
    rw [fn_X6_term_8, bd_o e42, tr_n n42, if_pos (show iI 0 = 0 from q_0.symm), bd_o e47, tr_n n47, if_pos (show iI 0 = 0 from q_0.symm), bd_o e37, tr_n n37, if_pos (show iI 0 = 0 from q_0.symm)]
    split <;> rfl) (fun m i z s hi hK h0 hs0 ht => by
    show fn_X6_term_8 kE (m + 1) q (iI (a : Int)) (iI (i : Int)) z = _
    have e42 : fn_X6_isSign 42 z = some (iI (tr (kx T n s = 3 ∧ T s = 42)), z) := by rw [q_42]; exact x_isSg hT hK h0 (by omega)
    have e47 : fn_X6_isSign 47 z = some (iI (tr (kx T n s = 3 ∧ T s = 47)), z) := by rw [q_47]; exact x_isSg hT hK h0 (by omega)
    have e37 : fn_X6_isSign 37 z = some (iI (tr (kx T n s = 3 ∧ T s = 37)), z) := by rw [q_37]; exact x_isSg hT hK h0 (by omega)
    rw [fn_X6_term_8, if_neg (show ¬ (1600 : Int32) ≤ iI (i : Int) from by rw [q_1600]; exact nle (by omega) (by omega) (by omega)), bd_o e42]
    unfold fn_X6_term_42 fn_X6_term_72
    simp only [k1]
    rcases sg_6 hs0 ht with e | e | e
    · have h := (sg_c (by omega)).mp e
      rw [tr_1 h, if_neg (show ¬ iI 1 = 0 from by decide), bd_o e42, tr_1 h, if_neg (show ¬ iI 1 = 0 from by decide), e]
      rfl
    · have h := (sg_c (by omega)).mp e
      have n42 : ¬ (kx T n s = 3 ∧ T s = 42) := by omega
      rw [tr_n n42, if_pos (show iI 0 = 0 from q_0.symm), bd_o e47, tr_1 h, if_neg (show ¬ iI 1 = 0 from by decide), bd_o e42, tr_n n42, if_pos (show iI 0 = 0 from q_0.symm), bd_o e47, tr_1 h, if_neg (show ¬ iI 1 = 0 from by decide), e]
      rfl
    · have h := (sg_c (by omega)).mp e
      have n42 : ¬ (kx T n s = 3 ∧ T s = 42) := by omega
      have n47 : ¬ (kx T n s = 3 ∧ T s = 47) := by omega
      rw [tr_n n42, if_pos (show iI 0 = 0 from q_0.symm), bd_o e47, tr_n n47, if_pos (show iI 0 = 0 from q_0.symm), bd_o e37, tr_1 h, if_neg (show ¬ iI 1 = 0 from by decide), bd_o e42, tr_n n42, if_pos (show iI 0 = 0 from q_0.symm), bd_o e47, tr_n n47, if_pos (show iI 0 = 0 from q_0.symm), e]
      rfl)
  have ef : fn_X6_term kE q (iI (a : Int)) = fun z => bv (fn_X6_unit kE q (iI (a : Int)) z) (fun z2 => fn_X6_term_8 kE fu q (iI (a : Int)) (iI ((0 : Nat) : Int)) z2) := by
    funext z; unfold fn_X6_term; rw [z0]
  rw [ef]
  exact key
/-! sums -/
theorem CL_sum {kE : Nat → Int32 → St → Option St} (hT : VT T n) (hq : q = 26 ∨ q = 29) (hf : f < 2) (hU : CLm T n q f v 6 a (fn_X6_term kE q (iI (a : Int)))) : CLm T n q f v 5 a (fn_X6_sum kE q (iI (a : Int))) := by
  have key := CL_loop (L := 5) (Lp := fun m i z => fn_X6_sum_8 kE m q (iI (a : Int)) (iI (i : Int)) z) hT hq hf (by omega) hU (fun m i z h => ef_sum8 kE _ _ m h) (fun m i z s hK h0 hc => by
    show fn_X6_sum_8 kE (m + 1) q (iI (a : Int)) (iI (i : Int)) z = some z
    have e43 : fn_X6_isSign 43 z = some (iI (tr (kx T n s = 3 ∧ T s = 43)), z) := by rw [q_43]; exact x_isSg hT hK h0 (by omega)
    have e45 : fn_X6_isSign 45 z = some (iI (tr (kx T n s = 3 ∧ T s = 45)), z) := by rw [q_45]; exact x_isSg hT hK h0 (by omega)
    have n43 : ¬ (kx T n s = 3 ∧ T s = 43) := fun e => hc (by rw [(sg_c (by omega)).mpr e]; exact ⟨by omega, by decide⟩)
    have n45 : ¬ (kx T n s = 3 ∧ T s = 45) := fun e => hc (by rw [(sg_c (by omega)).mpr e]; exact ⟨by omega, by decide⟩)
    rw [fn_X6_sum_8, bd_o e43, tr_n n43, if_pos (show iI 0 = 0 from q_0.symm), bd_o e45, tr_n n45, if_pos (show iI 0 = 0 from q_0.symm)]
    split <;> rfl) (fun m i z s hi hK h0 hs0 ht => by
    show fn_X6_sum_8 kE (m + 1) q (iI (a : Int)) (iI (i : Int)) z = _
    have e43 : fn_X6_isSign 43 z = some (iI (tr (kx T n s = 3 ∧ T s = 43)), z) := by rw [q_43]; exact x_isSg hT hK h0 (by omega)
    have e45 : fn_X6_isSign 45 z = some (iI (tr (kx T n s = 3 ∧ T s = 45)), z) := by rw [q_45]; exact x_isSg hT hK h0 (by omega)
    rw [fn_X6_sum_8, if_neg (show ¬ (1600 : Int32) ≤ iI (i : Int) from by rw [q_1600]; exact nle (by omega) (by omega) (by omega)), bd_o e43]
    unfold fn_X6_sum_33 fn_X6_sum_49
    simp only [k1]
    rcases sg_5 hs0 ht with e | e
    · have h := (sg_c (by omega)).mp e
      rw [tr_1 h, if_neg (show ¬ iI 1 = 0 from by decide), bd_o e43, tr_1 h, if_neg (show ¬ iI 1 = 0 from by decide), e]
      rfl
    · have h := (sg_c (by omega)).mp e
      have n43 : ¬ (kx T n s = 3 ∧ T s = 43) := by omega
      rw [tr_n n43, if_pos (show iI 0 = 0 from q_0.symm), bd_o e45, tr_1 h, if_neg (show ¬ iI 1 = 0 from by decide), bd_o e43, tr_n n43, if_pos (show iI 0 = 0 from q_0.symm), e]
      rfl)
  have ef : fn_X6_sum kE q (iI (a : Int)) = fun z => bv (fn_X6_term kE q (iI (a : Int)) z) (fun z2 => fn_X6_sum_8 kE fu q (iI (a : Int)) (iI ((0 : Nat) : Int)) z2) := by
    funext z; unfold fn_X6_sum; rw [z0]
  rw [ef]
  exact key
theorem CL_both {kE kO : Nat → Int32 → St → Option St} (hT : VT T n) (hq : q = 26 ∨ q = 29) (hf : f < 2) (hU : CLm T n q f v 3 a (fn_X6_one kE kO q (iI (a : Int)))) : CLm T n q f v 2 a (fn_X6_both kE kO q (iI (a : Int))) := by
  have key := CL_loop (L := 2) (Lp := fun m i z => fn_X6_both_8 kE kO m q (iI (a : Int)) (iI (i : Int)) z) hT hq hf (by omega) hU (fun m i z h => ef_both8 kE kO _ _ m h) (fun m i z s hK h0 hc => by
    show fn_X6_both_8 kE kO (m + 1) q (iI (a : Int)) (iI (i : Int)) z = some z
    have e12 : fn_X6_isKeyword 12 z = some (iI (tr (kw T n s = 12)), z) := by rw [q_12]; exact x_isKw hK h0 12 (by omega)
    have n12 : ¬ kw T n s = 12 := fun e => hc (by rw [sg_and.mpr e]; exact ⟨by omega, by decide⟩)
    rw [fn_X6_both_8, bd_o e12, tr_n n12, if_pos (show iI 0 = 0 from q_0.symm)]
    split <;> rfl) (fun m i z s hi hK h0 hs0 ht => by
    show fn_X6_both_8 kE kO (m + 1) q (iI (a : Int)) (iI (i : Int)) z = _
    have e12 : fn_X6_isKeyword 12 z = some (iI (tr (kw T n s = 12)), z) := by rw [q_12]; exact x_isKw hK h0 12 (by omega)
    have e := sg_2 hs0 ht
    rw [fn_X6_both_8, if_neg (show ¬ (1600 : Int32) ≤ iI (i : Int) from by rw [q_1600]; exact nle (by omega) (by omega) (by omega)), bd_o e12, tr_1 (sg_and.mp e), if_neg (show ¬ iI 1 = 0 from by decide), e]
    simp only [k1]
    rfl)
  have ef : fn_X6_both kE kO q (iI (a : Int)) = fun z => bv (fn_X6_one kE kO q (iI (a : Int)) z) (fun z2 => fn_X6_both_8 kE kO fu q (iI (a : Int)) (iI ((0 : Nat) : Int)) z2) := by
    funext z; unfold fn_X6_both; rw [z0]
  rw [ef]
  exact key
theorem CL_either {kE kO : Nat → Int32 → St → Option St} (hT : VT T n) (hq : q = 26 ∨ q = 29) (hf : f < 2) (hU : CLm T n q f v 2 a (fn_X6_both kE kO q (iI (a : Int)))) : CLm T n q f v 1 a (fn_X6_either kE kO q (iI (a : Int))) := by
  have key := CL_loop (L := 1) (Lp := fun m i z => fn_X6_either_8 kE kO m q (iI (a : Int)) (iI (i : Int)) z) hT hq hf (by omega) hU (fun m i z h => ef_either8 kE kO _ _ m h) (fun m i z s hK h0 hc => by
    show fn_X6_either_8 kE kO (m + 1) q (iI (a : Int)) (iI (i : Int)) z = some z
    have e11 : fn_X6_isKeyword 11 z = some (iI (tr (kw T n s = 11)), z) := by rw [q_11]; exact x_isKw hK h0 11 (by omega)
    have n11 : ¬ kw T n s = 11 := fun e => hc (by rw [sg_or.mpr e]; exact ⟨by omega, by decide⟩)
    rw [fn_X6_either_8, bd_o e11, tr_n n11, if_pos (show iI 0 = 0 from q_0.symm)]
    split <;> rfl) (fun m i z s hi hK h0 hs0 ht => by
    show fn_X6_either_8 kE kO (m + 1) q (iI (a : Int)) (iI (i : Int)) z = _
    have e11 : fn_X6_isKeyword 11 z = some (iI (tr (kw T n s = 11)), z) := by rw [q_11]; exact x_isKw hK h0 11 (by omega)
    have e := sg_1 hs0 ht
    rw [fn_X6_either_8, if_neg (show ¬ (1600 : Int32) ≤ iI (i : Int) from by rw [q_1600]; exact nle (by omega) (by omega) (by omega)), bd_o e11, tr_1 (sg_or.mp e), if_neg (show ¬ iI 1 = 0 from by decide), e]
    simp only [k1]
    rfl)
  have ef : fn_X6_either kE kO q (iI (a : Int)) = fun z => bv (fn_X6_both kE kO q (iI (a : Int)) z) (fun z2 => fn_X6_either_8 kE kO fu q (iI (a : Int)) (iI ((0 : Nat) : Int)) z2) := by
    funext z; unfold fn_X6_either; rw [z0]
  rw [ef]
  exact key
/-! relations -/
theorem hrl_f : ∀ {π : List Int}, (∀ x ∈ π, vsE x ∧ x ≠ 20 ∧ 5 ≤ tg x) → stpL 4 σ → hrl (π ++ σ) = false := by
  intro π
  induction π with
  | nil =>
    intro _ h
    show hrl σ = false
    cases σ with
    | nil => rfl
    | cons x l =>
      rw [hrl]
      by_cases e : x = 20
      · rw [if_pos e]
      · have := h.resolve_left e
        rw [if_neg e, if_neg (by omega)]
        exact decide_eq_false (by omega)
  | cons x π ih =>
    intro hπ h
    have hx := hπ x (List.mem_cons_self ..)
    show hrl (x :: (π ++ σ)) = false
    rw [hrl, if_neg hx.2.1, if_pos (by omega)]
    exact ih (fun y hy => hπ y (List.mem_cons_of_mem _ hy)) h
theorem hrl_t {c : Int} (hc : tg c = 4) (h20 : c ≠ 20) : ∀ {π : List Int}, (∀ x ∈ π, vsE x ∧ x ≠ 20 ∧ 5 ≤ tg x) → hrl (π ++ c :: σ) = true := by
  intro π
  induction π with
  | nil =>
    intro _
    show hrl (c :: σ) = true
    rw [hrl, if_neg h20, if_neg (by omega)]
    exact decide_eq_true hc
  | cons x π ih =>
    intro hπ
    have hx := hπ x (List.mem_cons_self ..)
    show hrl (x :: (π ++ c :: σ)) = true
    rw [hrl, if_neg hx.2.1, if_pos (by omega)]
    exact ih fun y hy => hπ y (List.mem_cons_of_mem _ hy)
theorem CL_rel {kE : Nat → Int32 → St → Option St} (hT : VT T n) (hq : q = 26 ∨ q = 29) (hf : f < 2) (hU : CLm T n q f v 5 a (fn_X6_sum kE q (iI (a : Int)))) : CLm T n q f v 4 a (fn_X6_relation kE q (iI (a : Int))) := by
  intro z s σ o d u hs hX hP hN hV hdu
  have hn16 := hT.1
  obtain ⟨z1, a1, a2, a3⟩ := hU z s σ o d u hs hX (hP.up (by omega)) (fun _ => hN (by omega)) hV hdu
  obtain ⟨h1, h2, h3, h4, h5, h6, h7⟩ := hP
  have h4' : stpL 4 σ := h4
  unfold fn_X6_relation
  rw [bv_o a1]
  rcases a3 with ⟨e, p, c1, c2⟩ | ⟨s1, π, om, u1, c1, c2, c3, c4, c5, c6, c7⟩
  · refine ⟨z1, ?_, a2, Or.inl ⟨e, p, c1, c2⟩⟩
    rw [bd_o (ef_sg c1.ne 60), if_pos rfl, bd_o (ef_sg c1.ne 62), if_pos rfl, bd_o (ef_sg c1.ne 61), if_pos rfl]
    unfold fn_X6_relation_49
    rw [if_pos rfl]
  · obtain ⟨p1, p2, p3, p4, p5⟩ := c6
    obtain ⟨x1, x2, x3, x4, x5⟩ := id c3
    have hπl : π.length ≤ 2 := by unfold plL at p2; rw [if_pos (by omega)] at p2; omega
    have e60 : fn_X6_isSign 60 z1 = some (iI (tr (kx T n s1 = 3 ∧ T s1 = 60)), z1) := by rw [q_60]; exact x_isSg hT x2 x3 (by omega)
    have e62 : fn_X6_isSign 62 z1 = some (iI (tr (kx T n s1 = 3 ∧ T s1 = 62)), z1) := by rw [q_62]; exact x_isSg hT x2 x3 (by omega)
    have e61 : fn_X6_isSign 61 z1 = some (iI (tr (kx T n s1 = 3 ∧ T s1 = 61)), z1) := by rw [q_61]; exact x_isSg hT x2 x3 (by omega)
    rw [bd_o e60]
    by_cases hr : sg T n s1 ≠ 0 ∧ tg (sg T n s1) = 4
    · -- a relation
      obtain ⟨h0, ht⟩ := hr
      have hop := sg_op h0
      have hk := sg_k h0
      obtain ⟨hx1, hx2⟩ := nx_b T (n := n) c2
      have hx2 := hx2 (by omega)
      have e49 : (if iI (tr (kx T n s1 = 3 ∧ T s1 = 60)) = 0 then bd (fn_X6_isSign 62 z1) (fun r8 z9 => (if r8 = 0 then bd (fn_X6_isSign 61 z9) (fun r12 z13 => (if r12 = 0 then fn_X6_relation_49 kE q (iI (a : Int)) (-1) z13 else fn_X6_relation_49 kE q (iI (a : Int)) 12 z13)) else fn_X6_relation_49 kE q (iI (a : Int)) 11 z9)) else fn_X6_relation_49 kE q (iI (a : Int)) 10 z1) = fn_X6_relation_49 kE q (iI (a : Int)) (iI (xst (sg T n s1))) z1 := by
        rcases sg_4 h0 ht with e | e | e
        · have h := (sg_c (by omega)).mp e
          rw [tr_1 h, if_neg (show ¬ iI 1 = 0 from by decide), e]; rfl
        · have h := (sg_c (by omega)).mp e
          have n60 : ¬ (kx T n s1 = 3 ∧ T s1 = 60) := by omega
          rw [tr_n n60, if_pos (show iI 0 = 0 from q_0.symm), bd_o e62, tr_1 h, if_neg (show ¬ iI 1 = 0 from by decide), e]; rfl
        · have h := (sg_c (by omega)).mp e
          have n60 : ¬ (kx T n s1 = 3 ∧ T s1 = 60) := by omega
          have n62 : ¬ (kx T n s1 = 3 ∧ T s1 = 62) := by omega
          rw [tr_n n60, if_pos (show iI 0 = 0 from q_0.symm), bd_o e62, tr_n n62, if_pos (show iI 0 = 0 from q_0.symm), bd_o e61, tr_1 h, if_neg (show ¬ iI 1 = 0 from by decide), e]; rfl
      rw [e49]
      have hnp : np (π ++ σ) = π.length + np σ := by rw [np_a, np_l fun x hx => (p1 x hx).2.1]
      have holen : (om ++ fl π).length = om.length + π.length := by rw [List.length_append, fl_len]
      obtain ⟨z2, b1, b2, b3⟩ := c3.adv hT c2 hq (by omega)
      have hpre : PreL 5 a (sg T n s1 :: σ) (om ++ fl π) u1 := by
        refine ⟨fun x hx => ?_, ?_, h3, Or.inr ?_, by show σ.length + 1 + 1 ≤ _; omega, ?_, p4⟩
        · rcases List.mem_cons.mp hx with rfl | h
          · exact Or.inr (Or.inr hop)
          · exact h1 x h
        · show nb σ + (if sg T n s1 = 20 ∨ sg T n s1 = 21 then 1 else 0) = a
          rw [if_neg (by unfold isOp at hop; omega), Nat.add_zero, h2]
        · rw [ht]; decide
        · rw [holen]
          show om.length + π.length + (np σ + (if sg T n s1 = 20 then 0 else 1)) ≤ 9 * u1 + (if sg T n s1 = 21 then ct σ + 1 else 0)
          rw [if_neg (by unfold isOp at hop; omega), if_neg (by unfold isOp at hop; omega)]
          omega
      obtain ⟨z4, d1, d2, d3⟩ := hU z2 (nx T n s1) (sg T n s1 :: σ) (om ++ fl π) (d + 1) u1 hx1 b2 hpre (fun _ => Or.inr (by rw [mnt]; exact decide_eq_false (by unfold isOp at hop; omega))) c4 (by omega)
      have mp : ∀ (w : St) (k m : Nat), MSt w T n s f σ o u v → n - s + 1 < k → n - s + 1 < m → ∃ m' w', n - nx T n s1 + 1 < m' ∧ mUf k m w = mUf fu m' w' ∧ MSt w' T n (nx T n s1) f (sg T n s1 :: σ) (om ++ fl π) u1 v ∧ ∀ a j, mFr f a j → SA w w' a j := fun w k m hM hk hm => by
        obtain ⟨m', w', g1, g2, g3, g4⟩ := c7 w k m hM hk hm
        obtain ⟨m', rfl⟩ : ∃ m'', m' = m'' + 1 := ⟨m' - 1, by omega⟩
        obtain ⟨w2, i1, i2, i3⟩ := m_push (π := π) hT c2 hf h1 (fun x hx => ⟨(p1 x hx).1, (p1 x hx).2.1, by have := (p1 x hx).2.2; omega⟩) (by rw [ht]; exact h4') h0 (fun _ => hrl_f p1 h4') g3 (by omega) (by rw [List.length_append]; omega) m'
        exact ⟨m', w2, by omega, by rw [g1, i1], i2, fun a j p => (g4 a j p).tr (i3 a j p)⟩
      have hfu : n - nx T n s1 + 1 < fu := by unfold fu; omega
      have hxb := xst_b (s := sg T n s1)
      unfold fn_X6_relation_49
      rw [if_neg (show ¬ iI (xst (sg T n s1)) = -1 from by rw [q_m1]; exact neq (by omega) (by omega) (by omega)), bv_o b1, bv_o d1]
      rcases d3 with ⟨e, p, t1, t2⟩ | ⟨s', π', om', u', t1, t2, t3, t4, t5, t6, t7⟩
      · obtain ⟨z6, g1, g2, g3⟩ := t1.add hq (iI (xst (sg T n s1))) 0
        rw [bv_o g1]
        refine ⟨z6, rfl, fun a j p => (((a2 a j p).tr (b3 a j p)).tr (d2 a j p)).tr (g3 a j p), Or.inl ⟨e, p, g2, fun w k m hM hk hm => ?_⟩⟩
        obtain ⟨m', w', f1, f2, f3, f4⟩ := mp w k m hM hk hm
        obtain ⟨w3, y1, y2, y3, y4⟩ := t2 w' fu m' f3 hfu f1
        rw [f2]
        exact ⟨w3, y1, y2, y3, fun a j p => (f4 a j p).tr (y4 a j p)⟩
      · obtain ⟨r1, r2, r3, r4, r5⟩ := t6
        have hl4 : (om' ++ fl π').length < 272 := by
          rw [List.length_append, fl_len]
          rw [np_a, np_l fun x hx => (r1 x hx).2.1] at r3
          omega
        obtain ⟨y1, y2, y3, y4, y5⟩ := t3
        obtain ⟨z6, g1, g2, g3⟩ := x_addO y4 hl4 (k := 3) (a := sg T n s1) (d := d + 1 + 1) (Or.inr (Or.inr (Or.inr ⟨rfl, by omega, hop⟩)))
        rw [xsp_3, if_neg (show ¬ (3 : Nat) = 0 from by omega), ← q_0] at g1
        have e21 : ¬ sg T n s1 = 21 := by unfold isOp at hop; omega
        have elist : om' ++ fl π' ++ [(3, sg T n s1)] = om' ++ fl (π' ++ [sg T n s1]) := by
          rw [fl_a, ← List.append_assoc]
          show _ = om' ++ fl π' ++ [em (sg T n s1)]
          rw [show em (sg T n s1) = (3, sg T n s1) from if_neg e21]
        rw [elist] at g2
        have X6 : XSt z6 T n s' q (om' ++ fl (π' ++ [sg T n s1])) u' := ⟨y1.fr fun a j p => g3 a j (by omega) (by omega), y2.fr fun j _ _ => g3 32 j (by omega) (by omega), (g3 32 11 (by omega) (by omega)).1.trans y3, g2, (g3 q 3 (by omega) (by omega)).1.trans y5⟩
        have V6 : Vo (om' ++ fl (π' ++ [sg T n s1])) (d + 1) := by
          rw [← elist]
          exact Vo_s (x := (3, sg T n s1)) t4 (by omega) (Or.inr (Or.inr (Or.inr ⟨rfl, by omega, hop⟩)))
        have eapp : (π' ++ [sg T n s1]) ++ σ = π' ++ sg T n s1 :: σ := by rw [List.append_assoc]; rfl
        have hrt : hrl (π' ++ sg T n s1 :: σ) = true := hrl_t ht (by unfold isOp at hop; omega) r1
        rw [bv_o g1]
        refine ⟨z6, rfl, fun a j p => (((a2 a j p).tr (b3 a j p)).tr (d2 a j p)).tr (g3 a j (by unfold xFr at p; omega) (by unfold xFr at p; omega)), Or.inr ⟨s', π' ++ [sg T n s1], om', u', by omega, t2, X6, V6, by omega, ⟨fun x hx => ?_, ?_, by rw [eapp]; exact r3, r4, ?_⟩, fun w k m hM hk hm => ?_⟩⟩
        · rcases List.mem_append.mp hx with h | h
          · exact ⟨(r1 x h).1, (r1 x h).2.1, by have := (r1 x h).2.2; omega⟩
          · rw [List.mem_singleton.mp h]; exact ⟨Or.inr (Or.inr hop), by unfold isOp at hop; omega, by omega⟩
        · rw [List.length_append]
          show π'.length + 1 ≤ _
          unfold plL at r2 ⊢
          rw [if_pos (by omega)] at r2 ⊢
          omega
        · rw [eapp]
          rcases r5 with h | h | h
          · exact Or.inl h
          · by_cases e4 : tg (sg T n s') = 4
            · exact Or.inr (Or.inr ⟨e4, hrt⟩)
            · exact Or.inr (Or.inl (by omega))
          · exact Or.inr (Or.inr h)
        · obtain ⟨m', w', f1, f2, f3, f4⟩ := mp w k m hM hk hm
          obtain ⟨m3, w3, i1, i2, i3, i4⟩ := t7 w' fu m' f3 hfu f1
          exact ⟨m3, w3, by rw [f2, i1], i2, by rw [eapp]; exact i3, fun a j p => (f4 a j p).tr (i4 a j p)⟩
    · -- none
      have n60 : ¬ (kx T n s1 = 3 ∧ T s1 = 60) := fun e => hr (by rw [(sg_c (by omega)).mpr e]; exact ⟨by omega, by decide⟩)
      have n62 : ¬ (kx T n s1 = 3 ∧ T s1 = 62) := fun e => hr (by rw [(sg_c (by omega)).mpr e]; exact ⟨by omega, by decide⟩)
      have n61 : ¬ (kx T n s1 = 3 ∧ T s1 = 61) := fun e => hr (by rw [(sg_c (by omega)).mpr e]; exact ⟨by omega, by decide⟩)
      refine ⟨z1, ?_, a2, Or.inr ⟨s1, π, om, u1, c1, c2, c3, c4, c5, ⟨fun x hx => ⟨(p1 x hx).1, (p1 x hx).2.1, by have := (p1 x hx).2.2; omega⟩, ?_, p3, p4, ?_⟩, c7⟩⟩
      · rw [tr_n n60, if_pos (show iI 0 = 0 from q_0.symm), bd_o e62, tr_n n62, if_pos (show iI 0 = 0 from q_0.symm), bd_o e61, tr_n n61, if_pos (show iI 0 = 0 from q_0.symm)]
        unfold fn_X6_relation_49
        rw [if_pos rfl]
      · unfold plL; rw [if_pos (by omega)]; omega
      · rcases p5 with h | h | h
        · exact Or.inl h
        · by_cases h0 : sg T n s1 = 0
          · exact Or.inl h0
          · exact Or.inr (Or.inl (by have : tg (sg T n s1) ≠ 4 := fun e => hr ⟨h0, e⟩; omega))
        · exact Or.inr (Or.inr h)
/-! one: nots ahead -/
theorem CL_one {kE kO : Nat → Int32 → St → Option St} (hT : VT T n) (hq : q = 26 ∨ q = 29) (hf : f < 2) (hU : CLm T n q f v 4 a (fn_X6_relation kE q (iI (a : Int)))) (hO : a ≤ 6 → CLm T n q f v 3 (a + 1) (kO q (iI ((a + 1 : Nat) : Int)))) : CLm T n q f v 3 a (fn_X6_one kE kO q (iI (a : Int))) := by
  intro z s σ o d u hs hX hP hN hV hdu
  have hn16 := hT.1
  obtain ⟨X1, X2, X3, X4, X5⟩ := id hX
  have e13 : fn_X6_isKeyword 13 z = some (iI (tr (kw T n s = 13)), z) := by rw [q_13]; exact x_isKw X2 X3 13 (by omega)
  unfold fn_X6_one
  rw [bd_o e13]
  by_cases hnot : kw T n s = 13
  · rw [tr_1 hnot, if_neg (show ¬ iI 1 = 0 from by decide)]
    obtain ⟨h1, h2, h3, h4, h5, h6, h7⟩ := hP
    have h4' : stpL 4 σ := h4
    have hcn := ct_np σ
    have hk1 := kw_1 (k := 13) hnot
    have hsn := (kx_1 hk1).1
    obtain ⟨hx1, hx2⟩ := nx_b T (n := n) hs
    have hx2 := hx2 (by omega)
    have hft := ft_b T n s
    have hmn : mnt σ = true := by
      cases σ with
      | nil => rfl
      | cons x l => exact decide_eq_true h4'
    have m44 : ∀ (w : St) (k : Nat), MSt w T n s f σ o u v → fn_X12_unit_2 (k + 1) 1 w = (if a ≤ 6 then fn_X12_unit_44 (fn_X12_unit_2 k) 1 w else bv (fn_X12_wrong 2 w) (fun z13 => fn_X12_unit_44 (fn_X12_unit_2 k) 1 z13)) := fun w k hM => by
      obtain ⟨hX, hK, h0, hS⟩ := hM
      have e13' : fn_X12_isWord 7237492 w = some (iI (tr (kw T n s = 13)), w) := m_isWd hT hK 13 (by omega)
      rw [fn_X12_unit_2, if_neg (show ¬ (1 : Int32) = 0 from by decide), h0, if_pos rfl, bd_o e13', tr_1 hnot, if_neg (show ¬ iI 1 = 0 from by decide), bd_o (m_mayNot hS h1 (by omega)), tr_1 hmn, if_neg (show ¬ iI 1 = 0 from by decide), hS.2.2.2.2.1, h2]
      by_cases e6 : a ≤ 6
      · rw [if_pos (show iI (a : Int) ≤ 6 from by rw [q_6]; exact yle (by omega) (by omega) (by omega)), if_pos e6]
      · rw [if_neg (show ¬ iI (a : Int) ≤ 6 from by rw [q_6]; exact nle (by omega) (by omega) (by omega)), if_neg e6]
    by_cases e6 : a ≤ 6
    · rw [if_pos (show iI (a : Int) ≤ 6 from by rw [q_6]; exact yle (by omega) (by omega) (by omega))]
      obtain ⟨z2, b1, b2, b3⟩ := hX.adv hT hs hq (by omega)
      have hpre : PreL 3 (a + 1) (21 :: σ) o u := by
        refine ⟨fun x hx => ?_, ?_, by omega, Or.inr (by decide), by show σ.length + 1 + 1 ≤ _; omega, ?_, h7⟩
        · rcases List.mem_cons.mp hx with rfl | h
          · exact Or.inr (Or.inl rfl)
          · exact h1 x h
        · show nb σ + (if (21 : Int) = 20 ∨ (21 : Int) = 21 then 1 else 0) = a + 1
          rw [if_pos (Or.inr rfl), h2]
        · show o.length + (np σ + (if (21 : Int) = 20 then 0 else 1)) ≤ 9 * u + (if (21 : Int) = 21 then ct σ + 1 else 0)
          rw [if_neg (by omega), if_pos rfl]
          omega
      obtain ⟨z4, d1, d2, d3⟩ := hO e6 z2 (nx T n s) (21 :: σ) o d u hx1 b2 hpre (fun h => by omega) hV hdu
      have mo : ∀ (w : St) (k m : Nat), MSt w T n s f σ o u v → n - s + 1 < k → ∃ k' w', n - nx T n s + 1 < k' ∧ mUf k m w = mUf k' m w' ∧ MSt w' T n (nx T n s) f (21 :: σ) o u v ∧ ∀ a j, mFr f a j → SA w w' a j := fun w k m hM hk => by
        obtain ⟨k, rfl⟩ : ∃ k', k = k' + 1 := ⟨k - 1, by omega⟩
        obtain ⟨w2, t1, t2, t3⟩ := m_open (x := 21) hT hs (by omega) (Or.inr rfl) (by omega) (by omega) hM
        refine ⟨k, w2, by omega, ?_, t2, t3⟩
        unfold mUf
        rw [m44 w k hM, if_pos e6]
        unfold fn_X12_unit_44
        rw [q_21, bv_o t1]
      rw [bv_o b1, k1, bv_o d1]
      rcases d3 with ⟨e, p, t1, t2⟩ | ⟨s', π, om, u', t1, t2, t3, t4, t5, t6, t7⟩
      · obtain ⟨z6, g1, g2, g3⟩ := t1.add hq 7 0
        rw [bv_o g1]
        refine ⟨z6, rfl, fun a j p => ((b3 a j p).tr (d2 a j p)).tr (g3 a j p), Or.inl ⟨e, p, g2, fun w k m hM hk hm => ?_⟩⟩
        obtain ⟨k', w', f1, f2, f3, f4⟩ := mo w k m hM hk
        obtain ⟨w3, y1, y2, y3, y4⟩ := t2 w' k' m f3 f1 (by omega)
        rw [f2]
        exact ⟨w3, y1, y2, y3, fun a j p => (f4 a j p).tr (y4 a j p)⟩
      · obtain ⟨r1, r2, r3, r4, r5⟩ := t6
        have hl4 : (om ++ fl π).length < 272 := by
          rw [List.length_append, fl_len]
          rw [np_a, np_l fun x hx => (r1 x hx).2.1] at r3
          omega
        obtain ⟨y1, y2, y3, y4, y5⟩ := t3
        obtain ⟨z6, g1, g2, g3⟩ := x_addO y4 hl4 (k := 2) (a := 0) (d := d + 1) (Or.inr (Or.inr (Or.inl ⟨rfl, by omega⟩)))
        rw [xsp_2, if_neg (show ¬ (2 : Nat) = 0 from by omega), ← q_0, ← q_7] at g1
        have elist : om ++ fl π ++ [(2, 0)] = om ++ fl (π ++ [21]) := by rw [fl_a, ← List.append_assoc]; rfl
        rw [elist] at g2
        have X6 : XSt z6 T n s' q (om ++ fl (π ++ [21])) u' := ⟨y1.fr fun a j p => g3 a j (by omega) (by omega), y2.fr fun j _ _ => g3 32 j (by omega) (by omega), (g3 32 11 (by omega) (by omega)).1.trans y3, g2, (g3 q 3 (by omega) (by omega)).1.trans y5⟩
        have V6 : Vo (om ++ fl (π ++ [21])) (d + 1) := by
          rw [← elist]
          exact Vo_s (x := (2, 0)) t4 (by omega) (Or.inr (Or.inr (Or.inl ⟨rfl, by omega⟩)))
        have eapp : (π ++ [21]) ++ σ = π ++ 21 :: σ := by rw [List.append_assoc]; rfl
        rw [bv_o g1]
        refine ⟨z6, rfl, fun a j p => ((b3 a j p).tr (d2 a j p)).tr (g3 a j (by unfold xFr at p; omega) (by unfold xFr at p; omega)), Or.inr ⟨s', π ++ [21], om, u', by omega, t2, X6, V6, by omega, ⟨fun x hx => ?_, ?_, by rw [eapp]; exact r3, r4, by rw [eapp]; exact r5⟩, fun w k m hM hk hm => ?_⟩⟩
        · rcases List.mem_append.mp hx with h | h
          · exact r1 x h
          · rw [List.mem_singleton.mp h]; exact ⟨Or.inr (Or.inl rfl), by omega, by decide⟩
        · rw [List.length_append]
          show π.length + 1 ≤ _
          unfold plL at r2 ⊢
          rw [if_neg (by omega)] at r2 ⊢
          omega
        · obtain ⟨k', w', f1, f2, f3, f4⟩ := mo w k m hM hk
          obtain ⟨m3, w3, i1, i2, i3, i4⟩ := t7 w' k' m f3 f1 (by omega)
          exact ⟨m3, w3, by rw [f2, i1], i2, by rw [eapp]; exact i3, fun a j p => (f4 a j p).tr (i4 a j p)⟩
    · rw [if_neg (show ¬ iI (a : Int) ≤ 6 from by rw [q_6]; exact nle (by omega) (by omega) (by omega))]
      obtain ⟨zr, r1, r2, r3, r4⟩ := x_ref X3 X2
      rw [bv_o r1]
      refine ⟨zr, rfl, fun a j p => r4 a j (by unfold xFr at p; omega), Or.inl ⟨ft T n s, iI (s : Int), ⟨hft.1, by omega, r2, r3, o.length, by omega, (r4 q 2 (by omega)).1.trans X4.1⟩, fun w k m hM hk hm => ?_⟩⟩
      obtain ⟨k, rfl⟩ : ∃ k', k = k' + 2 := ⟨k - 2, by omega⟩
      obtain ⟨m, rfl⟩ : ∃ m', m = m' + 1 := ⟨m - 1, by omega⟩
      have e44 := m44 w (k + 1) hM
      obtain ⟨hX, hK, h0, hS⟩ := hM
      obtain ⟨w1, g1, g2, g3, g4⟩ := m_wrong2 hT h0 hK
      obtain ⟨w3, c1, c2⟩ := m_openF (x := 21) (w := w1) (σ := σ) ⟨hft.1, by omega⟩ g2 (by omega) ((g4 172 21 (by omega)).1.trans hS.2.2.1)
      have f3 : w3.1 172 2 = iI (ft T n s) := (c2 172 2 (by omega) (by omega)).1.trans g2
      refine ⟨w3, ?_, f3, (c2 172 3 (by omega) (by omega)).1.trans g3, fun a j p => (g4 a j (by unfold mFr at p; omega)).tr (c2 a j (by unfold mFr at p; omega) (by unfold mFr at p; omega))⟩
      unfold mUf
      rw [e44, if_neg e6, bv_o g1]
      unfold fn_X12_unit_44
      rw [q_21, bv_o c1, bv_o (mf_u2 ⟨hft.1, by omega⟩ f3 k 1)]
      exact mf_S ⟨hft.1, by omega⟩ f3 m
  · rw [tr_n hnot, if_pos (show iI 0 = 0 from q_0.symm)]
    obtain ⟨z1, a1, a2, a3⟩ := hU z s σ o d u hs hX (hP.up (by omega)) (fun _ => Or.inl hnot) hV hdu
    rw [bv_o a1]
    refine ⟨z1, rfl, a2, ?_⟩
    rcases a3 with h | ⟨s', π, om, u', t1, t2, t3, t4, t5, t6, t7⟩
    · exact Or.inl h
    · obtain ⟨r1, r2, r3, r4, r5⟩ := t6
      refine Or.inr ⟨s', π, om, u', t1, t2, t3, t4, t5, ⟨fun x hx => ⟨(r1 x hx).1, (r1 x hx).2.1, by have := (r1 x hx).2.2; omega⟩, ?_, r3, r4, ?_⟩, t7⟩
      · have := hP.2.2.1
        unfold plL at r2 ⊢
        rw [if_pos (by omega)] at r2
        rw [if_neg (by omega)]
        omega
      · rcases r5 with h | h | h
        · exact Or.inl h
        · by_cases h0 : sg T n s' = 0
          · exact Or.inl h0
          · exact Or.inr (Or.inl (by have := sg_3 h0; omega))
        · exact Or.inr (Or.inr h)
/-! all of it -/
theorem CL_rec (hT : VT T n) (hq : q = 26 ∨ q = 29) (hf : f < 2) (hv : v ≤ 30) : ∀ N a : Nat, a ≤ 7 → 8 ≤ N + a → CLm T n q f v 1 a ((rec6 N).1 q (iI (a : Int))) ∧ CLm T n q f v 3 a ((rec6 N).2 q (iI (a : Int))) := by
  intro N
  induction N with
  | zero => intro a h1 h2; omega
  | succ N ih =>
    intro a h1 h2
    have hone : CLm T n q f v 3 a (fn_X6_one (rec6 N).1 (rec6 N).2 q (iI (a : Int))) := CL_one hT hq hf (CL_rel hT hq hf (CL_sum hT hq hf (CL_term hT hq hf (CL_unit hT hq hf hv fun h6 => (ih (a + 1) (by omega) (by omega)).1)))) fun h6 => (ih (a + 1) (by omega) (by omega)).2
    exact ⟨CL_either hT hq hf (CL_both hT hq hf hone), hone⟩
end
