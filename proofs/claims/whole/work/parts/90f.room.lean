theorem insA_comm (a b : Nat) : ∀ l, insA a (insA b l) = insA b (insA a l) := by
  intro l
  induction l with
  | nil =>
    show insA a [b] = insA b [a]
    show (if b < a then b :: insA a [] else a :: [b]) = (if a < b then a :: insA b [] else b :: [a])
    by_cases h1 : b < a
    · rw [if_pos h1, if_neg (by omega)]; rfl
    · rw [if_neg h1]
      by_cases h2 : a < b
      · rw [if_pos h2]; rfl
      · rw [if_neg h2, show a = b from by omega]
  | cons x t ih =>
    by_cases hb : x < b
    · by_cases ha : x < a
      · simp only [insA, if_pos hb, if_pos ha, ih]
      · simp only [insA, if_pos hb, if_neg ha, if_pos (show a < b from by omega)]
    · by_cases ha : x < a
      · simp only [insA, if_neg hb, if_pos ha, if_pos (show b < a from by omega)]
      · simp only [insA, if_neg hb, if_neg ha]
        by_cases h1 : b < a
        · simp only [insA, if_pos h1, if_neg (show ¬ a < b from by omega), if_neg ha]
        · by_cases h2 : a < b
          · simp only [if_neg h1, if_pos h2, insA, if_neg hb]
          · rw [if_neg h1, if_neg h2, show a = b from by omega]
theorem WL_one {C C' : Nat → Bool} {V : Nat → Nat} {g0 : Nat} (h0 : C g0 = true) (h1 : C' g0 = false) (h2 : ∀ g, g ≠ g0 → C' g = C g) : ∀ k, (k ≤ g0 → WL C V k = WL C' V k) ∧ (g0 < k → WL C V k = insA (V g0) (WL C' V k)) := by
  intro k
  induction k with
  | zero => exact ⟨fun _ => rfl, fun h => by omega⟩
  | succ k ih =>
    refine ⟨fun h => ?_, fun h => ?_⟩
    · rw [WL, WL, h2 k (by omega), ih.1 (by omega)]
    · by_cases e : k = g0
      · rw [WL, WL, e, if_pos h0, h1, ← e, ih.1 (by omega)]; rfl
      · rw [WL, WL, h2 k e, ih.2 (by omega)]
        split
        · rw [insA_comm]
        · rfl
/-- one more area and one more want that it feeds: one more is served -/
theorem more_ok {A A' : List Nat} {v B : Nat} (hv : v ≤ B) (hA : ∀ x, sv_cnt A x = sv_cnt A' x + (if x ≤ B then 1 else 0)) {k : Nat} : ∀ (ds : List Nat) (o : Nat), sv_up ds → k ≤ o + ds.length → (∀ j d, ds[j]? = some d → j + o < k → k ≤ sv_cnt A' d + (j + o)) → ∀ j d, (insA v ds)[j]? = some d → j + o < k + 1 → k + 1 ≤ sv_cnt A d + (j + o) := by
  intro ds
  induction ds with
  | nil =>
    intro o _ hk h j d hd hj
    rw [show insA v [] = [v] from rfl] at hd
    have hj0 : j = 0 := by have := (List.getElem?_eq_some_iff.mp hd).1; simp at this; exact this
    subst hj0
    have hdv : d = v := by simpa using hd.symm
    rw [hdv, hA v, if_pos hv]
    simp at hk
    omega
  | cons a t ih =>
    intro o hu hk h j d hd hj
    rw [insA] at hd
    rw [List.length_cons] at hk
    by_cases hav : a < v
    · rw [if_pos hav] at hd
      cases j with
      | zero =>
        have hda : d = a := by simpa using hd.symm
        rw [hda, hA a, if_pos (by omega)]
        by_cases ho : o < k
        · have := h 0 a rfl (by omega); omega
        · omega
      | succ j =>
        have := ih (o + 1) hu.2 (by omega) (fun j d hd hj => by have := h (j + 1) d hd (by omega); omega) j d (by simpa using hd) (by omega)
        omega
    · rw [if_neg hav] at hd
      cases j with
      | zero =>
        have hdv : d = v := by simpa using hd.symm
        rw [hdv, hA v, if_pos hv]
        by_cases ho : o < k
        · have h1 := h 0 a rfl (by omega)
          have h2 := sv_cnt_anti A' (show v ≤ a from by omega)
          omega
        · omega
      | succ j =>
        have := h j d (by simpa using hd) (by omega)
        rw [hA d]
        omega
section
variable {z w : St} {c : RC} {F0 F1 : FO} {b : BD}
theorem cA_one {C C' : Nat → Bool} {V : Nat → Nat} {p0 w : Nat} (h0 : C p0 = true) (h1 : C' p0 = false) (h2 : ∀ p, p ≠ p0 → C' p = C p) : ∀ k, cA C V w k = cA C' V w k + (if p0 < k ∧ w ≤ V p0 then 1 else 0) := by
  intro k
  induction k with
  | zero => rw [cA, cA, if_neg (by omega)]
  | succ k ih =>
    rw [cA, cA, ih]
    by_cases e : k = p0
    · subst e
      rw [h0, h1, if_neg (show ¬ (k < k ∧ w ≤ V k) from by omega), if_neg (show ¬ (false = true ∧ w ≤ V k) from fun q => by cases q.1)]
      by_cases hw : w ≤ V k
      · rw [if_pos ⟨rfl, hw⟩, if_pos ⟨by omega, hw⟩]
      · rw [if_neg fun q => hw q.2, if_neg fun q => hw q.2]
    · rw [h2 k e]
      have e2 : (p0 < k + 1 ∧ w ≤ V p0) = (p0 < k ∧ w ≤ V p0) := propext (by omega)
      simp only [e2]
      omega
/-- with a guest and a piece set aside that fit, one less at most is served -/
theorem sv_aside (hC : VC c) (hV : VB c b) {g p : Nat} (hg : (g : Int) < c 6 1) (hp1 : (p : Int) < b 168) (hh : hp b g = -1) (hf : pc b p 6 = -1) (hw : c 3 g ≤ ar c (pc b p)) : sv c b g p 0 + 1 ≤ sv c b (-1) (-1) 0 := by
  have hn := hV.1
  have hG := hC.2.1
  have hwg := hC.2.2.2.2 g hg
  have hv := Vp_b hC hV hp1
  have eD : WL (Cg b (-1)) (Vg c 0) (c 6 1).toNat = insA (Vg c 0 g) (WL (Cg b (g : Int)) (Vg c 0) (c 6 1).toNat) := (WL_one (C := Cg b (-1)) (C' := Cg b (g : Int)) (decide_eq_true ⟨by omega, hh⟩) (by unfold Cg; simp) (fun x hx => by unfold Cg; congr 1; exact propext (by omega)) _).2 (by omega)
  have eA : ∀ x, sv_cnt (WL (Cp b (-1)) (Vp c b) (b 168).toNat) x = sv_cnt (WL (Cp b (p : Int)) (Vp c b) (b 168).toNat) x + (if x ≤ Vp c b p then 1 else 0) := fun x => by
    rw [WL_cnt, WL_cnt, cA_one (C := Cp b (-1)) (C' := Cp b (p : Int)) (p0 := p) (decide_eq_true ⟨by omega, hf⟩) (by unfold Cp; simp) (fun q hq => by unfold Cp; congr 1; exact propext (by omega))]
    by_cases hx : x ≤ Vp c b p
    · rw [if_pos hx, if_pos ⟨by omega, hx⟩]
    · rw [if_neg hx, if_neg fun q => hx q.2]
  have s1 : sv c b g p 0 = (sv_de (sv_cnt (WL (Cp b (p : Int)) (Vp c b) (b 168).toNat)) (WL (Cg b (g : Int)) (Vg c 0) (c 6 1).toNat) : Int) := by
    rw [← svI_e]; exact svI_ext _ fun x _ => by rw [WL_cnt]
  have s2 : sv c b (-1) (-1) 0 = (sv_de (sv_cnt (WL (Cp b (-1)) (Vp c b) (b 168).toNat)) (insA (Vg c 0 g) (WL (Cg b (g : Int)) (Vg c 0) (c 6 1).toNat)) : Int) := by
    rw [← svI_e, ← eD]; exact svI_ext _ fun x _ => by rw [WL_cnt]
  rw [s1, s2]
  obtain ⟨o1, o2, o3⟩ := sv_de_ok (WL (Cp b (p : Int)) (Vp c b) (b 168).toNat) (WL (Cg b (g : Int)) (Vg c 0) (c 6 1).toNat) (WL_up _)
  obtain ⟨q1, q2, q3⟩ := sv_de_ok (WL (Cp b (-1)) (Vp c b) (b 168).toNat) (insA (Vg c 0 g) (WL (Cg b (g : Int)) (Vg c 0) (c 6 1).toNat)) (insA_up (WL_up _))
  have := q3 (sv_de (sv_cnt (WL (Cp b (p : Int)) (Vp c b) (b 168).toNat)) (WL (Cg b (g : Int)) (Vg c 0) (c 6 1).toNat) + 1) (by rw [insA_len]; omega) (fun j d hj hd => more_ok (B := Vp c b p) (by unfold Vg Vp; omega) eA _ 0 (WL_up _) (by omega) (fun j d hd hj => o1 j d (by omega) hd) j d hd (by omega))
  omega
/-- how much more a guest could want -/
def rmS (c : RC) (b : BD) (g : Nat) : Nat → Int
  | 0 => -1
  | p + 1 => if (pc b p 6 = -1 ∧ c 3 g ≤ ar c (pc b p) ∧ sv c b (-1) (-1) 0 ≤ sv c b g p 0 + 1) ∧ rmS c b g p < ar c (pc b p) - c 3 g then ar c (pc b p) - c 3 g else rmS c b g p
theorem rmS_b (hC : VC c) (hV : VB c b) {g : Nat} (hg : (g : Int) < c 6 1) : ∀ k : Nat, (k : Int) ≤ b 168 → -1 ≤ rmS c b g k ∧ rmS c b g k ≤ 576 := by
  intro k
  induction k with
  | zero => intro _; rw [rmS]; omega
  | succ k ih =>
    intro hk
    have := ih (by omega)
    have ha := ar_b hC (hV.2.2.1 k (by omega))
    have hw := hC.2.2.2.2 g hg
    rw [rmS]
    split <;> omega
theorem sv_b (c : RC) (b : BD) (g0 p0 mo : Int) (hC : VC c) : 0 ≤ sv c b g0 p0 mo ∧ sv c b g0 p0 mo ≤ 6 := by
  have h1 := svI_b (fun w => (cA (Cp b p0) (Vp c b) w (b 168).toNat : Int)) (WL (Cg b g0) (Vg c mo) (c 6 1).toNat)
  have h2 := WL_len (C := Cg b g0) (V := Vg c mo) (c 6 1).toNat
  have := hC.2.1
  unfold sv
  omega
theorem x_room {g : Nat} (h : RXs z c F0 F1 b) (hg : (g : Int) < c 6 1) (hh : hp b g = -1) : ∃ w, fn_X8_roomOf (iI (g : Int)) z = some (iI (rmS c b g (b 168).toNat), w) := by
  have hC := h.1
  have hV := h.2.1
  have hn := hV.1
  have hG := hC.2.1
  have hw := hC.2.2.2.2 g hg
  obtain ⟨w1, e1⟩ := x_served (mo := 0) h (by omega)
  have f1 : ∀ a j, sFr a j → SA z w1 a j := fun a j q => ff_X8_servedIf (by unfold sFr at q; show ¬ a = 155 ∧ ¬ a = 154 ∧ ¬ (a = 153 ∧ j = 4); omega) e1
  have h1 := h.sfr f1
  obtain ⟨w2, e2, g1, g2⟩ := x_prepare (g0 := (g : Int)) (mo := 0) h1 (by omega) (by omega)
  have f2 : ∀ a j, sFr a j → SA z w2 a j := fun a j q => (f1 a j q).tr (g2 a j (Or.inl q))
  have hs0 := sv_b c b (-1) (-1) 0 hC
  obtain ⟨m, s, ⟨i1, i2⟩, hm⟩ := loopE (fun m p s => fn_X8_roomOf_41 m (iI (sv c b (-1) (-1) 0)) (iI (c 3 g)) (iI (rmS c b g p)) (iI (p : Int)) s) (fun p s => SX s (WL (Cg b (g : Int)) (Vg c 0) (c 6 1).toNat) (fun x => (cA (Cp b (-1)) (Vp c b) x (b 168).toNat : Int)) ∧ ∀ a j, sFr a j → SA z s a j) (b 168).toNat (by omega) w2 ⟨g1, f2⟩ (fun p m s hp ⟨i1, i2⟩ => by
    have hpb : (p : Int) < b 168 := by omega
    have h24 := hV.n hpb
    have Ms := h.sfr i2
    have hv := Vp_b hC hV hpb
    have hab := ar_b hC (hV.2.2.1 p hpb)
    have hrb := rmS_b hC hV hg p (by omega)
    have hsp := sv_b c b (g : Int) (p : Int) 0 hC
    show ∃ s', _ ∧ fn_X8_roomOf_41 (m + 1) _ _ _ _ _ = fn_X8_roomOf_41 m _ _ _ _ _
    rw [fn_X8_roomOf_41, Ms.2.2.2.2.2.1.1, if_neg (nle (by omega) (by omega) (by omega)), gd_t (iI_ix (by omega)), iI_clampN (by omega), bd_o (x_area Ms.2.2.2.2.1 hC (Ms.2.2.2.2.2.1.2.2.2.1 p hpb) (hV.2.2.1 p hpb)), bd_o (x_isFreeP hC Ms.2.2.2.2.2.1 hV hpb)]
    unfold fn_X8_roomOf_116 fn_X8_roomOf_123
    rw [k1]
    by_cases hf : pc b p 6 = -1
    · rw [tr_1 hf, if_neg (show ¬ iI 1 = 0 from by decide), iI_sub]
      by_cases hlt : rmS c b g p < ar c (pc b p) - c 3 g
      · have hwa : c 3 g ≤ ar c (pc b p) := by omega
        have hasd := sv_aside hC hV hg hpb hh hf hwa
        obtain ⟨s1, n1, n2, n3⟩ := x_count (A := Vp c b p) (by' := -1) i1 hv.2
        have ee : ∀ x, (cA (Cp b (-1)) (Vp c b) x (b 168).toNat : Int) + (if x ≤ Vp c b p then -1 else 0) = (cA (Cp b (p : Int)) (Vp c b) x (b 168).toNat : Int) := fun x => by
          rw [cA_one (C := Cp b (-1)) (C' := Cp b (p : Int)) (p0 := p) (decide_eq_true ⟨by omega, hf⟩) (by unfold Cp; simp) (fun q hq => by unfold Cp; congr 1; exact propext (by omega))]
          by_cases hx : x ≤ Vp c b p
          · rw [if_pos hx, if_pos ⟨by omega, hx⟩]; omega
          · rw [if_neg hx, if_neg fun q => hx q.2]; omega
        have n2' := n2.ex (f := fun x => (cA (Cp b (p : Int)) (Vp c b) x (b 168).toNat : Int)) fun x _ => (ee x).symm
        obtain ⟨s2, o1, o2, o3⟩ := x_count (A := Vp c b p) (by' := 1) n2' hv.2
        have o2' := o2.ex (f := fun x => (cA (Cp b (-1)) (Vp c b) x (b 168).toNat : Int)) fun x _ => by
          show (cA (Cp b (-1)) (Vp c b) x (b 168).toNat : Int) = (cA (Cp b (p : Int)) (Vp c b) x (b 168).toNat : Int) + (if x ≤ Vp c b p then 1 else 0)
          rw [← ee x]
          split <;> omega
        have fr : ∀ a j, sFr a j → SA z s2 a j := fun a j q => ((i2 a j q).tr (n3 a j q.2.2)).tr (o3 a j q.2.2)
        rw [if_neg (show ¬ iI (ar c (pc b p) - c 3 g) ≤ iI (rmS c b g p) from nle (by omega) (by omega) (by omega)), ← hv.1, q_m1, bv_o n1, bd_o (x_matched n2' fun x _ => by have := cA_b (C := Cp b (p : Int)) (V := Vp c b) (w := x) (b 168).toNat; omega), show svI (fun x => (cA (Cp b (p : Int)) (Vp c b) x (b 168).toNat : Int)) (WL (Cg b (g : Int)) (Vg c 0) (c 6 1).toNat) = sv c b g p 0 from rfl, q_1, iI_add, bv_o o1]
        refine ⟨s2, ⟨o2', fr⟩, ?_⟩
        rw [rmS]
        by_cases hal : sv c b g p 0 + 1 = sv c b (-1) (-1) 0
        · rw [if_pos (show iI (sv c b g p 0 + 1) = iI (sv c b (-1) (-1) 0) from by rw [hal]), nm_o, bv_o o1, hv.1, if_pos ⟨⟨hf, hwa, by omega⟩, hlt⟩]
        · rw [if_neg (show ¬ iI (sv c b g p 0 + 1) = iI (sv c b (-1) (-1) 0) from neq (by omega) (by omega) hal), if_neg (fun q => by omega)]
      · rw [if_pos (show iI (ar c (pc b p) - c 3 g) ≤ iI (rmS c b g p) from yle (by omega) (by omega) (by omega)), rmS, if_neg (fun q => hlt q.2)]
        exact ⟨s, ⟨i1, i2⟩, rfl⟩
    · rw [tr_n hf, if_pos (show iI 0 = 0 from q_0.symm), rmS, if_neg (fun q => hf q.1.1)]
      exact ⟨s, ⟨i1, i2⟩, rfl⟩)
  refine ⟨s, ?_⟩
  unfold fn_X8_roomOf
  rw [bd_o (x_isGuest h.2.2.2.2.1 hC (by omega)), tr_1 (by omega), if_neg (by decide), show (0 : Int32) = iI 0 from q_0, bd_o e1, gd_t (iI_ix (by omega)), nm_o, iI_clampN (by omega), (h1.2.2.2.2.1.2.2.2.2 g hg).1, bv_o e2]
  refine (show _ = fn_X8_roomOf_41 fu (iI (sv c b (-1) (-1) 0)) (iI (c 3 g)) (iI (-1)) (iI ((0 : Nat) : Int)) w2 from by rw [← q_m1]; rfl).trans (hm.trans ?_)
  show fn_X8_roomOf_41 (m + 1) _ _ _ _ _ = _
  rw [fn_X8_roomOf_41, (h.sfr i2).2.2.2.2.2.1.1, if_pos (yle (by omega) (by omega) (by omega))]
theorem m_room {g : Nat} (h : RM z c F0 F1 b) (h57 : z.1 172 57 = 0) (hg : (g : Int) < c 6 1) : ∃ w, fn_X12_room_34 fu (iI (g : Int)) (iI (sv c b (-1) (-1) 0)) (-1) 0 z = some (iI (rmS c b g (b 168).toNat), w) := by
  have hC := h.1
  have hV := h.2.1
  have hn := hV.1
  have hG := hC.2.1
  have hw := hC.2.2.2.2 g hg
  have hs0 := sv_b c b (-1) (-1) 0 hC
  obtain ⟨m, s, ⟨i1, i2⟩, hm⟩ := loopE (fun m p s => fn_X12_room_34 m (iI (g : Int)) (iI (sv c b (-1) (-1) 0)) (iI (rmS c b g p)) (iI (p : Int)) s) (fun p s => RM s c F0 F1 b ∧ s.1 172 57 = 0) (b 168).toNat (by omega) z ⟨h, h57⟩ (fun p m s hp ⟨Ms, i57⟩ => by
    have hpb : (p : Int) < b 168 := by omega
    have e168 : s.1 198 168 = iI (b 168) := Ms.2.2.2.2.2.1.1
    have hab := ar_b hC (hV.2.2.1 p hpb)
    have hrb := rmS_b hC hV hg p (by omega)
    have hsp := sv_b c b (g : Int) (p : Int) 0 hC
    show ∃ s', _ ∧ fn_X12_room_34 (m + 1) _ _ _ _ _ = fn_X12_room_34 m _ _ _ _ _
    rw [fn_X12_room_34, c_168, e168, if_neg (nle (by omega) (by omega) (by omega)), bd_o (m_isFree hC Ms.2.2.2.2.2.1 hV hpb)]
    unfold fn_X12_room_111 fn_X12_room_139 fn_X12_room_140
    rw [k1, rmS]
    by_cases hf : pc b p 6 = -1
    · rw [tr_1 hf, if_neg (show ¬ iI 1 = 0 from by decide), bd_o (m_area Ms.2.2.2.2.1 hC Ms.2.2.2.2.2.1 hV hpb), gd_t (iI_ix (by omega)), iI_clampN (by omega), (Ms.2.2.2.2.1.2.2.2.2 g hg).1]
      by_cases hwa : c 3 g ≤ ar c (pc b p)
      · obtain ⟨t, e⟩ := m_servedBut (g0 := (g : Int)) (p0 := (p : Int)) (mo := 0) Ms (by rw [i57]; exact q_0) (by omega) (by omega) (by omega)
        have ft : ∀ a j, ¬ a = 200 ∧ ¬ (a = 172 ∧ j = 55) ∧ ¬ a = 201 ∧ ¬ (a = 172 ∧ j = 56) → SA s t a j := fun a j q => ff_X12_servedBut q e
        have Mt : RM t c F0 F1 b := Ms.fr fun a j q => ft a j (by unfold QM QR at q; omega)
        have t57 : t.1 172 57 = 0 := (ft 172 57 (by omega)).1.trans i57
        rw [if_neg (show ¬ iI (ar c (pc b p)) < iI (c 3 g) from nlt (by omega) (by omega) (by omega)), bd_o e, q_1, iI_add, bd_o (m_area Mt.2.2.2.2.1 hC Mt.2.2.2.2.2.1 hV hpb), if_neg (show ¬ (999 : Int32) ≤ iI (ar c (pc b p)) from by rw [q_999]; exact nle (by omega) (by omega) (by omega)), bd_o (m_area Mt.2.2.2.2.1 hC Mt.2.2.2.2.2.1 hV hpb), gd_t (iI_ix (by omega)), gd_t (iI_ix (by omega)), (Mt.2.2.2.2.1.2.2.2.2 g hg).1, iI_sub]
        refine ⟨t, ⟨Mt, t57⟩, ?_⟩
        by_cases hal : sv c b (-1) (-1) 0 ≤ sv c b g p 0 + 1
        · rw [if_pos (show iI (sv c b (-1) (-1) 0) ≤ iI (sv c b g p 0 + 1) from yle (by omega) (by omega) hal)]
          by_cases hlt : rmS c b g p < ar c (pc b p) - c 3 g
          · rw [if_neg (show ¬ iI (ar c (pc b p) - c 3 g) ≤ iI (rmS c b g p) from nle (by omega) (by omega) (by omega)), if_pos ⟨⟨hf, hwa, hal⟩, hlt⟩]
          · rw [if_pos (show iI (ar c (pc b p) - c 3 g) ≤ iI (rmS c b g p) from yle (by omega) (by omega) (by omega)), if_neg (fun q => hlt q.2)]
        · rw [if_neg (show ¬ iI (sv c b (-1) (-1) 0) ≤ iI (sv c b g p 0 + 1) from nle (by omega) (by omega) hal), if_neg (fun q => hal q.1.2.2)]
      · rw [if_pos (show iI (ar c (pc b p)) < iI (c 3 g) from ylt (by omega) (by omega) (by omega)), if_neg (fun q => hwa q.1.2.1)]
        exact ⟨s, ⟨Ms, i57⟩, rfl⟩
    · rw [tr_n hf, if_pos (show iI 0 = 0 from q_0.symm), if_neg (fun q => hf q.1.1)]
      exact ⟨s, ⟨Ms, i57⟩, rfl⟩)
  refine ⟨s, (show _ = fn_X12_room_34 fu (iI (g : Int)) (iI (sv c b (-1) (-1) 0)) (iI (-1)) (iI ((0 : Nat) : Int)) z from by rw [← q_m1, z0]).trans (hm.trans ?_)⟩
  show fn_X12_room_34 (m + 1) _ _ _ _ _ = _
  rw [fn_X12_room_34, c_168, show s.1 198 168 = iI (b 168) from i1.2.2.2.2.2.1.1, if_pos (yle (by omega) (by omega) (by omega))]
theorem s_room (v : Int32) (h : RD z c F0 F1 b) : Same (fn_X11_room v) (fn_X12_room v) z := by
  obtain ⟨n, rfl, hn⟩ := ii v
  have hC := h.vc
  have hV := h.vb
  have hv0 := hV.1
  have hb := hp_b hV n
  refine qry (if (0 ≤ n ∧ n < c 6 1) ∧ hp b n = -1 then iI (rmS c b n.toNat (b 168).toNat) else -1) h (fun z h => ?_) (fun z w e a k h => ff_X11_room (by unfold PS at h; show ¬ a = 155 ∧ ¬ a = 154 ∧ ¬ (a = 153 ∧ k = 4); omega) e) (fun z h => ?_) (fun z w e a k h => ff_X12_room (by unfold PS at h; show ¬ a = 200 ∧ ¬ (a = 172 ∧ k = 55) ∧ ¬ a = 201 ∧ ¬ (a = 172 ∧ k = 56) ∧ ¬ a = 198; omega) e)
  · unfold fn_X11_room
    rw [bd_o (x_isGuest h.xr hC hn)]
    by_cases g1 : 0 ≤ n ∧ n < c 6 1
    · have g6 := hC.g (t := n.toNat) (by omega)
      rw [tr_1 g1, if_neg (show ¬ iI 1 = 0 from by decide), nn g1.1, gd_t (iI_ix (by omega)), iI_clampN (by omega), show z.1 60 n.toNat = iI (hp b n) from by rw [hpN g1.1]; exact h.xb.2.2.2.2 _ g6]
      by_cases g2 : hp b n = -1
      · obtain ⟨w, e⟩ := x_room (g := n.toNat) h.xs (by omega) (by rw [← hpN g1.1]; exact g2)
        rw [if_pos (show iI (hp b n) = -1 from by rw [g2]; exact q_m1.symm), bd_o e, if_pos ⟨g1, g2⟩]
        exact ⟨w, rfl⟩
      · rw [if_neg (show ¬ iI (hp b n) = -1 from by rw [q_m1]; exact neq (by omega) (by omega) g2), if_neg (fun q => g2 q.2)]
        exact ⟨z, rfl⟩
    · rw [tr_n g1, if_pos (show iI 0 = 0 from q_0.symm), if_neg (fun q => g1 q.1)]
      exact ⟨z, rfl⟩
  · have hM := h.ld
    unfold fn_X12_room
    rw [bv_o (m_load z), bd_o (m_isGuest hM.2.2.2.2.1 hC hn)]
    by_cases g1 : 0 ≤ n ∧ n < c 6 1
    · rw [tr_1 g1, if_neg (show ¬ iI 1 = 0 from by decide), bd_o (m_pieceOf hC hM.2.2.2.2.2.1 hV hn)]
      by_cases g2 : hp b n = -1
      · have m57 : (ldz z).1 172 57 = 0 := (ldz_S (by omega)).1.trans h.mo
        obtain ⟨w, e⟩ := m_servedBut (g0 := -1) (p0 := -1) (mo := 0) hM (by rw [m57]; exact q_0) (by omega) (by omega) (by omega)
        have fw : ∀ a j, ¬ a = 200 ∧ ¬ (a = 172 ∧ j = 55) ∧ ¬ a = 201 ∧ ¬ (a = 172 ∧ j = 56) → SA (ldz z) w a j := fun a j q => ff_X12_servedBut q e
        obtain ⟨w2, e2⟩ := m_room (g := n.toNat) (z := w) (hM.fr fun a j q => fw a j (by unfold QM QR at q; omega)) ((fw 172 57 (by omega)).1.trans m57) (by omega)
        rw [if_pos (show iI (hp b n) < 0 from by rw [g2]; decide), show fn_X12_servedBut (-1) (-1) (ldz z) = fn_X12_servedBut (iI (-1)) (iI (-1)) (ldz z) from by rw [q_m1], bd_o e, if_pos ⟨g1, g2⟩, nn g1.1]
        exact ⟨w2, e2⟩
      · rw [if_neg (show ¬ iI (hp b n) < 0 from by rw [q_0]; exact nlt (by omega) (by omega) (by omega)), if_neg (fun q => g2 q.2)]
        exact ⟨_, rfl⟩
    · rw [tr_n g1, if_pos (show iI 0 = 0 from q_0.symm), if_neg (fun q => g1 q.1)]
      exact ⟨_, rfl⟩
end
