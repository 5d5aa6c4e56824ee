section
variable {z w : St} {c : RC} {F0 F1 : FO} {b : BD}
def hqq (C R a : Nat) (x : Nat × Nat) : Bool := hic (C / x.1) (R / x.2) x.1 x.2 a
def ye (C R : Nat) (l : List (Nat × Nat)) (a : Nat) : Nat := l.countP (hqq C R a)
/-- how many are left at most by an answer -/
def lv (C R : Nat) (l : List (Nat × Nat)) (a : Nat) : Int := if ye C R l a ≤ l.length - ye C R l a then ((l.length - ye C R l a : Nat) : Int) else (ye C R l a : Int)
theorem ye_le (C R : Nat) (l : List (Nat × Nat)) (a : Nat) : ye C R l a ≤ l.length := List.countP_le_length
theorem lv_b {C R : Nat} {l : List (Nat × Nat)} {a : Nat} (h : l.length ≤ 16) : 0 ≤ lv C R l a ∧ lv C R l a ≤ 16 := by
  have := ye_le C R l a
  unfold lv
  split <;> omega
/-- the best icing of the first k + 1 -/
def bq (C R : Nat) (l : List (Nat × Nat)) : Nat → Nat
  | 0 => 0
  | k + 1 => if lv C R l (k + 1) < lv C R l (bq C R l k) then k + 1 else bq C R l k
theorem bq_le (C R : Nat) (l : List (Nat × Nat)) : ∀ k, bq C R l k ≤ k := by
  intro k
  induction k with
  | zero => exact Nat.le_refl 0
  | succ k ih => rw [bq]; split <;> omega
theorem m_leftBy {C R n a : Nat} {sg : SG} {k : Int} (hV : VS n sg) (hM : MSg z n sg) (hk : -2147483648 ≤ k ∧ k < 2147483648) (e0 : ∃ T : Int, 1 ≤ T ∧ T ≤ 3 ∧ z.1 172 43 = iI T) (e1 : z.1 188 0 = iI (C : Int)) (e2 : z.1 189 0 = iI (R : Int)) (hC : 1 ≤ C ∧ C ≤ 8) (hR : 1 ≤ R ∧ R ≤ 8) (ha : a ≤ 32) : fn_X12_leftBy (iI (a : Int)) (iI k) z = some (iI (lv C R (LI (fitb C R n sg k) 8) a), z) := by
  have len : ∀ (l : List (Nat × Nat)) (x : Nat × Nat), ye C R (l ++ [x]) a = ye C R l a + (if hqq C R a x then 1 else 0) := fun l x => by
    unfold ye
    rw [List.countP_append, List.countP_singleton]
  obtain ⟨m, hm⟩ := loopK (fun m p => fn_X12_leftBy_8 m (iI (a : Int)) (iI k) (iI ((ye C R (LI (fitb C R n sg k) p) a : Nat) : Int)) (iI (((LI (fitb C R n sg k) p).length - ye C R (LI (fitb C R n sg k) p) a : Nat) : Int)) (iI ((p + 1 : Nat) : Int)) z) 8 (by omega) (fun p m hp => by
    show fn_X12_leftBy_8 (m + 1) _ _ _ _ _ _ = fn_X12_leftBy_8 m _ _ _ _ _ _
    rw [fn_X12_leftBy_8, if_neg (by rw [q_8]; exact nlt (by omega) (by omega) (by omega))]
    obtain ⟨m2, hm2⟩ := loopK (fun m2 q => fn_X12_leftBy_18 (fn_X12_leftBy_8 m) m2 (iI (a : Int)) (iI k) (iI ((ye C R (LJ (fitb C R n sg k) (p + 1) (LI (fitb C R n sg k) p) q) a : Nat) : Int)) (iI (((LJ (fitb C R n sg k) (p + 1) (LI (fitb C R n sg k) p) q).length - ye C R (LJ (fitb C R n sg k) (p + 1) (LI (fitb C R n sg k) p) q) a : Nat) : Int)) (iI ((p + 1 : Nat) : Int)) (iI ((q + 1 : Nat) : Int)) z) 8 (by omega) (fun q m2 hq => by
      show fn_X12_leftBy_18 _ (m2 + 1) _ _ _ _ _ _ _ = fn_X12_leftBy_18 _ m2 _ _ _ _ _ _ _
      rw [fn_X12_leftBy_18, if_neg (by rw [q_8]; exact nlt (by omega) (by omega) (by omega)), bd_o (m_isFit hV hM hk e0 e1 e2 hC hR (by omega) (by omega)), LJ]
      unfold fn_X12_leftBy_61
      rw [k1]
      by_cases h : fitb C R n sg k (p + 1) (q + 1) = true
      · have hy := ye_le C R (LJ (fitb C R n sg k) (p + 1) (LI (fitb C R n sg k) p) q) a
        rw [tr_1 h, if_neg (by decide), if_pos h, bd_o (m_hasIcing e1 e2 hC.2 hR.2 (by omega) (by omega) (by omega)), len, List.length_append]
        by_cases hc : hic (C / (p + 1)) (R / (q + 1)) (p + 1) (q + 1) a = true
        · rw [tr_1 hc, if_neg (by decide), k1, if_pos (show hqq C R a (p + 1, q + 1) = true from hc)]
          congr 3
          simp
        · rw [tr_n hc, if_pos (show iI 0 = 0 from q_0.symm), k1, if_neg (show ¬ hqq C R a (p + 1, q + 1) = true from hc)]
          congr 3
          simp
          omega
      · rw [tr_n h, if_pos (show iI 0 = 0 from q_0.symm), if_neg h])
    refine (show _ = fn_X12_leftBy_18 (fn_X12_leftBy_8 m) fu (iI (a : Int)) (iI k) (iI ((ye C R (LI (fitb C R n sg k) p) a : Nat) : Int)) (iI (((LI (fitb C R n sg k) p).length - ye C R (LI (fitb C R n sg k) p) a : Nat) : Int)) (iI ((p + 1 : Nat) : Int)) (iI ((0 + 1 : Nat) : Int)) z from by rw [show iI ((0 + 1 : Nat) : Int) = 1 from q_1.symm]).trans (hm2.trans ?_)
    rw [fn_X12_leftBy_18, if_pos (by rw [q_8]; exact ylt (by omega) (by omega) (by omega)), k1]
    rfl)
  have h16 := LI_16 (n := n) (sg := sg) (k := k) hC.2 hR.2
  have hy := ye_le C R (LI (fitb C R n sg k) 8) a
  unfold fn_X12_leftBy
  refine (show _ = fn_X12_leftBy_8 fu (iI (a : Int)) (iI k) (iI ((ye C R (LI (fitb C R n sg k) 0) a : Nat) : Int)) (iI (((LI (fitb C R n sg k) 0).length - ye C R (LI (fitb C R n sg k) 0) a : Nat) : Int)) (iI ((0 + 1 : Nat) : Int)) z from by rw [show iI ((0 + 1 : Nat) : Int) = 1 from q_1.symm]; rfl).trans (hm.trans ?_)
  rw [fn_X12_leftBy_8, if_pos (by rw [q_8]; exact ylt (by omega) (by omega) (by omega))]
  unfold lv
  by_cases hl : ye C R (LI (fitb C R n sg k) 8) a ≤ (LI (fitb C R n sg k) 8).length - ye C R (LI (fitb C R n sg k) 8) a
  · rw [if_pos (yle (by omega) (by omega) (by omega)), if_pos hl]
  · rw [if_neg (nle (by omega) (by omega) (by omega)), if_neg hl]
theorem m_ask24 {C R n : Nat} {sg : SG} {k y : Int} (hV : VS n sg) (hM : MSg z n sg) (hk : -2147483648 ≤ k ∧ k < 2147483648) (hy : 0 ≤ y ∧ y ≤ 1) (e0 : ∃ T : Int, 1 ≤ T ∧ T ≤ 3 ∧ z.1 172 43 = iI T) (e1 : z.1 188 0 = iI (C : Int)) (e2 : z.1 189 0 = iI (R : Int)) (hC : 1 ≤ C ∧ C ≤ 8) (hR : 1 ≤ R ∧ R ≤ 8) : fn_X12_ask_24 fu (iI y) (iI k) 0 1 z = some (if y = 0 then iI ((bq C R (LI (fitb C R n sg k) 8) 32 : Nat) : Int) else iI (lv C R (LI (fitb C R n sg k) 8) (bq C R (LI (fitb C R n sg k) 8) 32)), z) := by
  have h16 := LI_16 (n := n) (sg := sg) (k := k) hC.2 hR.2
  obtain ⟨m, hm⟩ := loopK (fun m a => fn_X12_ask_24 m (iI y) (iI k) (iI ((bq C R (LI (fitb C R n sg k) 8) a : Nat) : Int)) (iI ((a + 1 : Nat) : Int)) z) 32 (by omega) (fun a m ha => by
    have hb := bq_le C R (LI (fitb C R n sg k) 8) a
    have l1 := lv_b (C := C) (R := R) (a := a + 1) h16
    have l2 := lv_b (C := C) (R := R) (a := bq C R (LI (fitb C R n sg k) 8) a) h16
    show fn_X12_ask_24 (m + 1) _ _ _ _ _ = fn_X12_ask_24 m _ _ _ _ _
    rw [fn_X12_ask_24, if_neg (by rw [q_32]; exact nlt (by omega) (by omega) (by omega)), bd_o (m_leftBy hV hM hk e0 e1 e2 hC hR (by omega)), bd_o (m_leftBy hV hM hk e0 e1 e2 hC hR (by omega)), bq]
    unfold fn_X12_ask_53
    rw [k1]
    by_cases hl : lv C R (LI (fitb C R n sg k) 8) (a + 1) < lv C R (LI (fitb C R n sg k) 8) (bq C R (LI (fitb C R n sg k) 8) a)
    · rw [if_neg (nle (by omega) (by omega) (by omega)), if_pos hl]
    · rw [if_pos (yle (by omega) (by omega) (by omega)), if_neg hl])
  have hb := bq_le C R (LI (fitb C R n sg k) 8) 32
  refine (show _ = fn_X12_ask_24 fu (iI y) (iI k) (iI ((0 : Nat) : Int)) (iI ((0 + 1 : Nat) : Int)) z from by rw [z0, show iI ((0 + 1 : Nat) : Int) = 1 from q_1.symm]).trans (hm.trans ?_)
  rw [fn_X12_ask_24, if_pos (by rw [q_32]; exact ylt (by omega) (by omega) (by omega))]
  by_cases y0 : y = 0
  · rw [if_pos (by rw [y0]; exact q_0.symm), if_pos y0]
  · rw [if_neg (i0_ne (by omega) y0), if_neg y0, bd_o (m_leftBy hV hM hk e0 e1 e2 hC hR (by omega))]
/-- x's pairs are grids of the tier -/
def okg (C R : Nat) (l : List (Nat × Nat)) : Prop := ∀ a ∈ l, gok C R a.1 a.2 = true
theorem okg_J {C R : Nat} {P : Nat → Nat → Bool} {p : Nat} {l : List (Nat × Nat)} (hP : ∀ p q, P p q = true → gok C R p q = true) (hl : okg C R l) : ∀ k, okg C R (LJ P p l k) := by
  intro k
  induction k with
  | zero => exact hl
  | succ k ih =>
    intro a ha
    rw [LJ] at ha
    split at ha
    · rename_i h
      rcases List.mem_append.mp ha with h' | h'
      · exact ih a h'
      · rw [List.mem_singleton] at h'
        rw [h']
        exact hP _ _ h
    · exact ih a ha
theorem okg_I {C R : Nat} {P : Nat → Nat → Bool} (hP : ∀ p q, P p q = true → gok C R p q = true) : ∀ k, okg C R (LI P k) := by
  intro k
  induction k with
  | zero => intro a ha; cases ha
  | succ k ih => exact okg_J hP ih 8
theorem x_question {C R : Nat} {l : List (Nat × Nat)} (hC : C ≤ 8) (hR : R ≤ 8) (hG : GX C R z l) (ho : okg C R l) (h16 : l.length ≤ 16) : ∃ w, fn_X4_findQuestion z = some w ∧ w.1 162 13 = iI ((bq C R l 32 : Nat) : Int) ∧ w.1 162 14 = iI (lv C R l (bq C R l 32)) := by
  obtain ⟨m, s, ⟨i1, i2⟩, hm⟩ := loopE (fun m a s => fn_X4_findQuestion_7 m (iI (a : Int)) s) (fun a s => (GX C R s l ∧ (a = 0 → s.1 162 13 = iI (-1))) ∧ ∀ a', a = a' + 1 → s.1 162 13 = iI ((bq C R l a' : Nat) : Int) ∧ s.1 162 14 = iI (lv C R l (bq C R l a'))) 33 (by omega) (sI z 162 13 (-1)) ⟨⟨⟨(sa_I (a := 162) (k := 10) rfl (by omega)).1.trans hG.1, fun i p q h => hG.2 i p q h⟩, fun _ => by rw [sI_at, if_pos rfl, q_m1]⟩, fun a' h => absurd h (by omega)⟩ (fun a m s ha ⟨⟨i1, i0⟩, i2⟩ => by
    obtain ⟨m2, hm2⟩ := loopK (fun m2 i => fn_X4_findQuestion_17 (fn_X4_findQuestion_7 m) m2 (iI (a : Int)) (iI ((ye C R (l.take i) a : Nat) : Int)) (iI (i : Int)) s) l.length (by omega) (fun i m2 hi => by
      obtain ⟨x, hx⟩ : ∃ x, l[i]? = some x := ⟨l[i], List.getElem?_eq_getElem hi⟩
      have hxm : x ∈ l := List.mem_of_getElem? hx
      have hg := i1.2 i x.1 x.2 hx
      obtain ⟨q1, q2, q3, q4, q5, q6⟩ := gok_s (ho x hxm) hC hR
      have hbt : bt64 (isI (C / x.1) (R / x.2) x.1 x.2 x.1) a = hqq C R a x := bt_hic q1 q2 (by omega)
      show fn_X4_findQuestion_17 _ (m2 + 1) _ _ _ _ = fn_X4_findQuestion_17 _ m2 _ _ _ _
      rw [fn_X4_findQuestion_17, i1.1, if_neg (nle (by omega) (by omega) (by omega)), gd_t (iI_ix (by omega)), iI_clampN (by omega), hg.2.2]
      unfold fn_X4_findQuestion_43
      have et : ye C R (l.take (i + 1)) a = ye C R (l.take i) a + (if hqq C R a x then 1 else 0) := by
        unfold ye
        rw [List.take_succ, hx, Option.toList_some, List.countP_append, List.countP_singleton]
      rw [et]
      by_cases hh : hqq C R a x = true
      · rw [if_pos ((cmp_0 _ _).mpr (eq_of_beq (hbt.trans hh))), if_pos hh, k1, k1]
      · rw [if_neg (fun e => hh (hbt.symm.trans (beq_iff_eq.mpr ((cmp_0 _ _).mp e)))), if_neg hh, k1, Nat.add_zero (ye C R (List.take i l) a)])
    have hye := ye_le C R l a
    rw [List.take_length] at hm2
    have elv : (if iI ((ye C R l a : Nat) : Int) < iI (l.length : Int) - iI ((ye C R l a : Nat) : Int) then iI (l.length : Int) - iI ((ye C R l a : Nat) : Int) else iI ((ye C R l a : Nat) : Int)) = iI (lv C R l a) := by
      rw [iI_sub]
      unfold lv
      by_cases hl : ye C R l a ≤ l.length - ye C R l a
      · rw [if_pos hl]
        by_cases hl2 : ye C R l a = l.length - ye C R l a
        · rw [if_neg (nlt (by omega) (by omega) (by omega)), ← hl2]
        · rw [if_pos (ylt (by omega) (by omega) (by omega))]
          congr 1
          omega
      · rw [if_neg hl, if_neg (nlt (by omega) (by omega) (by omega))]
    have l1 := lv_b (C := C) (R := R) (a := a) h16
    have e7 : fn_X4_findQuestion_7 (m + 1) (iI (a : Int)) s = (if s.1 162 13 = -1 then fn_X4_findQuestion_76 (fn_X4_findQuestion_7 m) (iI (a : Int)) (iI (lv C R l a)) s else (if s.1 162 14 ≤ iI (lv C R l a) then fn_X4_findQuestion_86 (fn_X4_findQuestion_7 m) (iI (a : Int)) s else fn_X4_findQuestion_76 (fn_X4_findQuestion_7 m) (iI (a : Int)) (iI (lv C R l a)) s)) := by
      rw [fn_X4_findQuestion_7, if_neg (by rw [q_32]; exact nlt (by omega) (by omega) (by omega))]
      refine (show _ = fn_X4_findQuestion_17 (fn_X4_findQuestion_7 m) fu (iI (a : Int)) (iI ((ye C R (l.take 0) a : Nat) : Int)) (iI ((0 : Nat) : Int)) s from by rw [z0, show iI ((ye C R (l.take 0) a : Nat) : Int) = 0 from q_0.symm]).trans (hm2.trans ?_)
      rw [fn_X4_findQuestion_17, i1.1, if_pos (yle (by omega) (by omega) (by omega)), nm_o, elv]
    show ∃ s', _ ∧ fn_X4_findQuestion_7 (m + 1) _ _ = fn_X4_findQuestion_7 m _ _
    rw [e7]
    unfold fn_X4_findQuestion_76 fn_X4_findQuestion_86
    rw [k1]
    have put : bq C R l a = a → ∃ s', ((GX C R s' l ∧ (a + 1 = 0 → s'.1 162 13 = iI (-1))) ∧ ∀ a', a + 1 = a' + 1 → s'.1 162 13 = iI ((bq C R l a' : Nat) : Int) ∧ s'.1 162 14 = iI (lv C R l (bq C R l a'))) ∧ (nm (sI s 162 13 (iI (a : Int))) fun z1 => nm (sI z1 162 14 (iI (lv C R l a))) fun z2 => fn_X4_findQuestion_7 m (iI ((a + 1 : Nat) : Int)) z2) = fn_X4_findQuestion_7 m (iI ((a + 1 : Nat) : Int)) s' := fun hb => by
      refine ⟨sI (sI s 162 13 (iI (a : Int))) 162 14 (iI (lv C R l a)), ⟨⟨⟨((sa_I (a := 162) (k := 10) rfl (by omega)).tr (sa_I rfl (by omega))).1.trans i1.1, fun i p q h => i1.2 i p q h⟩, fun h => absurd h (by omega)⟩, fun a' h => ?_⟩, rfl⟩
      obtain rfl : a = a' := by omega
      rw [hb]
      exact ⟨by simp [sI], by simp [sI]⟩
    cases a with
    | zero =>
      rw [if_pos (by rw [i0 rfl, q_m1])]
      exact put rfl
    | succ a' =>
      obtain ⟨j1, j2⟩ := i2 a' rfl
      have hb := bq_le C R l a'
      have l2 := lv_b (C := C) (R := R) (a := bq C R l a') h16
      rw [j1, if_neg (by rw [q_m1]; exact neq (by omega) (by omega) (by omega)), j2]
      by_cases hl : lv C R l (a' + 1) < lv C R l (bq C R l a')
      · rw [if_neg (nle (by omega) (by omega) (by omega))]
        exact put (by rw [bq, if_pos hl])
      · rw [if_pos (yle (by omega) (by omega) (by omega))]
        refine ⟨s, ⟨⟨i1, fun h => absurd h (by omega)⟩, fun a'' h => ?_⟩, rfl⟩
        obtain rfl : a' + 1 = a'' := by omega
        rw [bq, if_neg hl]
        exact ⟨j1, j2⟩)
  unfold fn_X4_findQuestion
  refine ⟨s, (show _ = fn_X4_findQuestion_7 fu (iI ((0 : Nat) : Int)) (sI z 162 13 (-1)) from by rw [nm_o, z0]).trans (hm.trans ?_), i2 32 rfl⟩
  show fn_X4_findQuestion_7 (m + 1) _ _ = _
  rw [fn_X4_findQuestion_7, if_pos (by rw [q_32]; exact ylt (by omega) (by omega) (by omega))]
theorem s_ask (u v : Int32) (h : RD z c F0 F1 b) : Same (fn_X11_ask u v) (fn_X12_ask u v) z := by
  obtain ⟨y, rfl, hy⟩ := ii u
  obtain ⟨k, rfl, hk⟩ := ii v
  have kx : ∀ z w r, fn_X11_ask (iI y) (iI k) z = some (r, w) → ∀ a j, PS a j → SA z w a j := fun z w r e a j h => ff_X11_ask (by unfold PS at h; show ¬ a = 168 ∧ ¬ a = 169 ∧ ¬ a = 170 ∧ ¬ (a = 162 ∧ j = 10) ∧ ¬ (a = 162 ∧ j = 13) ∧ ¬ (a = 162 ∧ j = 14); omega) e
  obtain ⟨n, sg, hV, hX, hM⟩ := h.sg
  have mi : ∀ s, fn_X12_isIn (iI y) 0 1 s = some (iI (tr (0 ≤ y ∧ y ≤ 1)), s) := fun s => by rw [q_0, q_1]; exact m_isIn hy (by omega) (by omega)
  by_cases h1 : 0 ≤ y ∧ y ≤ 1
  · rcases first_t h with ⟨f1, f2, f3⟩ | ⟨C, R, hC, hR, eC, eR, t1, t2⟩
    · refine ⟨-1, sI z 162 10 0, sI z 162 10 0, ?_, ?_, c, F0, F1, b, h.fr fun a j g => sa_I rfl (by unfold PS at g; omega)⟩
      · unfold fn_X11_ask
        rw [if_neg (by rw [q_0]; exact nlt (by omega) (by omega) (by omega)), if_neg (by rw [q_1]; exact nlt (by omega) (by omega) (by omega)), bd_o (x_gather0 f1), if_pos rfl]
      · unfold fn_X12_ask
        rw [bd_o (mi _), tr_1 h1, if_neg (by decide), bd_o (m_fits0 (z := sI z 162 10 0) f2 ⟨n, hV.1, hM.1⟩), if_pos rfl]
    · obtain ⟨w, e, hG⟩ := x_gather hV hX hk ⟨c 6 0, t1, t2, h.xr.1⟩ (by rw [← eC]; exact (h.xr.2.2.2.1 0 (by omega)).1) (by rw [← eR]; exact (h.xr.2.2.2.1 0 (by omega)).2.1) hC hR
      have h16 := LI_16 (n := n) (sg := sg) (k := k) hC.2 hR.2
      have hok : okg C R (LI (fitb C R n sg k) 8) := okg_I (fun p q h => ((Bool.and_eq_true _ _).mp h).1) 8
      obtain ⟨w2, e2, g1, g2⟩ := x_question hC.2 hR.2 hG hok h16
      have ex : ∃ w', fn_X11_ask (iI y) (iI k) z = some (if LI (fitb C R n sg k) 8 = [] then -1 else if y = 0 then iI ((bq C R (LI (fitb C R n sg k) 8) 32 : Nat) : Int) else iI (lv C R (LI (fitb C R n sg k) 8) (bq C R (LI (fitb C R n sg k) 8) 32)), w') := by
        unfold fn_X11_ask
        rw [if_neg (by rw [q_0]; exact nlt (by omega) (by omega) (by omega)), if_neg (by rw [q_1]; exact nlt (by omega) (by omega) (by omega)), bd_o e]
        by_cases hl : LI (fitb C R n sg k) 8 = []
        · rw [if_pos hl, hl, if_pos (show iI ((([] : List (Nat × Nat)).length : Nat) : Int) = 0 from q_0.symm)]
          exact ⟨w, rfl⟩
        · have hl0 : (LI (fitb C R n sg k) 8).length ≠ 0 := fun q => hl (List.eq_nil_of_length_eq_zero q)
          rw [if_neg hl, if_neg (i0_ne (by omega) (by omega)), bv_o e2, g1, g2]
          by_cases y0 : y = 0
          · rw [if_pos (show iI y = 0 from by rw [y0]; exact q_0.symm), if_pos y0]
            exact ⟨w2, rfl⟩
          · rw [if_neg (i0_ne (by omega) y0), if_neg y0]
            exact ⟨w2, rfl⟩
      obtain ⟨w', ex⟩ := ex
      have h' := h.fr (kx z w' _ ex)
      have hM' := hM.fr (kx z w' _ ex)
      have m1 : w'.1 188 0 = iI (C : Int) := by rw [← eC]; exact (h'.mr.2.2.2.1 0 (by omega)).1
      have m2 : w'.1 189 0 = iI (R : Int) := by rw [← eR]; exact (h'.mr.2.2.2.1 0 (by omega)).2.1
      refine ⟨_, w', w', ex, ?_, c, F0, F1, b, h'⟩
      unfold fn_X12_ask
      rw [bd_o (mi _), tr_1 h1, if_neg (by decide), bd_o (m_fits hV hM' hk ⟨c 6 0, t1, t2, h'.mr.1⟩ m1 m2 hC hR)]
      by_cases hl : LI (fitb C R n sg k) 8 = []
      · rw [if_pos hl, hl, if_pos (show iI ((([] : List (Nat × Nat)).length : Nat) : Int) = 0 from q_0.symm)]
      · have hl0 : (LI (fitb C R n sg k) 8).length ≠ 0 := fun q => hl (List.eq_nil_of_length_eq_zero q)
        rw [if_neg hl, if_neg (i0_ne (by omega) (by omega))]
        exact m_ask24 hV hM' hk h1 ⟨c 6 0, t1, t2, h'.mr.1⟩ m1 m2 hC hR
  · refine ⟨-1, z, z, ?_, ?_, c, F0, F1, b, h⟩
    · unfold fn_X11_ask
      by_cases g : y < 0
      · rw [if_pos (by rw [q_0]; exact ylt (by omega) (by omega) g)]
      · rw [if_neg (by rw [q_0]; exact nlt (by omega) (by omega) g), if_pos (by rw [q_1]; exact ylt (by omega) (by omega) (by omega))]
    · unfold fn_X12_ask
      rw [bd_o (mi z), tr_n h1, if_pos (show iI 0 = 0 from q_0.symm)]
end
