section
variable {z w : St} {c : RC} {F0 F1 : FO} {b : BD}
def sel (y : Int) (a : Nat × Nat) : Int := if y = 0 then a.1 else a.2
def stp (y : Int) (f : Int) (a : Nat × Nat) : Int := if f = -1 ∨ f = sel y a then sel y a else -2
/-- the reference's word on a row of pairs -/
def sur (y : Int) (l : List (Nat × Nat)) : Int := l.foldl (stp y) (-1)
def okp (l : List (Nat × Nat)) : Prop := ∀ a ∈ l, (1 ≤ a.1 ∧ a.1 ≤ 8) ∧ (1 ≤ a.2 ∧ a.2 ≤ 8)
theorem okp_J {P : Nat → Nat → Bool} {p : Nat} {l : List (Nat × Nat)} (hp : 1 ≤ p ∧ p ≤ 8) (hl : okp l) : ∀ k, k ≤ 8 → okp (LJ P p l k) := by
  intro k
  induction k with
  | zero => intro _; exact hl
  | succ k ih =>
    intro hk a ha
    rw [LJ] at ha
    split at ha
    · rcases List.mem_append.mp ha with h | h
      · exact ih (by omega) a h
      · rw [List.mem_singleton] at h
        rw [h]
        exact ⟨hp, by dsimp only; omega⟩
    · exact ih (by omega) a ha
theorem okp_I {P : Nat → Nat → Bool} : ∀ k, k ≤ 8 → okp (LI P k) := by
  intro k
  induction k with
  | zero => intro _ a ha; cases ha
  | succ k ih => intro hk; exact okp_J (by omega) (ih (by omega)) 8 (by omega)
theorem sur_b {y : Int} : ∀ (l : List (Nat × Nat)) (f : Int), okp l → -2 ≤ f ∧ f ≤ 8 → -2 ≤ l.foldl (stp y) f ∧ l.foldl (stp y) f ≤ 8 := by
  intro l
  induction l with
  | nil => intro f _ hf; exact hf
  | cons a l ih =>
    intro f hl hf
    rw [List.foldl_cons]
    refine ih _ (fun x hx => hl x (List.mem_cons_of_mem _ hx)) ?_
    have := hl a (List.mem_cons_self ..)
    unfold stp sel
    split
    · split <;> omega
    · omega
theorem sur_two {y : Int} : ∀ (l : List (Nat × Nat)), okp l → l.foldl (stp y) (-2) = -2 := by
  intro l
  induction l with
  | nil => intro _; rfl
  | cons a l ih =>
    intro hl
    rw [List.foldl_cons, show stp y (-2) a = -2 from by
      have := hl a (List.mem_cons_self ..)
      unfold stp sel
      rw [if_neg]
      split <;> omega]
    exact ih fun x hx => hl x (List.mem_cons_of_mem _ hx)
theorem sur_all {y v : Int} (hv : 1 ≤ v) : ∀ (l : List (Nat × Nat)), okp l → (∀ a ∈ l, sel y a = v) → l.foldl (stp y) v = v := by
  intro l
  induction l with
  | nil => intro _ _; rfl
  | cons a l ih =>
    intro hl ha
    have h1 := ha a (List.mem_cons_self ..)
    rw [List.foldl_cons, show stp y v a = v from by unfold stp; rw [if_pos (Or.inr h1.symm), h1]]
    exact ih (fun x hx => hl x (List.mem_cons_of_mem _ hx)) fun x hx => ha x (List.mem_cons_of_mem _ hx)
theorem sur_not {y v : Int} (hv : 1 ≤ v) : ∀ (l : List (Nat × Nat)), okp l → (∃ a ∈ l, sel y a ≠ v) → l.foldl (stp y) v = -2 := by
  intro l
  induction l with
  | nil => rintro _ ⟨a, ha, -⟩; cases ha
  | cons a l ih =>
    rintro hl ⟨x, hx, hxv⟩
    rw [List.foldl_cons]
    have hl' : okp l := fun x hx => hl x (List.mem_cons_of_mem _ hx)
    by_cases h1 : sel y a = v
    · rw [show stp y v a = v from by unfold stp; rw [if_pos (Or.inr h1.symm), h1]]
      rcases List.mem_cons.mp hx with e | e
      · rw [e] at hxv; exact absurd h1 hxv
      · exact ih hl' ⟨x, e, hxv⟩
    · rw [show stp y v a = -2 from by unfold stp; rw [if_neg (by omega)]]
      exact sur_two l hl'
theorem x_same {C R y : Nat} {l : List (Nat × Nat)} (hG : GX C R z l) (ho : okp l) (h16 : l.length ≤ 16) (h0 : l ≠ []) (hy : y < 2) : fn_X4_sameInAll (168 + y) z = some (iI (sur (y : Int) l), z) := by
  obtain ⟨a, t, rfl⟩ : ∃ a t, l = a :: t := by
    cases l with
    | nil => exact absurd rfl h0
    | cons a t => exact ⟨a, t, rfl⟩
  have ha := ho a (List.mem_cons_self ..)
  have ht : okp t := fun x hx => ho x (List.mem_cons_of_mem _ hx)
  have hln : ln (168 + y) = 16 := by
    have : y = 0 ∨ y = 1 := by omega
    rcases this with rfl | rfl <;> decide
  have gv : ∀ i p q, (a :: t)[i]? = some (p, q) → z.1 (168 + y) i = iI (sel (y : Int) (p, q)) := fun i p q h => by
    have := hG.2 i p q h
    have hy' : y = 0 ∨ y = 1 := by omega
    rcases hy' with rfl | rfl
    · exact this.1
    · exact this.2.1
  have sb : ∀ x ∈ a :: t, 1 ≤ sel (y : Int) x ∧ sel (y : Int) x ≤ 8 := fun x hx => by
    have := ho x hx
    unfold sel
    split <;> omega
  have v0 : z.1 (168 + y) 0 = iI (sel (y : Int) a) := gv 0 a.1 a.2 rfl
  have sv : sur (y : Int) (a :: t) = t.foldl (stp (y : Int)) (sel (y : Int) a) := by
    unfold sur
    rw [List.foldl_cons, show stp (y : Int) (-1) a = sel (y : Int) a from by unfold stp; rw [if_pos (Or.inl rfl)]]
  have sa1 := sb a (List.mem_cons_self ..)
  have hlen : (a :: t).length = t.length + 1 := rfl
  obtain ⟨r, hr, er⟩ := loopX (fun m i (s : St) => fn_X4_sameInAll_2 m (168 + y) (iI ((i + 1 : Nat) : Int)) s) (fun i s => s = z ∧ ∀ j x, j < i → t[j]? = some x → sel (y : Int) x = sel (y : Int) a) (fun r => r = (iI (sur (y : Int) (a :: t)), z)) t.length (by omega) z ⟨rfl, fun j x hj => absurd hj (Nat.not_lt_zero j)⟩ (fun i m s hi ⟨e, ih⟩ => by
    subst e
    show (∃ r, _ ∧ fn_X4_sameInAll_2 (m + 1) _ _ _ = _) ∨ ∃ s', _ ∧ fn_X4_sameInAll_2 (m + 1) _ _ _ = fn_X4_sameInAll_2 m _ _ _
    obtain ⟨x, hx⟩ : ∃ x, t[i]? = some x := ⟨t[i], List.getElem?_eq_getElem hi⟩
    have hxm : x ∈ t := List.mem_of_getElem? hx
    have vi : s.1 (168 + y) (i + 1) = iI (sel (y : Int) x) := gv (i + 1) x.1 x.2 hx
    have hb := sb x (List.mem_cons_of_mem _ hxm)
    rw [fn_X4_sameInAll_2, hG.1, if_neg (nle (by omega) (by omega) (by omega)), hln, if_neg (show ¬ Int32.ofNat 16 ≤ iI ((i + 1 : Nat) : Int) from by rw [show Int32.ofNat 16 = iI 16 from by decide]; exact nle (by omega) (by omega) (by omega)), gd_t (iI_ix (by omega)), gd_t (by decide), iI_clampN (by omega), c_0, vi, v0]
    by_cases h1 : sel (y : Int) x = sel (y : Int) a
    · refine Or.inr ⟨s, ⟨rfl, fun j x' hj hx' => ?_⟩, ?_⟩
      · by_cases e : j = i
        · rw [e, hx] at hx'; rw [← Option.some.inj hx']; exact h1
        · exact ih j x' (by omega) hx'
      · rw [if_pos (by rw [h1]), k1]
    · refine Or.inl ⟨_, rfl, ?_⟩
      rw [if_neg (neq (by omega) (by omega) h1), sv, sur_not sa1.1 t ht ⟨x, hxm, h1⟩, q_m2]) (fun m s ⟨e, ih⟩ => by
    subst e
    refine ⟨_, rfl, ?_⟩
    show fn_X4_sameInAll_2 (m + 1) _ _ _ = _
    rw [fn_X4_sameInAll_2, hG.1, if_pos (yle (by omega) (by omega) (by omega))]
    unfold fn_X4_sameInAll_34
    rw [hG.1, if_neg (by rw [q_0]; exact nle (by omega) (by omega) (by omega)), hln, if_neg (by decide), gd_t (by decide), c_0, v0, sv, sur_all sa1.1 t ht fun x hx => ?_]
    obtain ⟨j, hj⟩ := List.getElem?_of_mem hx
    exact ih j x (List.getElem?_eq_some_iff.mp hj).1 hj)
  unfold fn_X4_sameInAll
  subst hr
  exact (show _ = fn_X4_sameInAll_2 fu (168 + y) (iI ((0 + 1 : Nat) : Int)) z from by rw [show iI ((0 + 1 : Nat) : Int) = 1 from q_1.symm]).trans er
theorem m_sure16 {C R n : Nat} {sg : SG} {k y : Int} (hV : VS n sg) (hM : MSg z n sg) (hk : -2147483648 ≤ k ∧ k < 2147483648) (hy : 0 ≤ y ∧ y ≤ 1) (e0 : ∃ T : Int, 1 ≤ T ∧ T ≤ 3 ∧ z.1 172 43 = iI T) (e1 : z.1 188 0 = iI (C : Int)) (e2 : z.1 189 0 = iI (R : Int)) (hC : 1 ≤ C ∧ C ≤ 8) (hR : 1 ≤ R ∧ R ≤ 8) : fn_X12_sure_16 fu (iI y) (iI k) (-1) 1 z = some (iI (sur y (LI (fitb C R n sg k) 8)), z) := by
  obtain ⟨m, hm⟩ := loopK (fun m p => fn_X12_sure_16 m (iI y) (iI k) (iI (sur y (LI (fitb C R n sg k) p))) (iI ((p + 1 : Nat) : Int)) z) 8 (by omega) (fun p m hp => by
    show fn_X12_sure_16 (m + 1) _ _ _ _ _ = fn_X12_sure_16 m _ _ _ _ _
    rw [fn_X12_sure_16, if_neg (by rw [q_8]; exact nlt (by omega) (by omega) (by omega))]
    obtain ⟨m2, hm2⟩ := loopK (fun m2 q => fn_X12_sure_26 (fn_X12_sure_16 m) m2 (iI y) (iI k) (iI (sur y (LJ (fitb C R n sg k) (p + 1) (LI (fitb C R n sg k) p) q))) (iI ((p + 1 : Nat) : Int)) (iI ((q + 1 : Nat) : Int)) z) 8 (by omega) (fun q m2 hq => by
      have hb : -2 ≤ sur y (LJ (fitb C R n sg k) (p + 1) (LI (fitb C R n sg k) p) q) ∧ sur y (LJ (fitb C R n sg k) (p + 1) (LI (fitb C R n sg k) p) q) ≤ 8 := sur_b _ _ (okp_J (by omega) (okp_I p (by omega)) q (by omega)) (by omega)
      show fn_X12_sure_26 _ (m2 + 1) _ _ _ _ _ _ = fn_X12_sure_26 _ m2 _ _ _ _ _ _
      rw [fn_X12_sure_26, if_neg (by rw [q_8]; exact nlt (by omega) (by omega) (by omega)), bd_o (m_isFit hV hM hk e0 e1 e2 hC hR (by omega) (by omega)), LJ]
      unfold fn_X12_sure_59 fn_X12_sure_72 fn_X12_sure_79 fn_X12_sure_80
      rw [k1]
      by_cases h : fitb C R n sg k (p + 1) (q + 1) = true
      · rw [tr_1 h, if_neg (by decide), if_pos h]
        have es : sur y (LJ (fitb C R n sg k) (p + 1) (LI (fitb C R n sg k) p) q ++ [(p + 1, q + 1)]) = stp y (sur y (LJ (fitb C R n sg k) (p + 1) (LI (fitb C R n sg k) p) q)) (p + 1, q + 1) := by unfold sur; rw [List.foldl_append]; rfl
        rw [es]
        have fin : ∀ o : Nat, (o : Int) = sel y (p + 1, q + 1) → o ≤ 8 → (if iI (sur y (LJ (fitb C R n sg k) (p + 1) (LI (fitb C R n sg k) p) q)) = -1 then fn_X12_sure_26 (fn_X12_sure_16 m) m2 (iI y) (iI k) (iI (o : Int)) (iI ((p + 1 : Nat) : Int)) (iI ((q + 1 + 1 : Nat) : Int)) z else if iI (sur y (LJ (fitb C R n sg k) (p + 1) (LI (fitb C R n sg k) p) q)) = iI (o : Int) then fn_X12_sure_26 (fn_X12_sure_16 m) m2 (iI y) (iI k) (iI (o : Int)) (iI ((p + 1 : Nat) : Int)) (iI ((q + 1 + 1 : Nat) : Int)) z else fn_X12_sure_26 (fn_X12_sure_16 m) m2 (iI y) (iI k) (-2) (iI ((p + 1 : Nat) : Int)) (iI ((q + 1 + 1 : Nat) : Int)) z) = fn_X12_sure_26 (fn_X12_sure_16 m) m2 (iI y) (iI k) (iI (stp y (sur y (LJ (fitb C R n sg k) (p + 1) (LI (fitb C R n sg k) p) q)) (p + 1, q + 1))) (iI ((p + 1 : Nat) : Int)) (iI ((q + 1 + 1 : Nat) : Int)) z := by
          intro o ho ho8
          unfold stp
          rw [← ho]
          generalize sur y (LJ (fitb C R n sg k) (p + 1) (LI (fitb C R n sg k) p) q) = f at hb
          by_cases f1 : f = -1
          · rw [if_pos (by rw [f1, q_m1]), if_pos (Or.inl f1)]
          · rw [if_neg (by rw [q_m1]; exact neq (by omega) (by omega) f1)]
            by_cases f2 : f = (o : Int)
            · rw [if_pos (by rw [f2]), if_pos (Or.inr f2)]
            · rw [if_neg (neq (by omega) (by omega) f2), if_neg (by omega), q_m2]
        by_cases y0 : y = 0
        · rw [if_pos (by rw [y0]; exact q_0.symm)]
          exact fin (p + 1) (by unfold sel; rw [if_pos y0]) (by omega)
        · rw [if_neg (i0_ne (by omega) y0)]
          exact fin (q + 1) (by unfold sel; rw [if_neg y0]) (by omega)
      · rw [tr_n h, if_pos (show iI 0 = 0 from q_0.symm), if_neg h])
    refine (show _ = fn_X12_sure_26 (fn_X12_sure_16 m) fu (iI y) (iI k) (iI (sur y (LI (fitb C R n sg k) p))) (iI ((p + 1 : Nat) : Int)) (iI ((0 + 1 : Nat) : Int)) z from by rw [show iI ((0 + 1 : Nat) : Int) = 1 from q_1.symm]).trans (hm2.trans ?_)
    rw [fn_X12_sure_26, if_pos (by rw [q_8]; exact ylt (by omega) (by omega) (by omega)), k1]
    rfl)
  refine (show _ = fn_X12_sure_16 fu (iI y) (iI k) (iI (-1)) (iI ((0 + 1 : Nat) : Int)) z from by rw [← q_m1, show iI ((0 + 1 : Nat) : Int) = 1 from q_1.symm]).trans (hm.trans ?_)
  rw [fn_X12_sure_16, if_pos (by rw [q_8]; exact ylt (by omega) (by omega) (by omega))]
theorem m_sure0 {k y : Int} (e0 : z.1 172 43 = 0) (hn : ∃ n : Nat, n ≤ 30 ∧ z.1 172 71 = iI n) : fn_X12_sure_16 fu (iI y) (iI k) (-1) 1 z = some (-1, z) := by
  obtain ⟨m, hm⟩ := loopK (fun m p => fn_X12_sure_16 m (iI y) (iI k) (-1) (iI ((p + 1 : Nat) : Int)) z) 8 (by omega) (fun p m hp => by
    show fn_X12_sure_16 (m + 1) _ _ _ _ _ = fn_X12_sure_16 m _ _ _ _ _
    rw [fn_X12_sure_16, if_neg (by rw [q_8]; exact nlt (by omega) (by omega) (by omega))]
    obtain ⟨m2, hm2⟩ := loopK (fun m2 q => fn_X12_sure_26 (fn_X12_sure_16 m) m2 (iI y) (iI k) (-1) (iI ((p + 1 : Nat) : Int)) (iI ((q + 1 : Nat) : Int)) z) 8 (by omega) (fun q m2 hq => by
      show fn_X12_sure_26 _ (m2 + 1) _ _ _ _ _ _ = fn_X12_sure_26 _ m2 _ _ _ _ _ _
      rw [fn_X12_sure_26, if_neg (by rw [q_8]; exact nlt (by omega) (by omega) (by omega)), bd_o (m_fit0 e0 hn), if_pos rfl, fn_X12_sure_80, k1])
    refine (show _ = fn_X12_sure_26 (fn_X12_sure_16 m) fu (iI y) (iI k) (-1) (iI ((p + 1 : Nat) : Int)) (iI ((0 + 1 : Nat) : Int)) z from by rw [show iI ((0 + 1 : Nat) : Int) = 1 from q_1.symm]).trans (hm2.trans ?_)
    rw [fn_X12_sure_26, if_pos (by rw [q_8]; exact ylt (by omega) (by omega) (by omega)), k1])
  refine (show _ = fn_X12_sure_16 fu (iI y) (iI k) (-1) (iI ((0 + 1 : Nat) : Int)) z from by rw [show iI ((0 + 1 : Nat) : Int) = 1 from q_1.symm]).trans (hm.trans ?_)
  rw [fn_X12_sure_16, if_pos (by rw [q_8]; exact ylt (by omega) (by omega) (by omega))]
/-- what a gather leaves for the reference -/
theorem MSg.fr {n : Nat} {sg : SG} (hM : MSg z n sg) (hs : ∀ a k, PS a k → SA z w a k) : MSg w n sg := by
  have t : ∀ a j, (a = 172 ∧ j = 71) ∨ (206 ≤ a ∧ a ≤ 210) → SA z w a j := fun a j g => hs a j (by unfold PS; omega)
  refine ⟨(t 172 71 (by omega)).1.trans hM.1, fun i hi => ?_⟩
  rw [(t 206 i (by omega)).1, (t 207 i (by omega)).1, (t 208 i (by omega)).1, (t 209 i (by omega)).1, (t 210 i (by omega)).1]
  exact hM.2 i hi
theorem s_sure (u v : Int32) (h : RD z c F0 F1 b) : Same (fn_X11_sure u v) (fn_X12_sure u v) z := by
  obtain ⟨y, rfl, hy⟩ := ii u
  obtain ⟨k, rfl, hk⟩ := ii v
  have kx : ∀ z w r, fn_X11_sure (iI y) (iI k) z = some (r, w) → ∀ a j, PS a j → SA z w a j := fun z w r e a j h => ff_X11_sure (by unfold PS at h; show ¬ a = 168 ∧ ¬ a = 169 ∧ ¬ a = 170 ∧ ¬ (a = 162 ∧ j = 10); omega) e
  obtain ⟨n, sg, hV, hX, hM⟩ := h.sg
  by_cases h1 : 0 ≤ y ∧ y ≤ 1
  · have mi : ∀ s, fn_X12_isIn (iI y) 0 1 s = some (iI (tr (0 ≤ y ∧ y ≤ 1)), s) := fun s => by rw [q_0, q_1]; exact m_isIn hy (by omega) (by omega)
    rcases first_t h with ⟨f1, f2, f3⟩ | ⟨C, R, hC, hR, eC, eR, t1, t2⟩
    · refine ⟨-1, sI z 162 10 0, sI z 162 10 0, ?_, ?_, c, F0, F1, b, h.fr fun a j g => sa_I rfl (by unfold PS at g; omega)⟩
      · unfold fn_X11_sure
        rw [if_neg (by rw [q_0]; exact nlt (by omega) (by omega) (by omega)), if_neg (by rw [q_1]; exact nlt (by omega) (by omega) (by omega)), bd_o (x_gather0 f1), if_pos rfl]
      · unfold fn_X12_sure
        rw [bd_o (mi _), tr_1 h1, if_neg (by decide)]
        exact m_sure0 f2 ⟨n, hV.1, hM.1⟩
    · obtain ⟨w, e, hG⟩ := x_gather hV hX hk ⟨c 6 0, t1, t2, h.xr.1⟩ (by rw [← eC]; exact (h.xr.2.2.2.1 0 (by omega)).1) (by rw [← eR]; exact (h.xr.2.2.2.1 0 (by omega)).2.1) hC hR
      have h16 := LI_16 (n := n) (sg := sg) (k := k) hC.2 hR.2
      have ex : fn_X11_sure (iI y) (iI k) z = some (iI (sur y (LI (fitb C R n sg k) 8)), w) := by
        unfold fn_X11_sure fn_X11_sure_47
        rw [if_neg (by rw [q_0]; exact nlt (by omega) (by omega) (by omega)), if_neg (by rw [q_1]; exact nlt (by omega) (by omega) (by omega)), bd_o e]
        by_cases hl : LI (fitb C R n sg k) 8 = []
        · rw [hl, if_pos (show iI ((([] : List (Nat × Nat)).length : Nat) : Int) = 0 from q_0.symm)]
          exact congrArg some (Prod.ext q_m1 rfl)
        · have hl0 : (LI (fitb C R n sg k) 8).length ≠ 0 := fun q => hl (List.eq_nil_of_length_eq_zero q)
          rw [if_neg (i0_ne (by omega) (by omega))]
          by_cases y0 : y = 0
          · subst y0
            rw [if_pos (show iI 0 = 0 from q_0.symm), bd_o (x_same (y := 0) hG (okp_I 8 (by omega)) h16 hl (by omega))]
            rfl
          · have y1 : y = 1 := by omega
            subst y1
            rw [if_neg (by decide), bd_o (x_same (y := 1) hG (okp_I 8 (by omega)) h16 hl (by omega))]
            rfl
      have h' := h.fr (kx z w _ ex)
      refine ⟨_, w, w, ex, ?_, c, F0, F1, b, h'⟩
      unfold fn_X12_sure
      rw [bd_o (mi _), tr_1 h1, if_neg (by decide)]
      exact m_sure16 hV (hM.fr (kx z w _ ex)) hk h1 ⟨c 6 0, t1, t2, h'.mr.1⟩ (by rw [← eC]; exact (h'.mr.2.2.2.1 0 (by omega)).1) (by rw [← eR]; exact (h'.mr.2.2.2.1 0 (by omega)).2.1) hC hR
  · refine ⟨-1, z, z, ?_, ?_, c, F0, F1, b, h⟩
    · unfold fn_X11_sure
      by_cases g : y < 0
      · rw [if_pos (by rw [q_0]; exact ylt (by omega) (by omega) g)]
      · rw [if_neg (by rw [q_0]; exact nlt (by omega) (by omega) g), if_pos (by rw [q_1]; exact ylt (by omega) (by omega) (by omega))]
    · unfold fn_X12_sure
      rw [bd_o (show fn_X12_isIn (iI y) 0 1 z = some (iI (tr (0 ≤ y ∧ y ≤ 1)), z) from by rw [q_0, q_1]; exact m_isIn hy (by omega) (by omega)), tr_n h1, if_pos (show iI 0 = 0 from q_0.symm)]
end
