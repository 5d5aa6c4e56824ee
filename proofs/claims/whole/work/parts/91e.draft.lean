/-! the draft on both sides -/
def DXr (z : St) (c : RC) (dr hp hd : Int) : Prop := z.1 17 0 = iI (c 6 0) ∧ z.1 17 5 = iI (c 6 1) ∧ z.1 17 12 = iI (c 6 2) ∧ z.1 17 13 = iI hp ∧ z.1 17 14 = iI dr ∧ z.1 17 15 = iI hd ∧ (∀ t : Nat, (t : Int) < c 6 0 → z.1 19 t = iI (c 0 t) ∧ z.1 20 t = iI (c 1 t) ∧ z.1 21 t = iI (c 2 t)) ∧ (∀ g : Nat, (g : Int) < c 6 1 → z.1 23 g = iI (c 3 g) ∧ z.1 24 g = iI (c 4 g) ∧ z.1 25 g = iI (c 5 g))
def DMr (w : St) (c : RC) (dr hp hd : Int) : Prop := w.1 172 39 = iI (c 6 0) ∧ w.1 172 40 = iI (c 6 1) ∧ w.1 172 41 = iI (c 6 2) ∧ w.1 172 46 = iI hp ∧ w.1 172 42 = iI dr ∧ w.1 172 47 = iI hd ∧ (∀ t : Nat, (t : Int) < c 6 0 → w.1 185 t = iI (c 0 t) ∧ w.1 186 t = iI (c 1 t) ∧ w.1 187 t = iI (c 2 t)) ∧ (∀ g : Nat, (g : Int) < c 6 1 → w.1 191 g = iI (c 3 g) ∧ w.1 192 g = iI (c 4 g) ∧ w.1 193 g = iI (c 5 g))
def DNm (z w : St) (c : RC) : Prop := (∀ t : Nat, (t : Int) < c 6 0 → NM (z.2 18 t) (w.2 174 (0 + t))) ∧ (∀ g : Nat, (g : Int) < c 6 1 → NM (z.2 22 g) (w.2 174 (3 + g)))
def FXr (q f : Nat) (z : St) (F : FO) (t u : Nat) : Prop := XFo q f z F ∧ z.1 q 4 = iI (t : Int) ∧ z.1 q 3 = iI (u : Int) ∧ u ≤ 30 ∧ VF F ∧ ((t = 0 ∧ F.1 = 0 ∧ u = 0) ∨ (t = 1 ∧ F.1 ≠ 0))
def FMr (f : Nat) (w : St) (F : FO) (t : Nat) : Prop := w.1 183 f = iI (t : Int) ∧ (t = 1 → w.1 177 f = iI (F.1 : Int) ∧ ∀ k, k < F.1 → w.1 175 (320 * f + k) = iI ((F.2.1 k : Nat) : Int) ∧ w.1 176 (320 * f + k) = iI (F.2.2 k))
def PDr (z w : St) (c : RC) (dr hp hd : Int) (F0 F1 : FO) (t0 t1 u0 u1 : Nat) : Prop := DXr z c dr hp hd ∧ DMr w c dr hp hd ∧ DNm z w c ∧ FXr 26 0 z F0 t0 u0 ∧ FXr 29 1 z F1 t1 u1 ∧ FMr 0 w F0 t0 ∧ FMr 1 w F1 t1 ∧ w.1 172 22 = iI ((u0 + u1 : Nat) : Int) ∧ VC c ∧ (0 ≤ dr ∧ dr ≤ 999) ∧ (hp = 0 ∨ hp = 1) ∧ (hd = 0 ∨ hd = 1)
/-- what a line leaves -/
def LRr (z w : St) (T : Nat → Int) (n s : Nat) : Prop := TFt z w ∨ ∃ (s' : Nat) (c : RC) (dr hp hd : Int) (F0 F1 : FO) (t0 t1 u0 u1 : Nat), s < s' ∧ TRd z w T n s' ∧ PDr z w c dr hp hd F0 F1 t0 t1 u0 u1
section
variable {z w z' w' : St} {T : Nat → Int} {n s : Nat} {c : RC} {dr hp hd : Int} {F0 F1 F : FO} {t0 t1 u0 u1 t u f q : Nat}
theorem DXr.fr (h : DXr z c dr hp hd) (hs : ∀ a j, (a = 17 ∧ (j = 0 ∨ j = 5 ∨ (12 ≤ j ∧ j ≤ 15))) ∨ (19 ≤ a ∧ a ≤ 21) ∨ (23 ≤ a ∧ a ≤ 25) → SA z z' a j) : DXr z' c dr hp hd := by
  obtain ⟨h1, h2, h3, h4, h5, h6, h7, h8⟩ := h
  exact ⟨(hs 17 0 (by omega)).1.trans h1, (hs 17 5 (by omega)).1.trans h2, (hs 17 12 (by omega)).1.trans h3, (hs 17 13 (by omega)).1.trans h4, (hs 17 14 (by omega)).1.trans h5, (hs 17 15 (by omega)).1.trans h6, fun t ht => ⟨(hs 19 t (by omega)).1.trans (h7 t ht).1, (hs 20 t (by omega)).1.trans (h7 t ht).2.1, (hs 21 t (by omega)).1.trans (h7 t ht).2.2⟩, fun g hg => ⟨(hs 23 g (by omega)).1.trans (h8 g hg).1, (hs 24 g (by omega)).1.trans (h8 g hg).2.1, (hs 25 g (by omega)).1.trans (h8 g hg).2.2⟩⟩
theorem DMr.fr (h : DMr w c dr hp hd) (hs : ∀ a j, (a = 172 ∧ 39 ≤ j ∧ j ≤ 47) ∨ (185 ≤ a ∧ a ≤ 187) ∨ (191 ≤ a ∧ a ≤ 193) → SA w w' a j) : DMr w' c dr hp hd := by
  obtain ⟨h1, h2, h3, h4, h5, h6, h7, h8⟩ := h
  exact ⟨(hs 172 39 (by omega)).1.trans h1, (hs 172 40 (by omega)).1.trans h2, (hs 172 41 (by omega)).1.trans h3, (hs 172 46 (by omega)).1.trans h4, (hs 172 42 (by omega)).1.trans h5, (hs 172 47 (by omega)).1.trans h6, fun t ht => ⟨(hs 185 t (by omega)).1.trans (h7 t ht).1, (hs 186 t (by omega)).1.trans (h7 t ht).2.1, (hs 187 t (by omega)).1.trans (h7 t ht).2.2⟩, fun g hg => ⟨(hs 191 g (by omega)).1.trans (h8 g hg).1, (hs 192 g (by omega)).1.trans (h8 g hg).2.1, (hs 193 g (by omega)).1.trans (h8 g hg).2.2⟩⟩
theorem DNm.fr (h : DNm z w c) (hx : ∀ a j, a = 18 ∨ a = 22 → SA z z' a j) (hm : ∀ j, SA w w' 174 j) : DNm z' w' c :=
  ⟨fun t ht => by rw [(hx 18 t (by omega)).2, (hm _).2]; exact h.1 t ht, fun g hg => by rw [(hx 22 g (by omega)).2, (hm _).2]; exact h.2 g hg⟩
theorem FXr.fr (h : FXr q f z F t u) (hs : ∀ a j, (a = q ∧ 2 ≤ j ∧ j ≤ 4) ∨ a = q + 1 → SA z z' a j) : FXr q f z' F t u :=
  ⟨h.1.fr fun a k p => hs a k (by omega), (hs q 4 (by omega)).1.trans h.2.1, (hs q 3 (by omega)).1.trans h.2.2.1, h.2.2.2⟩
theorem VF.len (h : VF F) : F.1 ≤ 272 := by rcases h with h | h; omega; exact h.1
theorem FMr.fr (h : FMr f w F t) (hF : VF F) (hs : ∀ a j, (a = 183 ∧ j = f) ∨ (a = 177 ∧ j = f) ∨ ((a = 175 ∨ a = 176) ∧ 320 * f ≤ j ∧ j < 320 * f + 320) → SA w w' a j) : FMr f w' F t := by
  have hl := hF.len
  exact ⟨(hs 183 f (by omega)).1.trans h.1, fun e => ⟨(hs 177 f (by omega)).1.trans (h.2 e).1, fun k hk => ⟨(hs 175 _ (by omega)).1.trans ((h.2 e).2 k hk).1, (hs 176 _ (by omega)).1.trans ((h.2 e).2 k hk).2⟩⟩⟩
theorem PDr.fr (h : PDr z w c dr hp hd F0 F1 t0 t1 u0 u1) (hx : ∀ a j, 17 ≤ a ∧ a ≤ 30 → SA z z' a j) (hm : ∀ a j, (a = 172 ∧ (j = 22 ∨ (39 ≤ j ∧ j ≤ 47))) ∨ (174 ≤ a ∧ a ≤ 177) ∨ a = 183 ∨ (185 ≤ a ∧ a ≤ 187) ∨ (191 ≤ a ∧ a ≤ 193) → SA w w' a j) : PDr z' w' c dr hp hd F0 F1 t0 t1 u0 u1 := by
  obtain ⟨h1, h2, h3, h4, h5, h6, h7, h8, h9⟩ := h
  exact ⟨h1.fr fun a j p => hx a j (by omega), h2.fr fun a j p => hm a j (by omega), h3.fr (fun a j p => hx a j (by omega)) (fun j => hm 174 j (by omega)), h4.fr fun a j p => hx a j (by omega), h5.fr fun a j p => hx a j (by omega), h6.fr h4.2.2.2.2.1 fun a j p => hm a j (by omega), h7.fr h5.2.2.2.2.1 fun a j p => hm a j (by omega), (hm 172 22 (by omega)).1.trans h8, h9⟩
/-! one more tier, one more guest -/
def addT (c : RC) (t : Nat) (x y d : Int) : RC := fun i j => if i = 6 then (if j = 0 then (t : Int) + 1 else c 6 j) else if j = t ∧ i ≤ 2 then (if i = 0 then x else if i = 1 then y else d) else c i j
def addG (c : RC) (g : Nat) (x y d : Int) : RC := fun i j => if i = 6 then (if j = 1 then (g : Int) + 1 else c 6 j) else if j = g ∧ 3 ≤ i then (if i = 3 then x else if i = 4 then y else d) else c i j
def setP (c : RC) (x : Int) : RC := fun i j => if i = 6 ∧ j = 2 then x else c i j
theorem aT_6 (c : RC) (t : Nat) (x y d : Int) : addT c t x y d 6 0 = (t : Int) + 1 ∧ addT c t x y d 6 1 = c 6 1 ∧ addT c t x y d 6 2 = c 6 2 := ⟨rfl, rfl, rfl⟩
theorem aT_t (c : RC) (t : Nat) (x y d : Int) : addT c t x y d 0 t = x ∧ addT c t x y d 1 t = y ∧ addT c t x y d 2 t = d := by
  unfold addT
  refine ⟨?_, ?_, ?_⟩ <;> rw [if_neg (by omega), if_pos ⟨rfl, by omega⟩] <;> rfl
theorem aT_o (c : RC) {t i j : Nat} (x y d : Int) (h6 : i ≠ 6) (h : j ≠ t ∨ 3 ≤ i) : addT c t x y d i j = c i j := by
  unfold addT
  rw [if_neg h6, if_neg (by omega)]
theorem aG_6 (c : RC) (t : Nat) (x y d : Int) : addG c t x y d 6 0 = c 6 0 ∧ addG c t x y d 6 1 = (t : Int) + 1 ∧ addG c t x y d 6 2 = c 6 2 := ⟨rfl, rfl, rfl⟩
theorem aG_t (c : RC) (t : Nat) (x y d : Int) : addG c t x y d 3 t = x ∧ addG c t x y d 4 t = y ∧ addG c t x y d 5 t = d := by
  unfold addG
  refine ⟨?_, ?_, ?_⟩ <;> rw [if_neg (by omega), if_pos ⟨rfl, by omega⟩] <;> rfl
theorem aG_o (c : RC) {t i j : Nat} (x y d : Int) (h6 : i ≠ 6) (h : j ≠ t ∨ i < 3) : addG c t x y d i j = c i j := by
  unfold addG
  rw [if_neg h6, if_neg (by omega)]
theorem VC.addT {x y d : Int} (h : VC c) (ht : c 6 0 = (t : Int)) (h3 : t < 3) (hx : 1 ≤ x ∧ x ≤ 8) (hy : 1 ≤ y ∧ y ≤ 8) (hd : 1 ≤ d ∧ d ≤ 9) : VC (addT c t x y d) := by
  obtain ⟨g1, g2, g3, g4, g5⟩ := h
  obtain ⟨e1, e2, e3⟩ := aT_6 c t x y d
  obtain ⟨f1, f2, f3⟩ := aT_t c t x y d
  refine ⟨by rw [e1]; omega, by rw [e2]; exact g2, by rw [e3]; exact g3, fun j hj => ?_, fun g hg => ?_⟩
  · rw [e1] at hj
    by_cases e : j = t
    · rw [e, f1, f2, f3]; omega
    · rw [aT_o c x y d (by omega) (Or.inl e), aT_o c x y d (by omega) (Or.inl e), aT_o c x y d (by omega) (Or.inl e)]
      exact g4 j (by omega)
  · rw [e2] at hg
    rw [aT_o c x y d (by omega) (Or.inr (by omega)), aT_o c x y d (by omega) (Or.inr (by omega)), aT_o c x y d (by omega) (Or.inr (by omega))]
    exact g5 g hg
theorem VC.addG {x y d : Int} (h : VC c) (ht : c 6 1 = (t : Int)) (h3 : t < 6) (hx : 0 ≤ x ∧ x ≤ 999) (hy : 0 ≤ y ∧ y ≤ 9) (hd : 0 ≤ d ∧ d ≤ 100) : VC (addG c t x y d) := by
  obtain ⟨g1, g2, g3, g4, g5⟩ := h
  obtain ⟨e1, e2, e3⟩ := aG_6 c t x y d
  obtain ⟨f1, f2, f3⟩ := aG_t c t x y d
  refine ⟨by rw [e1]; exact g1, by rw [e2]; omega, by rw [e3]; exact g3, fun j hj => ?_, fun j hj => ?_⟩
  · rw [e1] at hj
    rw [aG_o c x y d (by omega) (Or.inr (by omega)), aG_o c x y d (by omega) (Or.inr (by omega)), aG_o c x y d (by omega) (Or.inr (by omega))]
    exact g4 j hj
  · rw [e2] at hj
    by_cases e : j = t
    · rw [e, f1, f2, f3]; omega
    · rw [aG_o c x y d (by omega) (Or.inl e), aG_o c x y d (by omega) (Or.inl e), aG_o c x y d (by omega) (Or.inl e)]
      exact g5 j (by omega)
theorem x_addTier {r1 r2 r3 : Int32} (h : z.1 17 0 = iI (t : Int)) (ht : t < 3) : ∃ w, fn_X7_addTier 17 r1 r2 r3 z = some w ∧ w.1 17 0 = iI ((t + 1 : Nat) : Int) ∧ w.1 19 t = r1 ∧ w.1 20 t = r2 ∧ w.1 21 t = r3 ∧ ∀ a j, ¬ (a = 17 ∧ j = 0) → ¬ ((a = 19 ∨ a = 20 ∨ a = 21) ∧ j = t) → SA z w a j := by
  unfold fn_X7_addTier
  rw [h, q_3, if_neg (nle (by omega) (by omega) (by omega)), gd_t (iI_ix (by omega)), nm_o, iI_clampN (by omega), show (sI z (17 + 2) t r1).1 17 0 = iI (t : Int) from h, gd_t (iI_ix (by omega)), nm_o, iI_clampN (by omega), show (sI (sI z (17 + 2) t r1) (17 + 3) t r2).1 17 0 = iI (t : Int) from h, gd_t (iI_ix (by omega)), nm_o, iI_clampN (by omega), show (sI (sI (sI z (17 + 2) t r1) (17 + 3) t r2) (17 + 4) t r3).1 17 0 = iI (t : Int) from h, nm_o, k1]
  refine ⟨_, rfl, by rw [sI_at, if_pos rfl], ?_, ?_, ?_, fun a j p1 p2 => (((sa_I rfl (by omega)).tr (sa_I rfl (by omega))).tr (sa_I rfl (by omega))).tr (sa_I rfl p1)⟩ <;> simp [sI]
theorem x_addGuest {r1 r2 r3 : Int32} (h : z.1 17 5 = iI (t : Int)) (ht : t < 6) : ∃ w, fn_X7_addGuest 17 r1 r2 r3 z = some w ∧ w.1 17 5 = iI ((t + 1 : Nat) : Int) ∧ w.1 23 t = r1 ∧ w.1 24 t = r2 ∧ w.1 25 t = r3 ∧ ∀ a j, ¬ (a = 17 ∧ j = 5) → ¬ ((a = 23 ∨ a = 24 ∨ a = 25) ∧ j = t) → SA z w a j := by
  unfold fn_X7_addGuest
  rw [h, q_6, if_neg (nle (by omega) (by omega) (by omega)), gd_t (iI_ix (by omega)), nm_o, iI_clampN (by omega), show (sI z (17 + 6) t r1).1 17 5 = iI (t : Int) from h, gd_t (iI_ix (by omega)), nm_o, iI_clampN (by omega), show (sI (sI z (17 + 6) t r1) (17 + 7) t r2).1 17 5 = iI (t : Int) from h, gd_t (iI_ix (by omega)), nm_o, iI_clampN (by omega), show (sI (sI (sI z (17 + 6) t r1) (17 + 7) t r2) (17 + 8) t r3).1 17 5 = iI (t : Int) from h, nm_o, k1]
  refine ⟨_, rfl, by rw [sI_at, if_pos rfl], ?_, ?_, ?_, fun a j p1 p2 => (((sa_I rfl (by omega)).tr (sa_I rfl (by omega))).tr (sa_I rfl (by omega))).tr (sa_I rfl p1)⟩ <;> simp [sI]
end
