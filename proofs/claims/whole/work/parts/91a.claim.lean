/-! what a reader of a formula owes -/
/-- what may stand on top when a reader of that rank begins -/
def hl (L : Nat) : Nat := if L = 3 then 4 else L
def plL (L a : Nat) : Nat := if 4 ≤ L then 7 - L else 14 - L - a
def PreL (L a : Nat) (σ : List Int) (o : SL) (u : Nat) : Prop := (∀ x ∈ σ, vsE x) ∧ nb σ = a ∧ a ≤ 7 ∧ stpL (hl L) σ ∧ σ.length + 1 ≤ 7 * a + L ∧ o.length + np σ ≤ 9 * u + ct σ ∧ u ≤ 30
def PosL (T : Nat → Int) (n L a : Nat) (σ π : List Int) (om : SL) (u s : Nat) : Prop := (∀ x ∈ π, vsE x ∧ x ≠ 20 ∧ L ≤ tg x) ∧ π.length ≤ plL L a ∧ om.length + np (π ++ σ) + 1 ≤ 9 * u ∧ u ≤ 30 ∧ (sg T n s = 0 ∨ tg (sg T n s) < L ∨ (tg (sg T n s) = 4 ∧ hrl (π ++ σ) = true))
/-- a fault, on x's side and on the reference's -/
def BadX (q : Nat) (z' : St) (e : Int) (p : Int32) : Prop := 1 ≤ e ∧ e ≤ 4 ∧ z'.1 32 11 = iI e ∧ z'.1 32 12 = p ∧ ∃ N : Nat, N ≤ 272 ∧ z'.1 q 2 = iI (N : Int)
def BadM (f : Nat) (w : St) (r : Option St) (e : Int) (p : Int32) : Prop := ∃ w', r = some w' ∧ w'.1 172 2 = iI e ∧ w'.1 172 3 = p ∧ ∀ a j, mFr f a j → SA w w' a j
def CLm (T : Nat → Int) (n q f v L a : Nat) (X : St → Option St) : Prop :=
  ∀ (z : St) (s : Nat) (σ : List Int) (o : SL) (d u : Nat), s ≤ n → XSt z T n s q o u → PreL L a σ o u → (4 ≤ L → kw T n s ≠ 13 ∨ mnt σ = false) → Vo o d → d ≤ u →
    ∃ z', X z = some z' ∧ (∀ a j, xFr q a j → SA z z' a j) ∧
      ((∃ (e : Int) (p : Int32), BadX q z' e p ∧ ∀ (w : St) (k m : Nat), MSt w T n s f σ o u v → n - s + 1 < k → n - s + 1 < m → BadM f w (mUf k m w) e p) ∨
        ∃ (s' : Nat) (π : List Int) (om : SL) (u' : Nat), s < s' ∧ s' ≤ n ∧ XSt z' T n s' q (om ++ fl π) u' ∧ Vo (om ++ fl π) (d + 1) ∧ u < u' ∧ PosL T n L a σ π om u' s' ∧
          ∀ (w : St) (k m : Nat), MSt w T n s f σ o u v → n - s + 1 < k → n - s + 1 < m → ∃ m' w', mUf k m w = mSf m' w' ∧ n - s' + 1 < m' ∧ MSt w' T n s' f (π ++ σ) om u' v ∧ ∀ a j, mFr f a j → SA w w' a j)
section
variable {z w : St} {T : Nat → Int} {n s q f u v L a : Nat} {σ : List Int} {o : SL}
theorem fl_len (π : List Int) : (fl π).length = π.length := List.length_map ..
theorem stp_mono {l l' : Nat} (h : l ≤ l') (hσ : stpL l σ) : stpL l' σ := by
  cases σ with
  | nil => trivial
  | cons x t =>
    rcases hσ with e | e
    · exact Or.inl e
    · exact Or.inr (Nat.lt_of_lt_of_le e h)
theorem PreL.up (h : PreL L a σ o u) (hL : L ≤ 6) : PreL (L + 1) a σ o u := by
  obtain ⟨h1, h2, h3, h4, h5, h6, h7⟩ := h
  refine ⟨h1, h2, h3, stp_mono ?_ h4, by omega, h6, h7⟩
  unfold hl
  by_cases e : L = 3
  · rw [if_pos e, if_neg (by omega)]; omega
  · rw [if_neg e]; split <;> omega
theorem XSt.adv (hT : VT T n) (hs : s ≤ n) (hq : q = 26 ∨ q = 29) (h : XSt z T n s q o u) (hk : kx T n s = 1 ∨ kx T n s = 2 ∨ kx T n s = 3) : ∃ z', fn_X6_advance z = some z' ∧ XSt z' T n (nx T n s) q o u ∧ ∀ a j, xFr q a j → SA z z' a j := by
  obtain ⟨h1, h2, h3, h4, h5⟩ := h
  obtain ⟨w, g1, g2⟩ := x_adv hT h1 hs h2 (by omega)
  have k : ∀ a j, ¬ (a = 32 ∧ j = 5) ∧ ¬ (a = 32 ∧ j = 4) ∧ ¬ (a = 32 ∧ j = 6) ∧ ¬ (a = 32 ∧ j = 10) ∧ ¬ (a = 32 ∧ j = 7) ∧ ¬ (a = 32 ∧ j = 9) ∧ ¬ (a = 32 ∧ j = 8) → SA z w a j := fun a j q => ff_X6_advance q g1
  exact ⟨w, g1, ⟨h1.fr fun a j p => k a j (by omega), g2, (k 32 11 (by omega)).1.trans h3, h4.fr fun a j p => k a j (by omega), (k q 3 (by omega)).1.trans h5⟩, fun a j p => k a j (by unfold xFr at p; omega)⟩
theorem BadX.add {e : Int} {p : Int32} (h : BadX q z e p) (hq : q = 26 ∨ q = 29) (v1 v2 : Int32) : ∃ z', fn_X2_add q v1 v2 z = some z' ∧ BadX q z' e p ∧ ∀ a j, xFr q a j → SA z z' a j := by
  obtain ⟨h1, h2, h3, h4, N, h5, h6⟩ := h
  obtain ⟨z', g1, g2, g3⟩ := x_addA q v1 v2 h5 h6
  exact ⟨z', g1, ⟨h1, h2, (g3 32 11 (by omega) (by omega)).1.trans h3, (g3 32 12 (by omega) (by omega)).1.trans h4, g2⟩, fun a j p => g3 a j (by unfold xFr at p; omega) (by unfold xFr at p; omega)⟩
theorem BadX.ne {e : Int} {p : Int32} (h : BadX q z e p) : z.1 32 11 ≠ 0 := by
  obtain ⟨h1, h2, h3, -⟩ := h
  rw [h3, q_0]
  exact neq (by omega) (by omega) (by omega)
/-- behind a first part, so many more by signs of that rank -/
theorem CL_ll {d i0 : Nat} (hT : VT T n) (hq : q = 26 ∨ q = 29) (hf : f < 2) (hL : L = 1 ∨ L = 2 ∨ L = 5 ∨ L = 6) {Sub : St → Option St} {Lp : Nat → Nat → St → Option St} (hSub : CLm T n q f v (L + 1) a Sub)
    (hLf : ∀ m i z, z.1 32 11 ≠ 0 → Lp (m + 1) i z = some z)
    (hLn : ∀ m i z s, XK z T n s → z.1 32 11 = 0 → ¬ (sg T n s ≠ 0 ∧ tg (sg T n s) = L) → Lp (m + 1) i z = some z)
    (hLy : ∀ m i z s, i < 1600 → XK z T n s → z.1 32 11 = 0 → sg T n s ≠ 0 → tg (sg T n s) = L → Lp (m + 1) i z = bv (fn_X6_advance z) (fun z2 => bv (Sub z2) (fun z4 => bv (fn_X2_add q (iI (xst (sg T n s))) 0 z4) (fun z6 => Lp m (i + 1) z6))))
    (hσ : (∀ x ∈ σ, vsE x) ∧ nb σ = a ∧ a ≤ 7 ∧ stpL L σ ∧ σ.length + 1 ≤ 7 * a + L) :
    ∀ (N : Nat) (z : St) (s : Nat) (π : List Int) (om : SL) (u m i : Nat), n - s ≤ N → n - s < m → i ≤ s → s ≤ n → XSt z T n s q (om ++ fl π) u → Vo (om ++ fl π) (d + 1) → d + 1 ≤ u → (∀ x ∈ π, vsE x ∧ x ≠ 20 ∧ L ≤ tg x) → π.length ≤ plL L a → om.length + np (π ++ σ) + 1 ≤ 9 * u → u ≤ 30 → (sg T n s = 0 ∨ tg (sg T n s) < L + 1 ∨ (tg (sg T n s) = 4 ∧ hrl (π ++ σ) = true)) →
      ∃ z', Lp m i z = some z' ∧ (∀ a j, xFr q a j → SA z z' a j) ∧
        ((∃ (e : Int) (p : Int32), BadX q z' e p ∧ ∀ (w : St) (m : Nat), MSt w T n s f (π ++ σ) om u v → n - s + 1 < m → BadM f w (mSf m w) e p) ∨
          ∃ (s' : Nat) (π' : List Int) (om' : SL) (u' : Nat), s ≤ s' ∧ s' ≤ n ∧ XSt z' T n s' q (om' ++ fl π') u' ∧ Vo (om' ++ fl π') (d + 1) ∧ u ≤ u' ∧ PosL T n L a σ π' om' u' s' ∧
            ∀ (w : St) (m : Nat), MSt w T n s f (π ++ σ) om u v → n - s + 1 < m → ∃ m' w', mSf m w = mSf m' w' ∧ n - s' + 1 < m' ∧ MSt w' T n s' f (π' ++ σ) om' u' v ∧ ∀ a j, mFr f a j → SA w w' a j) := by
  intro N
  induction N with
  | zero =>
    intro z s π om u m i hN hm hi hs hX hV hdu hπ hpl hct hu hsg
    obtain ⟨m, rfl⟩ : ∃ m', m = m' + 1 := ⟨m - 1, by omega⟩
    have hn : ¬ (sg T n s ≠ 0 ∧ tg (sg T n s) = L) := fun h => by
      have := sg_k h.1
      have k0 : kx T n s = 0 := by unfold kx; rw [if_pos (by omega)]
      omega
    refine ⟨z, hLn m i z s hX.2.1 hX.2.2.1 hn, fun _ _ _ => SA.rf, Or.inr ⟨s, π, om, u, Nat.le_refl _, hs, hX, hV, Nat.le_refl _, ⟨hπ, hpl, hct, hu, ?_⟩, fun w m hM hm => ⟨m, w, rfl, hm, hM, fun _ _ _ => SA.rf⟩⟩⟩
    rcases hsg with h | h | h
    · exact Or.inl h
    · by_cases h0 : sg T n s = 0
      · exact Or.inl h0
      · exact Or.inr (Or.inl (by have : tg (sg T n s) ≠ L := fun e => hn ⟨h0, e⟩; omega))
    · exact Or.inr (Or.inr h)
  | succ N ih =>
    intro z s π om u m i hN hm hi hs hX hV hdu hπ hpl hct hu hsg
    by_cases hc : sg T n s ≠ 0 ∧ tg (sg T n s) = L
    · obtain ⟨h0, htL⟩ := hc
      have hk := sg_k h0
      have hop := sg_op h0
      have hsn : s < n := by
        rcases hk with e | e
        · exact (kx_1 e).1
        · exact (kx_3 e).1
      obtain ⟨hx1, hx2⟩ := nx_b T (n := n) hs
      have hx2 := hx2 (by omega)
      obtain ⟨m, rfl⟩ : ∃ m', m = m' + 2 := ⟨m - 2, by omega⟩
      have hT16 := hT.1
      have h160 : (π ++ σ).length ≤ 150 := by
        rw [List.length_append]
        have : plL L a ≤ 13 := by unfold plL; split <;> omega
        have := hσ.2.2.1
        omega
      have hnp : np (π ++ σ) = π.length + np σ := by rw [np_a, np_l fun x hx => (hπ x hx).2.1]
      have holen : (om ++ fl π).length = om.length + π.length := by rw [List.length_append, fl_len]
      obtain ⟨z2, a1, a2, a3⟩ := hX.adv hT hs hq (by omega)
      have hpre : PreL (L + 1) a (sg T n s :: σ) (om ++ fl π) u := by
        refine ⟨fun x hx => ?_, ?_, hσ.2.2.1, Or.inr ?_, by show σ.length + 1 + 1 ≤ _; have := hσ.2.2.2.2; omega, ?_, hu⟩
        · rcases List.mem_cons.mp hx with rfl | h
          · exact Or.inr (Or.inr hop)
          · exact hσ.1 x h
        · show nb σ + (if sg T n s = 20 ∨ sg T n s = 21 then 1 else 0) = a
          rw [if_neg (by unfold isOp at hop; omega), Nat.add_zero, hσ.2.1]
        · rw [htL]; unfold hl; split <;> omega
        · rw [holen]
          show om.length + π.length + (np σ + (if sg T n s = 20 then 0 else 1)) ≤ 9 * u + (if sg T n s = 21 then ct σ + 1 else 0)
          rw [if_neg (by unfold isOp at hop; omega), if_neg (by unfold isOp at hop; omega)]
          omega
      obtain ⟨z4, b1, b2, b3⟩ := hSub z2 (nx T n s) (sg T n s :: σ) (om ++ fl π) (d + 1) u hx1 a2 hpre (fun h4 => Or.inr (by rw [mnt]; exact decide_eq_false (by unfold isOp at hop; omega))) hV hdu
      have mp : ∀ (w : St) (m : Nat), MSt w T n s f (π ++ σ) om u v → n - s + 1 < m → ∃ m' w', m = m' + 1 ∧ n - nx T n s + 1 < m' ∧ mSf m w = mUf fu m' w' ∧ MSt w' T n (nx T n s) f (sg T n s :: σ) (om ++ fl π) u v ∧ ∀ a j, mFr f a j → SA w w' a j := fun w m hM hm => by
        obtain ⟨m, rfl⟩ : ∃ m', m = m' + 1 := ⟨m - 1, by omega⟩
        obtain ⟨w', g1, g2, g3⟩ := m_push (π := π) hT hs hf hσ.1 (by rw [htL]; exact hπ) (by rw [htL]; exact hσ.2.2.2.1) h0 (fun e => by omega) hM (by omega) h160 m
        exact ⟨m, w', rfl, by omega, g1, g2, g3⟩
      have hfu : n - nx T n s + 1 < fu := by unfold fu; omega
      rw [hLy (m + 1) i z s (by omega) hX.2.1 hX.2.2.1 h0 htL, bv_o a1, bv_o b1]
      rcases b3 with ⟨e, p, c1, c2⟩ | ⟨s', π', om', u', c1, c2, c3, c4, c5, c6, c7⟩
      · obtain ⟨z6, g1, g2, g3⟩ := c1.add hq (iI (xst (sg T n s))) 0
        rw [bv_o g1, hLf m (i + 1) z6 g2.ne]
        refine ⟨z6, rfl, fun a j p => ((a3 a j p).tr (b2 a j p)).tr (g3 a j p), Or.inl ⟨e, p, g2, fun w m hM hm => ?_⟩⟩
        obtain ⟨m', w', -, f1, f2, f3, f4⟩ := mp w m hM hm
        obtain ⟨w'', h1, h2, h3, h4⟩ := c2 w' fu m' f3 hfu f1
        rw [f2]
        exact ⟨w'', h1, h2, h3, fun a j p => (f4 a j p).tr (h4 a j p)⟩
      · obtain ⟨p1, p2, p3, p4, p5⟩ := c6
        have hl4 : (om' ++ fl π').length < 272 := by
          rw [List.length_append, fl_len]
          rw [np_a, np_l fun x hx => (p1 x hx).2.1] at p3
          omega
        obtain ⟨x1, x2, x3, x4, x5⟩ := c3
        obtain ⟨z6, g1, g2, g3⟩ := x_addO x4 hl4 (k := 3) (a := sg T n s) (d := d + 1 + 1) (Or.inr (Or.inr (Or.inr ⟨rfl, by omega, hop⟩)))
        rw [xsp_3, if_neg (show ¬ (3 : Nat) = 0 from by omega), ← q_0] at g1
        have e21 : ¬ sg T n s = 21 := by unfold isOp at hop; omega
        have elist : om' ++ fl π' ++ [(3, sg T n s)] = om' ++ fl (π' ++ [sg T n s]) := by
          rw [fl_a, ← List.append_assoc]
          show _ = om' ++ fl π' ++ [em (sg T n s)]
          rw [show em (sg T n s) = (3, sg T n s) from if_neg e21]
        rw [elist] at g2
        have k6 : ∀ a j, xFr q a j → SA z4 z6 a j := fun a j p => g3 a j (by unfold xFr at p; omega) (by unfold xFr at p; omega)
        have X6 : XSt z6 T n s' q (om' ++ fl (π' ++ [sg T n s])) u' := ⟨x1.fr fun a j p => g3 a j (by omega) (by omega), x2.fr fun j h1 h2 => g3 32 j (by omega) (by omega), (g3 32 11 (by omega) (by omega)).1.trans x3, g2, (g3 q 3 (by omega) (by omega)).1.trans x5⟩
        have V6 : Vo (om' ++ fl (π' ++ [sg T n s])) (d + 1) := by
          rw [← elist]
          have := Vo_s (x := (3, sg T n s)) c4 (by omega) (Or.inr (Or.inr (Or.inr ⟨rfl, by omega, hop⟩)))
          exact this
        have eapp : (π' ++ [sg T n s]) ++ σ = π' ++ sg T n s :: σ := by rw [List.append_assoc]; rfl
        obtain ⟨z', r1, r2, r3⟩ := ih z6 s' (π' ++ [sg T n s]) om' u' (m + 1) (i + 1) (by omega) (by omega) (by omega) c2 X6 V6 (by omega) (fun x hx => by
          rcases List.mem_append.mp hx with h | h
          · exact ⟨(p1 x h).1, (p1 x h).2.1, by have := (p1 x h).2.2; omega⟩
          · rw [List.mem_singleton.mp h]; exact ⟨Or.inr (Or.inr hop), by unfold isOp at hop; omega, by omega⟩) (by
          rw [List.length_append]
          show π'.length + 1 ≤ _
          unfold plL at p2 ⊢
          have := hσ.2.2.1
          split at p2 <;> split <;> omega) (by rw [eapp]; exact p3) p4 (by rw [eapp]; exact p5)
        rw [bv_o g1]
        refine ⟨z', r1, fun a j p => (((a3 a j p).tr (b2 a j p)).tr (k6 a j p)).tr (r2 a j p), ?_⟩
        rcases r3 with ⟨e, p, t1, t2⟩ | ⟨s'', π'', om'', u'', t1, t2, t3, t4, t5, t6, t7⟩
        · refine Or.inl ⟨e, p, t1, fun w m hM hm => ?_⟩
          obtain ⟨m', w', -, f1, f2, f3, f4⟩ := mp w m hM hm
          obtain ⟨m'', w'', h1, h2, h3, h4⟩ := c7 w' fu m' f3 hfu f1
          rw [← eapp] at h3
          obtain ⟨w3, y1, y2, y3, y4⟩ := t2 w'' m'' h3 h2
          rw [f2, h1]
          exact ⟨w3, y1, y2, y3, fun a j p => ((f4 a j p).tr (h4 a j p)).tr (y4 a j p)⟩
        · refine Or.inr ⟨s'', π'', om'', u'', by omega, t2, t3, t4, by omega, t6, fun w m hM hm => ?_⟩
          obtain ⟨m', w', -, f1, f2, f3, f4⟩ := mp w m hM hm
          obtain ⟨m'', w'', h1, h2, h3, h4⟩ := c7 w' fu m' f3 hfu f1
          rw [← eapp] at h3
          obtain ⟨m3, w3, y1, y2, y3, y4⟩ := t7 w'' m'' h3 h2
          refine ⟨m3, w3, by rw [f2, h1, y1], y2, y3, fun a j p => ((f4 a j p).tr (h4 a j p)).tr (y4 a j p)⟩
    · obtain ⟨m, rfl⟩ : ∃ m', m = m' + 1 := ⟨m - 1, by omega⟩
      refine ⟨z, hLn m i z s hX.2.1 hX.2.2.1 hc, fun _ _ _ => SA.rf, Or.inr ⟨s, π, om, u, Nat.le_refl _, hs, hX, hV, Nat.le_refl _, ⟨hπ, hpl, hct, hu, ?_⟩, fun w m hM hm => ⟨m, w, rfl, hm, hM, fun _ _ _ => SA.rf⟩⟩⟩
      rcases hsg with h | h | h
      · exact Or.inl h
      · by_cases h0 : sg T n s = 0
        · exact Or.inl h0
        · exact Or.inr (Or.inl (by have : tg (sg T n s) ≠ L := fun e => hc ⟨h0, e⟩; omega))
      · exact Or.inr (Or.inr h)
/-- a reader that loops -/
theorem CL_loop (hT : VT T n) (hq : q = 26 ∨ q = 29) (hf : f < 2) (hL : L = 1 ∨ L = 2 ∨ L = 5 ∨ L = 6) {Sub : St → Option St} {Lp : Nat → Nat → St → Option St} (hSub : CLm T n q f v (L + 1) a Sub)
    (hLf : ∀ m i z, z.1 32 11 ≠ 0 → Lp (m + 1) i z = some z)
    (hLn : ∀ m i z s, XK z T n s → z.1 32 11 = 0 → ¬ (sg T n s ≠ 0 ∧ tg (sg T n s) = L) → Lp (m + 1) i z = some z)
    (hLy : ∀ m i z s, i < 1600 → XK z T n s → z.1 32 11 = 0 → sg T n s ≠ 0 → tg (sg T n s) = L → Lp (m + 1) i z = bv (fn_X6_advance z) (fun z2 => bv (Sub z2) (fun z4 => bv (fn_X2_add q (iI (xst (sg T n s))) 0 z4) (fun z6 => Lp m (i + 1) z6)))) :
    CLm T n q f v L a (fun z => bv (Sub z) (fun z2 => Lp fu 0 z2)) := by
  intro z s σ o d u hs hX hP hN hV hdu
  have hn16 := hT.1
  obtain ⟨z1, a1, a2, a3⟩ := hSub z s σ o d u hs hX (hP.up (by omega)) (fun h4 => hN (by omega)) hV hdu
  obtain ⟨h1, h2, h3, h4, h5, h6, h7⟩ := hP
  have h4' : stpL L σ := by unfold hl at h4; rw [if_neg (by omega)] at h4; exact h4
  show ∃ z', bv (Sub z) (fun z2 => Lp fu 0 z2) = some z' ∧ _
  rw [bv_o a1]
  rcases a3 with ⟨e, p, c1, c2⟩ | ⟨s', π, om, u', c1, c2, c3, c4, c5, c6, c7⟩
  · rw [show fu = 999999 + 1 from rfl, hLf 999999 0 z1 c1.ne]
    exact ⟨z1, rfl, a2, Or.inl ⟨e, p, c1, c2⟩⟩
  · obtain ⟨p1, p2, p3, p4, p5⟩ := c6
    obtain ⟨z', r1, r2, r3⟩ := CL_ll (d := d) (i0 := 0) hT hq hf hL hSub hLf hLn hLy ⟨h1, h2, h3, h4', h5⟩ (n - s') z1 s' π om u' fu 0 (Nat.le_refl _) (by unfold fu; omega) (by omega) c2 c3 c4 (by omega) (fun x hx => ⟨(p1 x hx).1, (p1 x hx).2.1, by have := (p1 x hx).2.2; omega⟩) (by
      unfold plL at p2 ⊢
      split at p2 <;> split <;> omega) p3 p4 p5
    refine ⟨z', r1, fun a j p => (a2 a j p).tr (r2 a j p), ?_⟩
    rcases r3 with ⟨e, p, t1, t2⟩ | ⟨s'', π'', om'', u'', t1, t2, t3, t4, t5, t6, t7⟩
    · refine Or.inl ⟨e, p, t1, fun w k m hM hk hm => ?_⟩
      obtain ⟨m', w', g1, g2, g3, g4⟩ := c7 w k m hM hk hm
      obtain ⟨w3, y1, y2, y3, y4⟩ := t2 w' m' g3 g2
      rw [g1]
      exact ⟨w3, y1, y2, y3, fun a j p => (g4 a j p).tr (y4 a j p)⟩
    · refine Or.inr ⟨s'', π'', om'', u'', by omega, t2, t3, t4, by omega, t6, fun w k m hM hk hm => ?_⟩
      obtain ⟨m', w', g1, g2, g3, g4⟩ := c7 w k m hM hk hm
      obtain ⟨m3, w3, y1, y2, y3, y4⟩ := t7 w' m' g3 g2
      exact ⟨m3, w3, by rw [g1, y1], y2, y3, fun a j p => (g4 a j p).tr (y4 a j p)⟩
end
