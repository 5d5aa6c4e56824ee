section
variable {z w : St} {c : RC} {F0 F1 : FO} {b : BD}
def exN (x f o : Nat) : Nat := if x = f then o else if x = o then f else x
theorem exN_b {x f o G : Nat} (h : x < G) (hf : f < G) (ho : o < G) : exN x f o < G := by
  unfold exN
  split
  · exact ho
  · split
    · exact hf
    · exact h
/-- g envies s once f and o have exchanged -/
def enx (c : RC) (F0 : FO) (b : BD) (f o g s : Nat) : Bool := decide (s ≠ g ∧ hp b (s : Int) ≠ -1 ∧ wop c F0 b g (hp b (exN g f o : Int)) 0 < wop c F0 b g (hp b (exN s f o : Int)) 0)
def aX (c : RC) (F0 : FO) (b : BD) (f o : Nat) : Nat → Int
  | 0 => 0
  | g + 1 => aX c F0 b f o g + cB6 (enx c F0 b f o g) (c 6 1).toNat
theorem aX_b (hC : VC c) {f o : Nat} : ∀ k : Nat, 0 ≤ aX c F0 b f o k ∧ aX c F0 b f o k ≤ 6 * k := by
  intro k
  have hG := hC.2.1
  induction k with
  | zero => exact ⟨Int.le_refl 0, Int.le_refl 0⟩
  | succ k ih => rw [aX]; have := cB6_b (enx c F0 b f o k) (c 6 1).toNat; omega
/-- x's table of worths -/
def RGd (c : RC) (F0 : FO) (b : BD) (z : St) : Prop := ∀ g o : Nat, (g : Int) < c 6 1 → (o : Int) < c 6 1 → z.1 145 (6 * g + o) = wop c F0 b g (hp b (o : Int)) 0
theorem x_exch {x f o : Nat} (hx : x < 6) (hf : f < 6) (ho : o < 6) : fn_X10_exchanged (iI (x : Int)) (iI (f : Int)) (iI (o : Int)) z = some (iI (exN x f o : Int), z) := by
  unfold fn_X10_exchanged exN
  by_cases h1 : x = f
  · rw [if_pos (show iI (x : Int) = iI (f : Int) from by rw [h1]), if_pos h1]
  · rw [if_neg (neq (by omega) (by omega) (by omega)), if_neg h1]
    by_cases h2 : x = o
    · rw [if_pos (show iI (x : Int) = iI (o : Int) from by rw [h2]), if_pos h2]
    · rw [if_neg (neq (by omega) (by omega) (by omega)), if_neg h2]
theorem x_after {f o : Nat} (h : RXs z c F0 F1 b) (hR : RGd c F0 b z) (hf : (f : Int) < c 6 1 ∨ (f = 0 ∧ o = 0)) (ho : (o : Int) < c 6 1 ∨ (f = 0 ∧ o = 0)) : fn_X10_enviesAfter (iI (f : Int)) (iI (o : Int)) z = some (iI (aX c F0 b f o (c 6 1).toNat), z) := by
  have hC := h.1
  have hV := h.2.1
  have hn := hV.1
  have hG := hC.2.1
  obtain ⟨m, hm⟩ := loopK (fun m g => fn_X10_enviesAfter_5 m (iI (f : Int)) (iI (o : Int)) (iI (aX c F0 b f o g)) (iI (g : Int)) z) (c 6 1).toNat (by omega) (fun g m hg => by
    have hgc : (g : Int) < c 6 1 := by omega
    have hf6 : f < (c 6 1).toNat := by omega
    have ho6 : o < (c 6 1).toNat := by omega
    have hx := exN_b hg hf6 ho6
    show fn_X10_enviesAfter_5 (m + 1) _ _ _ _ _ = fn_X10_enviesAfter_5 m _ _ _ _ _
    rw [fn_X10_enviesAfter_5, h.2.2.2.2.1.2.1, if_neg (nle (by omega) (by omega) (by omega)), nm_o, bd_o (x_exch (by omega) (by omega) (by omega)), q_6, iI_mul, iI_add, gd_t (iI_ix (by omega)), nm_o, show Int32.toNatClampNeg (iI ((g : Int) * 6 + (exN g f o : Int))) = 6 * g + exN g f o from by rw [iI_clamp (by omega)]; omega, hR g (exN g f o) hgc (by omega)]
    obtain ⟨m2, hm2⟩ := loopK (fun m2 s => fn_X10_enviesAfter_44 (fn_X10_enviesAfter_5 m) m2 (iI (f : Int)) (iI (o : Int)) (iI (aX c F0 b f o g + cB6 (enx c F0 b f o g) s)) (iI (g : Int)) (iI ((g : Int) * 6)) (wop c F0 b g (hp b (exN g f o : Int)) 0) (iI (s : Int)) z) (c 6 1).toNat (by omega) (fun s m2 hs => by
      have hbs := hp_b hV (s : Int)
      have hxs := exN_b hs hf6 ho6
      show fn_X10_enviesAfter_44 _ (m2 + 1) _ _ _ _ _ _ _ _ = fn_X10_enviesAfter_44 _ m2 _ _ _ _ _ _ _ _
      rw [fn_X10_enviesAfter_44, h.2.2.2.2.1.2.1, if_neg (nle (by omega) (by omega) (by omega)), cB6]
      unfold fn_X10_enviesAfter_81 fn_X10_enviesAfter_82 fn_X10_enviesAfter_112
      rw [k1]
      by_cases e0 : s = g
      · rw [if_pos (show iI (s : Int) = iI (g : Int) from by rw [e0]), if_pos (show (0 : Int32) = 0 from rfl), if_neg (show ¬ enx c F0 b f o g s = true from by unfold enx; simp [e0]), Int.add_zero]
      · rw [if_neg (show ¬ iI (s : Int) = iI (g : Int) from neq (by omega) (by omega) (by omega)), gd_t (iI_ix (by omega)), iI_clampN (by omega), show z.1 60 s = iI (hp b (s : Int)) from h.2.2.2.2.2.1.2.2.2.2 s (by omega)]
        by_cases hh : hp b (s : Int) = -1
        · rw [if_pos (show iI (hp b (s : Int)) = -1 from by rw [hh]; exact q_m1.symm), if_pos (show (0 : Int32) = 0 from rfl), if_neg (show ¬ enx c F0 b f o g s = true from by unfold enx; simp [hh]), Int.add_zero]
        · rw [if_neg (show ¬ iI (hp b (s : Int)) = -1 from by rw [q_m1]; exact neq (by omega) (by omega) hh), if_neg (show ¬ (1 : Int32) = 0 from by decide), bd_o (x_exch (by omega) (by omega) (by omega)), iI_add, gd_t (iI_ix (by omega)), show Int32.toNatClampNeg (iI ((g : Int) * 6 + (exN s f o : Int))) = 6 * g + exN s f o from by rw [iI_clamp (by omega)]; omega, hR g (exN s f o) hgc (by omega)]
          by_cases hl : wop c F0 b g (hp b (exN s f o : Int)) 0 ≤ wop c F0 b g (hp b (exN g f o : Int)) 0
          · rw [if_pos hl, if_neg (show ¬ enx c F0 b f o g s = true from fun q => by have := (of_decide_eq_true q).2.2; exact absurd hl (Int32.not_le.mpr this)), Int.add_zero]
          · rw [if_neg hl, if_pos (show enx c F0 b f o g s = true from decide_eq_true ⟨e0, hh, Int32.not_le.mp hl⟩), q_1, iI_add, Int.add_assoc])
    refine (show _ = fn_X10_enviesAfter_44 (fn_X10_enviesAfter_5 m) fu (iI (f : Int)) (iI (o : Int)) (iI (aX c F0 b f o g + cB6 (enx c F0 b f o g) 0)) (iI (g : Int)) (iI ((g : Int) * 6)) (wop c F0 b g (hp b (exN g f o : Int)) 0) (iI ((0 : Nat) : Int)) z from by rw [z0, cB6, Int.add_zero]).trans (hm2.trans ?_)
    rw [fn_X10_enviesAfter_44, h.2.2.2.2.1.2.1, if_pos (yle (by omega) (by omega) (by omega)), k1, aX])
  unfold fn_X10_enviesAfter
  refine (show _ = fn_X10_enviesAfter_5 fu (iI (f : Int)) (iI (o : Int)) (iI 0) (iI ((0 : Nat) : Int)) z from by rw [z0, ← q_0]).trans (hm.trans ?_)
  rw [fn_X10_enviesAfter_5, h.2.2.2.2.1.2.1, if_pos (yle (by omega) (by omega) (by omega))]
/-! the reference exchanges in the air -/
theorem wop_put {p q : Nat} {x y : Int} {g : Nat} {n : Int} : wop c F0 (bPut (bPut b p x) q y) g n 0 = wop c F0 b g n 0 := by
  unfold wop
  rw [(bPut_168 _ q y).1, (bPut_168 b p x).1, (bPut_168 _ q y).2.1, (bPut_168 b p x).2.1]
  have e : ∀ f, f < 6 → pc (bPut (bPut b p x) q y) n.toNat f = pc b n.toNat f := fun f hf => by rw [bPut_n _ _ hf, bPut_n _ _ hf]
  have ea : ar c (pc (bPut (bPut b p x) q y) n.toNat) = ar c (pc b n.toNat) := by unfold ar; rw [e 3 (by omega), e 4 (by omega), e 0 (by omega)]
  have ei : ic c (pc (bPut (bPut b p x) q y) n.toNat) = ic c (pc b n.toNat) := by unfold ic; simp only [e 0 (by omega), e 1 (by omega), e 2 (by omega), e 3 (by omega), e 4 (by omega)]
  have es : ∀ sw, As c (pc (bPut (bPut b p x) q y) n.toNat) sw 0 (b 169) = As c (pc b n.toNat) sw 0 (b 169) := fun sw => by funext j; unfold As; rw [ea, ei, e 5 (by omega)]
  unfold wo
  rw [ea, es]
theorem aE_exch (hC : VC c) (hV : VB c b) {f o p q : Nat} (hf : (f : Int) < c 6 1) (ho : (o : Int) < c 6 1) (hfo : f ≠ o) (hp1 : (p : Int) < b 168) (hq1 : (q : Int) < b 168) (hpf : hp b (f : Int) = p) (hqo : hp b (o : Int) = q) : ∀ k, aE c F0 (bPut (bPut b q f) p o) k = aX c F0 b f o k := by
  have H := (trade_V hV hf ho hfo hp1 hq1 hpf hqo).2
  have Hx : ∀ s : Nat, hp (bPut (bPut b q f) p o) (s : Int) = hp b (exN s f o : Int) := fun s => by
    rw [H s]
    unfold exN
    by_cases h1 : s = o
    · rw [if_pos h1]
      by_cases h2 : s = f
      · omega
      · rw [if_neg h2, if_pos h1, hpf]
    · rw [if_neg h1]
      by_cases h2 : s = f
      · rw [if_pos h2, if_pos h2, hqo]
      · rw [if_neg h2, if_neg h2, if_neg h1]
  have En : ∀ g s : Nat, enb c F0 (bPut (bPut b q f) p o) g s = enx c F0 b f o g s := fun g s => by
    unfold enb enx
    rw [Hx g, Hx s, wop_put, wop_put]
    congr 1
    have : (hp b (exN s f o : Int) ≠ -1) = (hp b (s : Int) ≠ -1) := by
      unfold exN
      by_cases h1 : s = f
      · rw [if_pos h1, h1, hpf, hqo]; exact propext (by omega)
      · rw [if_neg h1]
        by_cases h2 : s = o
        · rw [if_pos h2, h2, hpf, hqo]; exact propext (by omega)
        · rw [if_neg h2]
    rw [this]
  intro k
  induction k with
  | zero => rfl
  | succ k ih => rw [aE, aX, ih, cB6_ext _ fun i _ => En k i]
theorem aE_same : ∀ k, aX c F0 b 0 0 k = aE c F0 b k := by
  have ex : ∀ s, exN s 0 0 = s := fun s => by
    unfold exN
    by_cases h : s = 0
    · rw [if_pos h, h]
    · rw [if_neg h, if_neg h]
  intro k
  induction k with
  | zero => rfl
  | succ k ih => rw [aE, aX, ih, cB6_ext (Q := enb c F0 b k) _ fun i _ => by unfold enx enb; rw [ex k, ex i]]
/-- the calmest exchange: how many envies are left, and which -/
def clJ (c : RC) (F0 : FO) (b : BD) (a : Nat) (s : Int × Int) : Nat → Int × Int
  | 0 => s
  | j + 1 => if (a < j ∧ hp b (a : Int) ≠ -1 ∧ hp b (j : Int) ≠ -1) ∧ aX c F0 b a j (c 6 1).toNat < (clJ c F0 b a s j).1 then (aX c F0 b a j (c 6 1).toNat, 6 * (a : Int) + (j : Int)) else clJ c F0 b a s j
def clI (c : RC) (F0 : FO) (b : BD) : Nat → Int × Int
  | 0 => (aE c F0 b (c 6 1).toNat, -1)
  | a + 1 => clJ c F0 b a (clI c F0 b a) (c 6 1).toNat
theorem clJ_low {a : Nat} {s : Int × Int} : ∀ j, j ≤ a + 1 → clJ c F0 b a s j = s := by
  intro j
  induction j with
  | zero => intro _; rfl
  | succ j ih => intro hj; rw [clJ, if_neg (fun q => by omega), ih (by omega)]
theorem clJ_b (hC : VC c) {a : Nat} (ha : a < 6) {s : Int × Int} (hs : (0 ≤ s.1 ∧ s.1 ≤ 36) ∧ -1 ≤ s.2 ∧ s.2 < 36) : ∀ j, j ≤ 6 → (0 ≤ (clJ c F0 b a s j).1 ∧ (clJ c F0 b a s j).1 ≤ 36) ∧ -1 ≤ (clJ c F0 b a s j).2 ∧ (clJ c F0 b a s j).2 < 36 := by
  intro j
  have hG := hC.2.1
  induction j with
  | zero => intro _; exact hs
  | succ j ih =>
    intro hj
    have := aX_b (F0 := F0) (b := b) hC (f := a) (o := j) (c 6 1).toNat
    rw [clJ]
    split
    · dsimp only; omega
    · exact ih (by omega)
theorem clI_b (hC : VC c) : ∀ a, a ≤ 6 → (0 ≤ (clI c F0 b a).1 ∧ (clI c F0 b a).1 ≤ 36) ∧ -1 ≤ (clI c F0 b a).2 ∧ (clI c F0 b a).2 < 36 := by
  intro a
  have hG := hC.2.1
  induction a with
  | zero => intro _; have := aE_b (F0 := F0) (b := b) hC (c 6 1).toNat; rw [clI]; dsimp only; omega
  | succ a ih => intro ha; rw [clI]; exact clJ_b hC (by omega) (ih (by omega)) _ (by omega)
end
