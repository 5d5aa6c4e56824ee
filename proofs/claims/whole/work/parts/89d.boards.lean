/-! pieces of guests -/
theorem pof_none (b : BD) (g : Int) : ∀ n : Nat, pof b g n = -1 ↔ ∀ q : Nat, q < n → pc b q 6 ≠ g := by
  intro n
  induction n with
  | zero => exact ⟨fun _ q hq => absurd hq (Nat.not_lt_zero q), fun _ => rfl⟩
  | succ n ih =>
    rw [pof]
    by_cases h : pc b n 6 = g
    · rw [if_pos h]
      exact ⟨fun q => by omega, fun q => absurd h (q n (by omega))⟩
    · rw [if_neg h, ih]
      refine ⟨fun q k hk => ?_, fun q k hk => q k (by omega)⟩
      by_cases hkn : k = n
      · rw [hkn]; exact h
      · exact q k (by omega)
theorem pof_some (b : BD) (g : Int) (p : Nat) : ∀ n : Nat, p < n → pc b p 6 = g → (∀ q : Nat, q < n → q ≠ p → pc b q 6 ≠ g) → pof b g n = p := by
  intro n
  induction n with
  | zero => intro h; omega
  | succ n ih =>
    intro h1 h2 h3
    rw [pof]
    by_cases hpn : p = n
    · subst hpn; rw [if_pos h2]
    · rw [if_neg (h3 n (by omega) (by omega))]
      exact ih (by omega) h2 (fun q hq => h3 q (by omega))
theorem pof_congr {b b' : BD} {g : Int} : ∀ n : Nat, (∀ q : Nat, q < n → (pc b q 6 = g ↔ pc b' q 6 = g)) → pof b g n = pof b' g n := by
  intro n
  induction n with
  | zero => intro _; rfl
  | succ n ih =>
    intro h
    rw [pof, pof, ih (fun q hq => h q (by omega))]
    by_cases hg : pc b n 6 = g
    · rw [if_pos hg, if_pos ((h n (by omega)).mp hg)]
    · rw [if_neg hg, if_neg (fun q => hg ((h n (by omega)).mpr q))]
section
variable {c : RC} {F1 : FO} {b : BD}
theorem hp_at (hV : VB c b) {g : Int} (hg : 0 ≤ g) {p : Nat} (hp1 : (p : Int) < b 168) : hp b g = p ↔ pc b p 6 = g := by
  have h0 := hV.1
  constructor
  · intro h
    unfold hp at h
    rcases pof_r b g (b 168).toNat with e | ⟨q, h1, h2, h3⟩
    · omega
    · have : q = p := by omega
      rw [← this]; exact h3
  · intro h
    unfold hp
    exact pof_some b g p _ (by omega) h (fun q hq hqp e => by
      have := hV.2.2.2.1 q p (by omega) hp1 hqp (by rw [e, h])
      omega)
theorem hp_no (hV : VB c b) {g : Int} : hp b g = -1 ↔ ∀ q : Nat, (q : Int) < b 168 → pc b q 6 ≠ g := by
  have h0 := hV.1
  unfold hp
  rw [pof_none]
  exact ⟨fun h q hq => h q (by omega), fun h q hq => h q (by omega)⟩
/-! put -/
theorem bPut_168 (b : BD) (p : Nat) (g : Int) : bPut b p g 168 = b 168 ∧ bPut b p g 169 = b 169 ∧ bPut b p g 170 = b 170 := by
  unfold bPut up
  exact ⟨if_neg (by omega), if_neg (by omega), if_neg (by omega)⟩
theorem bPut_pc (b : BD) (p : Nat) (g : Int) {q f : Nat} (hf : f < 7) : pc (bPut b p g) q f = if q = p ∧ f = 6 then g else pc b q f := by
  unfold pc bPut up
  by_cases h : q = p ∧ f = 6
  · rw [if_pos h, if_pos (by omega)]
  · rw [if_neg h, if_neg (by omega)]
theorem bPut_n (b : BD) {p : Nat} (g : Int) {q f : Nat} (hf : f < 6) : pc (bPut b p g) q f = pc b q f := by
  rw [bPut_pc b p g (by omega), if_neg (by omega)]
theorem VP_put {p q : Nat} {g : Int} (h : VP c (pc b q)) (hg : -1 ≤ g ∧ g < c 6 1) : VP c (pc (bPut b p g) q) := by
  unfold VP
  rw [bPut_n b g (show 0 < 6 from by omega), bPut_n b g (show 1 < 6 from by omega), bPut_n b g (show 2 < 6 from by omega), bPut_n b g (show 3 < 6 from by omega), bPut_n b g (show 4 < 6 from by omega), bPut_n b g (show 5 < 6 from by omega), bPut_pc b p g (show 6 < 7 from by omega)]
  refine ⟨h.1, h.2.1, h.2.2.1, h.2.2.2.1, ?_⟩
  have := h.2.2.2.2
  split <;> omega
theorem apart_put {p q r : Nat} {g : Int} (h : apart (pc b q) (pc b r)) : apart (pc (bPut b p g) q) (pc (bPut b p g) r) := by
  unfold apart
  simp only [bPut_n b g (show 1 < 6 from by omega), bPut_n b g (show 2 < 6 from by omega), bPut_n b g (show 3 < 6 from by omega), bPut_n b g (show 4 < 6 from by omega)]
  exact h
theorem VB_put (hV : VB c b) {p : Nat} {g : Int} (hg : -1 ≤ g ∧ g < c 6 1) (ho : ∀ q : Nat, (q : Int) < b 168 → q ≠ p → pc b q 6 = g → g = -1) : VB c (bPut b p g) := by
  obtain ⟨e1, e2, e3⟩ := bPut_168 b p g
  refine ⟨by rw [e1]; exact hV.1, by rw [e3]; exact hV.2.1, fun q hq => VP_put (hV.2.2.1 q (by rw [← e1]; exact hq)) hg, fun q r hq hr hqr he => ?_, fun q r hq hr hqr he => apart_put (hV.2.2.2.2 q r (by rw [← e1]; exact hq) (by rw [← e1]; exact hr) hqr ?_)⟩
  · rw [e1] at hq hr
    rw [bPut_pc b p g (show 6 < 7 from by omega)] at he ⊢
    rw [bPut_pc b p g (show 6 < 7 from by omega)] at he
    by_cases hqp : q = p
    · rw [if_pos ⟨hqp, rfl⟩] at he ⊢
      rw [if_neg (by omega)] at he
      exact ho r hr (by omega) he.symm
    · rw [if_neg (by omega)] at he ⊢
      by_cases hrp : r = p
      · rw [if_pos ⟨hrp, rfl⟩] at he
        rw [he]
        exact ho q hq hqp he
      · rw [if_neg (by omega)] at he
        exact hV.2.2.2.1 q r hq hr hqr he
  · rw [bPut_n b g (show 0 < 6 from by omega), bPut_n b g (show 0 < 6 from by omega)] at he
    exact he
/-! cut -/
theorem goC_168 {p w : Nat} {k : Int} (hn : 0 ≤ b 168 ∧ b 168 < 24) (hp1 : (p : Int) < b 168) (hw : w < 2) : goC b p w k 168 = b 168 + 1 ∧ goC b p w k 169 = b 169 ∧ goC b p w k 170 = b 170 := by
  unfold goC
  refine ⟨if_pos rfl, ?_, ?_⟩
  · rw [if_neg (by omega), if_neg (by omega), if_neg (by omega), if_neg (by omega), if_neg (by omega)]
  · rw [if_neg (by omega), if_neg (by omega), if_neg (by omega), if_neg (by omega), if_neg (by omega)]
theorem goC_pc {p w : Nat} {k : Int} (hn : 0 ≤ b 168 ∧ b 168 < 24) (hp1 : (p : Int) < b 168) (hw : w < 2) {q f : Nat} (hq : q < 24) (hf : f < 7) : pc (goC b p w k) q f = if (q : Int) = b 168 then (if f = 1 + w then pc b p f + k else if f = 3 + w then pc b p f - k else pc b p f) else if q = p ∧ f = 3 + w then k else pc b q f := by
  unfold pc goC
  rw [if_neg (by omega)]
  by_cases h1 : (q : Int) = b 168
  · have hq2 : (b 168).toNat = q := by omega
    rw [if_pos h1, hq2]
    by_cases h2 : f = 1 + w
    · rw [if_pos (by omega), if_pos h2, h2]
    · rw [if_neg (by omega), if_neg h2]
      by_cases h3 : f = 3 + w
      · rw [if_pos (by omega), if_pos h3, h3]
      · rw [if_neg (by omega), if_neg h3, if_neg (by omega), if_pos (by omega), show 7 * q + f - 7 * q = f from by omega]
  · rw [if_neg h1, if_neg (by omega), if_neg (by omega)]
    by_cases h2 : q = p ∧ f = 3 + w
    · rw [if_pos (by omega), if_pos h2]
    · rw [if_neg (by omega), if_neg h2, if_neg (by omega)]
/-- the three kinds of pieces behind a cut -/
theorem goC_new {p w : Nat} {k : Int} (h : canS b p w k) (hn : 0 ≤ b 168) {q : Nat} (hq : (q : Int) = b 168) : pc (goC b p w k) q 0 = pc b p 0 ∧ pc (goC b p w k) q 5 = pc b p 5 ∧ pc (goC b p w k) q 6 = pc b p 6 ∧ ((w = 0 ∧ pc (goC b p w k) q 1 = pc b p 1 + k ∧ pc (goC b p w k) q 2 = pc b p 2 ∧ pc (goC b p w k) q 3 = pc b p 3 - k ∧ pc (goC b p w k) q 4 = pc b p 4) ∨ (w = 1 ∧ pc (goC b p w k) q 1 = pc b p 1 ∧ pc (goC b p w k) q 2 = pc b p 2 + k ∧ pc (goC b p w k) q 3 = pc b p 3 ∧ pc (goC b p w k) q 4 = pc b p 4 - k)) := by
  obtain ⟨h1, h2, h3, h4, h5, h6⟩ := h
  have e : ∀ f, f < 7 → pc (goC b p w k) q f = if f = 1 + w then pc b p f + k else if f = 3 + w then pc b p f - k else pc b p f := fun f hf => by rw [goC_pc (by omega) h1 h4 (by omega) hf, if_pos hq]
  rw [e 0 (by omega), e 1 (by omega), e 2 (by omega), e 3 (by omega), e 4 (by omega), e 5 (by omega), e 6 (by omega)]
  have hw : w = 0 ∨ w = 1 := by omega
  rcases hw with rfl | rfl
  · refine ⟨rfl, rfl, rfl, Or.inl ⟨rfl, rfl, rfl, rfl, rfl⟩⟩
  · refine ⟨rfl, rfl, rfl, Or.inr ⟨rfl, rfl, rfl, rfl, rfl⟩⟩
theorem goC_old {p w : Nat} {k : Int} (h : canS b p w k) (hn : 0 ≤ b 168) : pc (goC b p w k) p 0 = pc b p 0 ∧ pc (goC b p w k) p 5 = pc b p 5 ∧ pc (goC b p w k) p 6 = pc b p 6 ∧ pc (goC b p w k) p 1 = pc b p 1 ∧ pc (goC b p w k) p 2 = pc b p 2 ∧ ((w = 0 ∧ pc (goC b p w k) p 3 = k ∧ pc (goC b p w k) p 4 = pc b p 4) ∨ (w = 1 ∧ pc (goC b p w k) p 3 = pc b p 3 ∧ pc (goC b p w k) p 4 = k)) := by
  obtain ⟨h1, h2, h3, h4, h5, h6⟩ := h
  have e : ∀ f, f < 7 → pc (goC b p w k) p f = if p = p ∧ f = 3 + w then k else pc b p f := fun f hf => by rw [goC_pc (by omega) h1 h4 (by omega) hf, if_neg (by omega)]
  rw [e 0 (by omega), e 1 (by omega), e 2 (by omega), e 3 (by omega), e 4 (by omega), e 5 (by omega), e 6 (by omega)]
  have hw : w = 0 ∨ w = 1 := by omega
  rcases hw with rfl | rfl
  · exact ⟨if_neg (by omega), if_neg (by omega), if_neg (by omega), if_neg (by omega), if_neg (by omega), Or.inl ⟨rfl, if_pos ⟨rfl, rfl⟩, if_neg (by omega)⟩⟩
  · exact ⟨if_neg (by omega), if_neg (by omega), if_neg (by omega), if_neg (by omega), if_neg (by omega), Or.inr ⟨rfl, if_neg (by omega), if_pos ⟨rfl, rfl⟩⟩⟩
theorem goC_oth {p w : Nat} {k : Int} (h : canS b p w k) (hn : 0 ≤ b 168) {q : Nat} (hq : (q : Int) < b 168) (hqp : q ≠ p) {f : Nat} (hf : f < 7) : pc (goC b p w k) q f = pc b q f := by
  obtain ⟨h1, h2, h3, h4, h5, h6⟩ := h
  rw [goC_pc (by omega) h1 h4 (by omega) hf, if_neg (by omega), if_neg (by omega)]
theorem VB_goC (hV : VB c b) {p w : Nat} {k : Int} (h : canS b p w k) : VB c (goC b p w k) := by
  have hn := hV.1
  obtain ⟨e1, e2, e3⟩ := goC_168 (k := k) ⟨hn.1, h.2.2.1⟩ h.1 h.2.2.2.1
  have hvp := hV.2.2.1 p h.1
  have hk := h
  obtain ⟨h1, h2, h3, h4, h5, h6⟩ := hk
  have o := goC_old h hn.1
  have hw : (w = 0 ∧ pc b p (3 + w) = pc b p 3) ∨ (w = 1 ∧ pc b p (3 + w) = pc b p 4) := by
    have hw : w = 0 ∨ w = 1 := by omega
    rcases hw with rfl | rfl
    · exact Or.inl ⟨rfl, rfl⟩
    · exact Or.inr ⟨rfl, rfl⟩
  refine ⟨by rw [e1]; omega, by rw [e3]; exact hV.2.1, fun q hq => ?_, fun q r hq hr hqr he => ?_, fun q r hq hr hqr he => ?_⟩
  · rw [e1] at hq
    unfold VP at hvp ⊢
    by_cases hqn : (q : Int) = b 168
    · have nw := goC_new h hn.1 hqn
      rw [nw.1, nw.2.1, nw.2.2.1]
      omega
    · by_cases hqp : q = p
      · subst hqp
        rw [o.1, o.2.1, o.2.2.1, o.2.2.2.1, o.2.2.2.2.1]
        omega
      · have ot : ∀ f, f < 7 → pc (goC b p w k) q f = pc b q f := fun f hf => goC_oth h hn.1 (by omega) hqp hf
        rw [ot 0 (by omega), ot 1 (by omega), ot 2 (by omega), ot 3 (by omega), ot 4 (by omega), ot 5 (by omega), ot 6 (by omega)]
        exact hV.2.2.1 q (by omega)
  · rw [e1] at hq hr
    have pl : ∀ q : Nat, (q : Int) < b 168 + 1 → (pc (goC b p w k) q 6 = -1) ∨ ((q : Int) < b 168 ∧ pc (goC b p w k) q 6 = pc b q 6) := by
      intro q hq
      by_cases hqn : (q : Int) = b 168
      · exact Or.inl ((goC_new h hn.1 hqn).2.2.1.trans h2)
      · by_cases hqp : q = p
        · subst hqp; exact Or.inl (o.2.2.1.trans h2)
        · exact Or.inr ⟨by omega, goC_oth h hn.1 (by omega) hqp (by omega)⟩
    rcases pl q hq with g | ⟨g1, g2⟩
    · exact g
    · rcases pl r hr with g' | ⟨g1', g2'⟩
      · rw [he]; exact g'
      · rw [g2]
        exact hV.2.2.2.1 q r g1 g1' hqr (by rw [← g2, ← g2', he])
  · rw [e1] at hq hr
    have key : ∀ q : Nat, (q : Int) < b 168 → q ≠ p → pc b q 0 = pc b p 0 → apart (pc b p) (pc b q) ∧ apart (pc b q) (pc b p) := fun q hq hqp h0 => ⟨hV.2.2.2.2 p q h1 hq (fun e => hqp e.symm) h0.symm, hV.2.2.2.2 q p hq h1 hqp h0⟩
    unfold apart at key ⊢
    by_cases hqn : (q : Int) = b 168
    · have nw := goC_new h hn.1 hqn
      rw [nw.1] at he
      by_cases hrp : r = p
      · subst hrp
        omega
      · have ot : ∀ f, f < 7 → pc (goC b p w k) r f = pc b r f := fun f hf => goC_oth h hn.1 (by omega) hrp hf
        rw [ot 0 (by omega)] at he
        rw [ot 1 (by omega), ot 2 (by omega), ot 3 (by omega), ot 4 (by omega)]
        have kk := (key r (by omega) hrp he.symm).1
        unfold VP at hvp
        omega
    · by_cases hrn : (r : Int) = b 168
      · have nw := goC_new h hn.1 hrn
        rw [nw.1] at he
        by_cases hqp : q = p
        · subst hqp
          omega
        · have ot : ∀ f, f < 7 → pc (goC b p w k) q f = pc b q f := fun f hf => goC_oth h hn.1 (by omega) hqp hf
          rw [ot 0 (by omega)] at he
          rw [ot 1 (by omega), ot 2 (by omega), ot 3 (by omega), ot 4 (by omega)]
          have kk := (key q (by omega) hqp he).2
          unfold VP at hvp
          omega
      · by_cases hqp : q = p
        · have hrp : r ≠ p := by omega
          have ot : ∀ f, f < 7 → pc (goC b p w k) r f = pc b r f := fun f hf => goC_oth h hn.1 (by omega) hrp hf
          subst hqp
          rw [ot 0 (by omega), o.1] at he
          rw [ot 1 (by omega), ot 2 (by omega), ot 3 (by omega), ot 4 (by omega)]
          have kk := (key r (by omega) hrp he.symm).1
          unfold VP at hvp
          omega
        · have ot : ∀ f, f < 7 → pc (goC b p w k) q f = pc b q f := fun f hf => goC_oth h hn.1 (by omega) hqp hf
          by_cases hrp : r = p
          · subst hrp
            rw [ot 0 (by omega), o.1] at he
            rw [ot 1 (by omega), ot 2 (by omega), ot 3 (by omega), ot 4 (by omega)]
            have kk := (key q (by omega) hqp he).2
            unfold VP at hvp
            omega
          · have ot' : ∀ f, f < 7 → pc (goC b p w k) r f = pc b r f := fun f hf => goC_oth h hn.1 (by omega) hrp hf
            rw [ot 0 (by omega), ot' 0 (by omega)] at he
            rw [ot 1 (by omega), ot 2 (by omega), ot 3 (by omega), ot 4 (by omega), ot' 1 (by omega), ot' 2 (by omega), ot' 3 (by omega), ot' 4 (by omega)]
            exact hV.2.2.2.2 q r (by omega) (by omega) hqr he
end
