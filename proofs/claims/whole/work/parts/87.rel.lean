/-! boards that come of acts -/
def up (b : BD) (i : Nat) (x : Int) : BD := fun j => if j = i then x else b j
def bPut (b : BD) (p : Nat) (g : Int) : BD := up b (7 * p + 6) g
/-- a piece cut: w 0 by columns, 1 by rows -/
def goC (b : BD) (p w : Nat) (k : Int) : BD := fun j =>
  if j = 168 then b 168 + 1 else if j = 7 * (b 168).toNat + (1 + w) then b (7 * p + (1 + w)) + k else if j = 7 * (b 168).toNat + (3 + w) then b (7 * p + (3 + w)) - k
  else if j = 7 * p + (3 + w) then k else if 7 * (b 168).toNat ≤ j ∧ j < 7 * (b 168).toNat + 7 then b (7 * p + (j - 7 * (b 168).toNat)) else b j
def sd (b : BD) : Int := (b 170 * 137 + 71) % 1000
def slp (c : RC) (F1 : FO) (b : BD) (p w : Nat) : Int32 := so c F1 (pc b p) (pc b p (4 - w)) (b 169)
def bCut (c : RC) (F1 : FO) (b : BD) (p w : Nat) (k : Int) : BD := fun j =>
  if j = 170 then sd b else if j = 169 then b 169 + c 6 2 else if j = 7 * (b 168).toNat + 5 ∧ sd b % 100 < (slp c F1 b p w).toInt then 1 else goC b p w k j
def canS (b : BD) (p w : Nat) (k : Int) : Prop := (p : Int) < b 168 ∧ pc b p 6 = -1 ∧ b 168 < 24 ∧ w < 2 ∧ 1 ≤ k ∧ k < pc b p (3 + w)
/-- an act, as x keeps it: kind, three numbers, draw and minute ahead of it -/
def ACT (c : RC) (F1 : FO) (e : Nat → Int32) (b b' : BD) : Prop :=
  (∃ (p w : Nat) (k : Int), e 0 = 0 ∧ e 1 = iI p ∧ e 2 = iI w ∧ e 3 = iI k ∧ e 4 = iI (b 170) ∧ e 5 = iI (b 169) ∧ canS b p w k ∧ b' = bCut c F1 b p w k)
  ∨ (∃ p g : Nat, e 0 = 1 ∧ e 1 = iI p ∧ e 2 = iI g ∧ (p : Int) < b 168 ∧ (g : Int) < c 6 1 ∧ pc b p 6 = -1 ∧ hp b g = -1 ∧ b' = bPut b p g)
  ∨ (∃ p g : Nat, e 0 = 2 ∧ e 1 = iI p ∧ e 2 = iI g ∧ (p : Int) < b 168 ∧ (g : Int) < c 6 1 ∧ hp b g = p ∧ b' = bPut b p (-1))
  ∨ (∃ g o p q : Nat, e 0 = 3 ∧ e 1 = iI g ∧ e 2 = iI o ∧ (g : Int) < c 6 1 ∧ (o : Int) < c 6 1 ∧ g ≠ o ∧ (p : Int) < b 168 ∧ (q : Int) < b 168 ∧ hp b g = p ∧ hp b o = q ∧ b' = bPut (bPut b q g) p o)
/-! the relation, in parts -/
def RT (z : St) : Prop := ∃ n : Nat, n ≤ 1600 ∧ z.1 0 1 = iI n ∧ z.1 172 1 = iI n ∧ ∀ i, i < n → z.1 1 i &&& 255 = z.1 173 i ∧ 0 ≤ (z.1 173 i).toInt ∧ (z.1 173 i).toInt ≤ 255
def RFt (z : St) : Prop := z.1 32 11 = z.1 172 2 ∧ z.1 32 12 = z.1 172 3
def KW : List Int64 := [664754, 89, 271592, 8033908, 24165011, 20681908, 3650739, 24627848, 635184, 525413, 149559, 498, 1476, 14836, 51361, 9545159, 86486190, 409031, 446125701]
def RK (z : St) : Prop := ∀ j, j < 19 → z.2 33 j = KW.getD j 0
def RY (z : St) : Prop := ∃ n : Nat, n ≤ 6 ∧ z.1 0 14 = iI n ∧ z.1 172 65 = iI n ∧ ∀ i, i < n → z.1 171 i = z.1 205 i
def RG (z : St) (c : RC) (F0 F1 : FO) : Prop := VC c ∧ XR z c ∧ MR z c ∧ XFo 11 0 z F0 ∧ XFo 14 1 z F1 ∧ MFo 0 z F0 ∧ MFo 1 z F1 ∧ VF F0 ∧ VF F1 ∧ z.1 11 3 + z.1 14 3 = z.1 172 23 ∧ z.1 172 57 = 0
def RB (z : St) (c : RC) (b : BD) : Prop := VB c b ∧ XB 34 z b ∧ MB 197 0 z b
def RX (z : St) (c : RC) : Prop := ∀ i, i < 3 → (z.1 (62 + 27 * i) 5 = 0 ∧ z.1 211 i = 0) ∨ (z.1 (62 + 27 * i) 5 = 1 ∧ z.1 211 i = 1 ∧ ∃ b, VB c b ∧ XB (62 + 27 * i) z b ∧ MB 212 (171 * i) z b)
def RLo (z : St) : Prop := ∃ (n : Nat) (t : Int), n ≤ 30 ∧ 0 ≤ t ∧ t ≤ 100000 ∧ z.1 162 11 = iI n ∧ z.1 172 71 = iI n ∧ z.1 162 12 = iI t ∧ z.1 172 72 = iI t ∧ ∀ i, i < n →
  ∃ kd nu so ta ua : Int, z.1 163 i = iI kd ∧ z.1 206 i = iI kd ∧ z.1 164 i = iI nu ∧ z.1 207 i = iI nu ∧ z.1 165 i = iI so ∧ z.1 210 i = iI so ∧ z.1 166 i = iI ta ∧ z.1 208 i = iI ta ∧ z.1 167 i = iI ua ∧ z.1 209 i = iI ua
    ∧ ((kd = 0 ∧ 1 ≤ nu ∧ nu ≤ 64) ∨ (kd = 1 ∧ 0 ≤ nu ∧ nu ≤ 32)) ∧ (so = 0 ∨ so = 1) ∧ 0 ≤ ta ∧ ta ≤ 100000 ∧ -1 ≤ ua ∧ ua ≤ 100000
def ent (z : St) (k : Nat) : Nat → Int32 := fun f => z.1 (147 + f) k
def RA (z : St) (c : RC) (F1 : FO) (b : BD) : Prop := ∃ (h : Nat → BD) (d n : Nat), d ≤ n ∧ n ≤ 40 ∧ z.1 146 9 = iI d ∧ z.1 146 10 = iI n ∧ z.1 172 51 = iI d ∧ z.1 172 52 = iI ((n - d : Nat) : Int) ∧ h d = b
  ∧ (∀ k, k ≤ n → VB c (h k)) ∧ (∀ k, k < n → ACT c F1 (ent z k) (h k) (h (k + 1))) ∧ (∀ k, k < d → MB 199 (171 * k) z (h k)) ∧ (∀ k, d ≤ k → k < n → MB 199 (171 * k) z (h (k + 1)))
def RD (z : St) (c : RC) (F0 F1 : FO) (b : BD) : Prop := RT z ∧ RFt z ∧ RK z ∧ RY z ∧ RG z c F0 F1 ∧ RB z c b ∧ RX z c ∧ RLo z ∧ RA z c F1 b
/-- the slots that the relation speaks of -/
def PS (a k : Nat) : Prop := (a < 143 ∧ a ≠ 13 ∧ a ≠ 16) ∨ (a = 146 ∧ (k = 9 ∨ k = 10)) ∨ (147 ≤ a ∧ a ≤ 152) ∨ (a = 162 ∧ (k = 11 ∨ k = 12)) ∨ (163 ≤ a ∧ a ≤ 167) ∨ a = 171 ∨ (a = 172 ∧ (k < 55 ∨ k = 57 ∨ 60 < k)) ∨ (173 ≤ a ∧ a ≠ 182 ∧ a ≠ 184 ∧ a ≠ 198 ∧ ¬ (200 ≤ a ∧ a ≤ 204))
def PT (a k : Nat) : Prop := (a = 0 ∧ k = 1) ∨ a = 1 ∨ (a = 172 ∧ k = 1) ∨ a = 173
def PFt (a k : Nat) : Prop := (a = 32 ∧ (k = 11 ∨ k = 12)) ∨ (a = 172 ∧ (k = 2 ∨ k = 3))
def PK (a _k : Nat) : Prop := a = 33
def PY (a k : Nat) : Prop := (a = 0 ∧ k = 14) ∨ a = 171 ∨ (a = 172 ∧ k = 65) ∨ a = 205
def PG (a k : Nat) : Prop := QX a k ∨ a = 11 ∨ a = 12 ∨ a = 14 ∨ a = 15 ∨ QR a k ∨ (178 ≤ a ∧ a ≤ 180) ∨ (a = 172 ∧ (k = 23 ∨ k = 57))
def PB (a k : Nat) : Prop := (a = 34 ∧ 2 ≤ k ∧ k ≤ 4) ∨ (36 ≤ a ∧ a ≤ 60) ∨ a = 197
def PX (a _k : Nat) : Prop := (62 ≤ a ∧ a ≤ 142) ∨ a = 211 ∨ a = 212
def PL (a k : Nat) : Prop := (a = 162 ∧ (k = 11 ∨ k = 12)) ∨ (163 ≤ a ∧ a ≤ 167) ∨ (a = 172 ∧ (k = 71 ∨ k = 72)) ∨ (206 ≤ a ∧ a ≤ 210)
def PA (a k : Nat) : Prop := (a = 146 ∧ (k = 9 ∨ k = 10)) ∨ (147 ≤ a ∧ a ≤ 152) ∨ (a = 172 ∧ (k = 51 ∨ k = 52)) ∨ a = 199
section
variable {z w : St} {c : RC} {F0 F1 : FO} {b : BD}
theorem RT.fr (h : RT z) (hs : ∀ a k, PT a k → SA z w a k) : RT w := by
  obtain ⟨n, h1, h2, h3, h4⟩ := h
  refine ⟨n, h1, (hs 0 1 (by unfold PT; omega)).1.trans h2, (hs 172 1 (by unfold PT; omega)).1.trans h3, fun i hi => ?_⟩
  rw [(hs 1 i (by unfold PT; omega)).1, (hs 173 i (by unfold PT; omega)).1]
  exact h4 i hi
theorem RFt.fr (h : RFt z) (hs : ∀ a k, PFt a k → SA z w a k) : RFt w := by
  unfold RFt
  rw [(hs 32 11 (by unfold PFt; omega)).1, (hs 32 12 (by unfold PFt; omega)).1, (hs 172 2 (by unfold PFt; omega)).1, (hs 172 3 (by unfold PFt; omega)).1]
  exact h
theorem RK.fr (h : RK z) (hs : ∀ a k, PK a k → SA z w a k) : RK w := fun j hj => (hs 33 j (by unfold PK; omega)).2.trans (h j hj)
theorem RY.fr (h : RY z) (hs : ∀ a k, PY a k → SA z w a k) : RY w := by
  obtain ⟨n, h1, h2, h3, h4⟩ := h
  exact ⟨n, h1, (hs 0 14 (by unfold PY; omega)).1.trans h2, (hs 172 65 (by unfold PY; omega)).1.trans h3, fun i hi => (hs 171 i (by unfold PY; omega)).1.trans ((h4 i hi).trans (hs 205 i (by unfold PY; omega)).1.symm)⟩
theorem RG.fr (h : RG z c F0 F1) (hs : ∀ a k, PG a k → SA z w a k) : RG w c F0 F1 := by
  obtain ⟨h0, h1, h2, h3, h4, h5, h6, h7, h8, h9, h10⟩ := h
  refine ⟨h0, h1.fr fun a k h => hs a k (by exact Or.inl h), h2.fr fun a k h => hs a k (by unfold PG; simp [h]), h3.fr fun a k h => hs a k (by unfold PG; omega), h4.fr fun a k h => hs a k (by unfold PG; omega), h5.fr fun a k h => hs a k (by unfold PG; omega), h6.fr fun a k h => hs a k (by unfold PG; omega), h7, h8, ?_, (hs 172 57 (by unfold PG; omega)).1.trans h10⟩
  rw [(hs 11 3 (by unfold PG; omega)).1, (hs 14 3 (by unfold PG; omega)).1, (hs 172 23 (by unfold PG; omega)).1]
  exact h9
theorem RB.fr (h : RB z c b) (hs : ∀ a k, PB a k → SA z w a k) : RB w c b :=
  ⟨h.1, h.2.1.fr h.1.1.2 fun a k h => hs a k (by unfold PB; omega), h.2.2.fr fun k => hs 197 k (by unfold PB; omega)⟩
theorem RX.fr (h : RX z c) (hs : ∀ a k, PX a k → SA z w a k) : RX w c := by
  intro i hi
  rw [(hs (62 + 27 * i) 5 (by unfold PX; omega)).1, (hs 211 i (by unfold PX; omega)).1]
  rcases h i hi with g | ⟨g1, g2, bb, g3, g4, g5⟩
  · exact Or.inl g
  · exact Or.inr ⟨g1, g2, bb, g3, g4.fr g3.1.2 fun a k h => hs a k (by unfold PX; omega), g5.fr fun k => hs 212 k (by unfold PX; omega)⟩
theorem RLo.fr (h : RLo z) (hs : ∀ a k, PL a k → SA z w a k) : RLo w := by
  obtain ⟨n, t, h1, h2, h3, h4, h5, h6, h7, h8⟩ := h
  refine ⟨n, t, h1, h2, h3, (hs 162 11 (by unfold PL; omega)).1.trans h4, (hs 172 71 (by unfold PL; omega)).1.trans h5, (hs 162 12 (by unfold PL; omega)).1.trans h6, (hs 172 72 (by unfold PL; omega)).1.trans h7, fun i hi => ?_⟩
  rw [(hs 163 i (by unfold PL; omega)).1, (hs 206 i (by unfold PL; omega)).1, (hs 164 i (by unfold PL; omega)).1, (hs 207 i (by unfold PL; omega)).1, (hs 165 i (by unfold PL; omega)).1, (hs 210 i (by unfold PL; omega)).1, (hs 166 i (by unfold PL; omega)).1, (hs 208 i (by unfold PL; omega)).1, (hs 167 i (by unfold PL; omega)).1, (hs 209 i (by unfold PL; omega)).1]
  exact h8 i hi
theorem ACT.ex {e e' : Nat → Int32} {b b' : BD} (h : ACT c F1 e b b') (he : ∀ f, f < 6 → e' f = e f) : ACT c F1 e' b b' := by
  unfold ACT
  rw [he 0 (by omega), he 1 (by omega), he 2 (by omega), he 3 (by omega), he 4 (by omega), he 5 (by omega)]
  exact h
theorem RA.fr (h : RA z c F1 b) (hs : ∀ a k, PA a k → SA z w a k) : RA w c F1 b := by
  obtain ⟨h, d, n, h1, h2, h3, h4, h5, h6, h7, h8, h9, h10, h11⟩ := h
  exact ⟨h, d, n, h1, h2, (hs 146 9 (by unfold PA; omega)).1.trans h3, (hs 146 10 (by unfold PA; omega)).1.trans h4, (hs 172 51 (by unfold PA; omega)).1.trans h5, (hs 172 52 (by unfold PA; omega)).1.trans h6, h7, h8, fun k hk => (h9 k hk).ex fun f hf => (hs (147 + f) k (by unfold PA; omega)).1, fun k hk => (h10 k hk).fr fun j => hs 199 j (by unfold PA; omega), fun k hk hk' => (h11 k hk hk').fr fun j => hs 199 j (by unfold PA; omega)⟩
theorem RD.fr (h : RD z c F0 F1 b) (hs : ∀ a k, PS a k → SA z w a k) : RD w c F0 F1 b :=
  ⟨h.1.fr fun a k g => hs a k (by unfold PT at g; unfold PS; omega), h.2.1.fr fun a k g => hs a k (by unfold PFt at g; unfold PS; omega), h.2.2.1.fr fun a k g => hs a k (by unfold PK at g; unfold PS; omega), h.2.2.2.1.fr fun a k g => hs a k (by unfold PY at g; unfold PS; omega), h.2.2.2.2.1.fr fun a k g => hs a k (by unfold PG QX QR at g; unfold PS; omega), h.2.2.2.2.2.1.fr fun a k g => hs a k (by unfold PB at g; unfold PS; omega), h.2.2.2.2.2.2.1.fr fun a k g => hs a k (by unfold PX at g; unfold PS; omega), h.2.2.2.2.2.2.2.1.fr fun a k g => hs a k (by unfold PL at g; unfold PS; omega), h.2.2.2.2.2.2.2.2.fr fun a k g => hs a k (by unfold PA at g; unfold PS; omega)⟩
end
/-- what a call owes -/
def Same {α : Type} (fx fm : St → Option (α × St)) (z : St) : Prop := ∃ r z1 z2, fx z = some (r, z1) ∧ fm z1 = some (r, z2) ∧ ∃ c F0 F1 b, RD z2 c F0 F1 b
theorem qry {α : Type} {fx fm : St → Option (α × St)} {z : St} {c : RC} {F0 F1 : FO} {b : BD} (r : α) (hD : RD z c F0 F1 b) (hx : ∀ z, RD z c F0 F1 b → ∃ w, fx z = some (r, w)) (kx : ∀ z w, fx z = some (r, w) → ∀ a k, PS a k → SA z w a k) (hm : ∀ z, RD z c F0 F1 b → ∃ w, fm z = some (r, w)) (km : ∀ z w, fm z = some (r, w) → ∀ a k, PS a k → SA z w a k) : Same fx fm z := by
  obtain ⟨z1, e1⟩ := hx z hD
  have h1 := hD.fr (kx z z1 e1)
  obtain ⟨z2, e2⟩ := hm z1 h1
  exact ⟨r, z1, z2, e1, e2, c, F0, F1, b, h1.fr (km z1 z2 e2)⟩
