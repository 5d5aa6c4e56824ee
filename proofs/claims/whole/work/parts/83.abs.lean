theorem q_0 : (0 : Int32) = iI 0 := by decide
theorem q_1 : (1 : Int32) = iI 1 := by decide
theorem q_2 : (2 : Int32) = iI 2 := by decide
theorem q_3 : (3 : Int32) = iI 3 := by decide
theorem q_4 : (4 : Int32) = iI 4 := by decide
theorem q_5 : (5 : Int32) = iI 5 := by decide
theorem q_6 : (6 : Int32) = iI 6 := by decide
theorem q_7 : (7 : Int32) = iI 7 := by decide
theorem q_8 : (8 : Int32) = iI 8 := by decide
theorem q_9 : (9 : Int32) = iI 9 := by decide
theorem q_10 : (10 : Int32) = iI 10 := by decide
theorem q_11 : (11 : Int32) = iI 11 := by decide
theorem q_12 : (12 : Int32) = iI 12 := by decide
theorem q_13 : (13 : Int32) = iI 13 := by decide
theorem q_14 : (14 : Int32) = iI 14 := by decide
theorem q_15 : (15 : Int32) = iI 15 := by decide
theorem q_16 : (16 : Int32) = iI 16 := by decide
theorem q_17 : (17 : Int32) = iI 17 := by decide
theorem q_18 : (18 : Int32) = iI 18 := by decide
theorem q_19 : (19 : Int32) = iI 19 := by decide
theorem q_20 : (20 : Int32) = iI 20 := by decide
theorem q_21 : (21 : Int32) = iI 21 := by decide
theorem q_22 : (22 : Int32) = iI 22 := by decide
theorem q_23 : (23 : Int32) = iI 23 := by decide
theorem q_24 : (24 : Int32) = iI 24 := by decide
theorem q_25 : (25 : Int32) = iI 25 := by decide
theorem q_26 : (26 : Int32) = iI 26 := by decide
theorem q_27 : (27 : Int32) = iI 27 := by decide
theorem q_28 : (28 : Int32) = iI 28 := by decide
theorem q_29 : (29 : Int32) = iI 29 := by decide
theorem q_30 : (30 : Int32) = iI 30 := by decide
theorem q_31 : (31 : Int32) = iI 31 := by decide
theorem q_32 : (32 : Int32) = iI 32 := by decide
theorem q_33 : (33 : Int32) = iI 33 := by decide
theorem q_34 : (34 : Int32) = iI 34 := by decide
theorem q_35 : (35 : Int32) = iI 35 := by decide
theorem q_36 : (36 : Int32) = iI 36 := by decide
theorem q_37 : (37 : Int32) = iI 37 := by decide
theorem q_38 : (38 : Int32) = iI 38 := by decide
theorem q_39 : (39 : Int32) = iI 39 := by decide
theorem q_40 : (40 : Int32) = iI 40 := by decide
theorem q_41 : (41 : Int32) = iI 41 := by decide
theorem q_42 : (42 : Int32) = iI 42 := by decide
theorem q_43 : (43 : Int32) = iI 43 := by decide
theorem q_44 : (44 : Int32) = iI 44 := by decide
theorem q_45 : (45 : Int32) = iI 45 := by decide
theorem q_46 : (46 : Int32) = iI 46 := by decide
theorem q_47 : (47 : Int32) = iI 47 := by decide
theorem q_48 : (48 : Int32) = iI 48 := by decide
theorem q_49 : (49 : Int32) = iI 49 := by decide
theorem q_50 : (50 : Int32) = iI 50 := by decide
theorem q_51 : (51 : Int32) = iI 51 := by decide
theorem q_52 : (52 : Int32) = iI 52 := by decide
theorem q_53 : (53 : Int32) = iI 53 := by decide
theorem q_54 : (54 : Int32) = iI 54 := by decide
theorem q_55 : (55 : Int32) = iI 55 := by decide
theorem q_56 : (56 : Int32) = iI 56 := by decide
theorem q_57 : (57 : Int32) = iI 57 := by decide
theorem q_58 : (58 : Int32) = iI 58 := by decide
theorem q_59 : (59 : Int32) = iI 59 := by decide
theorem q_60 : (60 : Int32) = iI 60 := by decide
theorem q_61 : (61 : Int32) = iI 61 := by decide
theorem q_62 : (62 : Int32) = iI 62 := by decide
theorem q_63 : (63 : Int32) = iI 63 := by decide
theorem q_64 : (64 : Int32) = iI 64 := by decide
theorem q_65 : (65 : Int32) = iI 65 := by decide
theorem q_71 : (71 : Int32) = iI 71 := by decide
theorem q_97 : (97 : Int32) = iI 97 := by decide
theorem q_99 : (99 : Int32) = iI 99 := by decide
theorem q_100 : (100 : Int32) = iI 100 := by decide
theorem q_122 : (122 : Int32) = iI 122 := by decide
theorem q_124 : (124 : Int32) = iI 124 := by decide
theorem q_137 : (137 : Int32) = iI 137 := by decide
theorem q_255 : (255 : Int32) = iI 255 := by decide
theorem q_272 : (272 : Int32) = iI 272 := by decide
theorem q_320 : (320 : Int32) = iI 320 := by decide
theorem q_640 : (640 : Int32) = iI 640 := by decide
theorem q_999 : (999 : Int32) = iI 999 := by decide
theorem q_1000 : (1000 : Int32) = iI 1000 := by decide
theorem q_1600 : (1600 : Int32) = iI 1600 := by decide
theorem q_1580 : (1580 : Int32) = iI 1580 := by decide
theorem q_100000 : (100000 : Int32) = iI 100000 := by decide
theorem q_168 : (168 : Int32) = iI 168 := by decide
theorem q_169 : (169 : Int32) = iI 169 := by decide
theorem q_170 : (170 : Int32) = iI 170 := by decide
theorem q_171 : (171 : Int32) = iI 171 := by decide
theorem q_513 : (513 : Int32) = iI 513 := by decide
theorem q_6669 : (6669 : Int32) = iI 6669 := by decide
theorem q_6840 : (6840 : Int32) = iI 6840 := by decide
theorem q_m1 : (-1 : Int32) = iI (-1) := by decide
theorem q_m2 : (-2 : Int32) = iI (-2) := by decide
theorem q_m8 : (-8 : Int32) = iI (-8) := by decide
theorem q_gap : (-1000000000 : Int32) = iI (-1000000000) := by decide
theorem x7_0 {p : Nat} (h : p < 24) : ix ((7 : Int32) * iI (p : Int)) 171 = true := by
  simp only [q_7, iI_mul]
  exact iI_ix (by omega)
theorem c7_0 {p : Nat} (h : p < 24) : Int32.toNatClampNeg ((7 : Int32) * iI (p : Int)) = 7 * p := by
  simp only [q_7, iI_mul]
  rw [iI_clamp (by omega)]; omega
theorem x7_1 {p : Nat} (h : p < 24) : ix ((7 : Int32) * iI (p : Int) + 1) 171 = true := by
  simp only [q_7, iI_mul, q_1, iI_add]
  exact iI_ix (by omega)
theorem c7_1 {p : Nat} (h : p < 24) : Int32.toNatClampNeg ((7 : Int32) * iI (p : Int) + 1) = 7 * p + 1 := by
  simp only [q_7, iI_mul, q_1, iI_add]
  rw [iI_clamp (by omega)]; omega
theorem x7_2 {p : Nat} (h : p < 24) : ix ((7 : Int32) * iI (p : Int) + 2) 171 = true := by
  simp only [q_7, iI_mul, q_2, iI_add]
  exact iI_ix (by omega)
theorem c7_2 {p : Nat} (h : p < 24) : Int32.toNatClampNeg ((7 : Int32) * iI (p : Int) + 2) = 7 * p + 2 := by
  simp only [q_7, iI_mul, q_2, iI_add]
  rw [iI_clamp (by omega)]; omega
theorem x7_3 {p : Nat} (h : p < 24) : ix ((7 : Int32) * iI (p : Int) + 3) 171 = true := by
  simp only [q_7, iI_mul, q_3, iI_add]
  exact iI_ix (by omega)
theorem c7_3 {p : Nat} (h : p < 24) : Int32.toNatClampNeg ((7 : Int32) * iI (p : Int) + 3) = 7 * p + 3 := by
  simp only [q_7, iI_mul, q_3, iI_add]
  rw [iI_clamp (by omega)]; omega
theorem x7_4 {p : Nat} (h : p < 24) : ix ((7 : Int32) * iI (p : Int) + 4) 171 = true := by
  simp only [q_7, iI_mul, q_4, iI_add]
  exact iI_ix (by omega)
theorem c7_4 {p : Nat} (h : p < 24) : Int32.toNatClampNeg ((7 : Int32) * iI (p : Int) + 4) = 7 * p + 4 := by
  simp only [q_7, iI_mul, q_4, iI_add]
  rw [iI_clamp (by omega)]; omega
theorem x7_5 {p : Nat} (h : p < 24) : ix ((7 : Int32) * iI (p : Int) + 5) 171 = true := by
  simp only [q_7, iI_mul, q_5, iI_add]
  exact iI_ix (by omega)
theorem c7_5 {p : Nat} (h : p < 24) : Int32.toNatClampNeg ((7 : Int32) * iI (p : Int) + 5) = 7 * p + 5 := by
  simp only [q_7, iI_mul, q_5, iI_add]
  rw [iI_clamp (by omega)]; omega
theorem x7_6 {p : Nat} (h : p < 24) : ix ((7 : Int32) * iI (p : Int) + 6) 171 = true := by
  simp only [q_7, iI_mul, q_6, iI_add]
  exact iI_ix (by omega)
theorem c7_6 {p : Nat} (h : p < 24) : Int32.toNatClampNeg ((7 : Int32) * iI (p : Int) + 6) = 7 * p + 6 := by
  simp only [q_7, iI_mul, q_6, iI_add]
  rw [iI_clamp (by omega)]; omega
theorem c_168 : Int32.toNatClampNeg 168 = 168 := by decide
theorem c_169 : Int32.toNatClampNeg 169 = 169 := by decide
theorem c_170 : Int32.toNatClampNeg 170 = 170 := by decide
theorem c_0 : Int32.toNatClampNeg 0 = 0 := by decide
theorem c_1 : Int32.toNatClampNeg 1 = 1 := by decide
theorem c_2 : Int32.toNatClampNeg 2 = 2 := by decide
theorem c_3 : Int32.toNatClampNeg 3 = 3 := by decide
theorem c_4 : Int32.toNatClampNeg 4 = 4 := by decide
theorem c_5 : Int32.toNatClampNeg 5 = 5 := by decide
theorem c_6 : Int32.toNatClampNeg 6 = 6 := by decide
/-! the cake, and a table of pieces -/
/-- recipe: rows 0 columns, 1 rows, 2 high of tiers; 3 wants, 4 sweet, 5 comes of guests; 6: how many tiers, guests; pace -/
abbrev RC : Type := Nat → Nat → Int
/-- pieces: seven numbers each, then how many, the minute, the draw -/
abbrev BD : Type := Nat → Int
def VC (c : RC) : Prop := (0 ≤ c 6 0 ∧ c 6 0 ≤ 3) ∧ (0 ≤ c 6 1 ∧ c 6 1 ≤ 6) ∧ (0 ≤ c 6 2 ∧ c 6 2 ≤ 60) ∧ (∀ t : Nat, (t : Int) < c 6 0 → 1 ≤ c 0 t ∧ c 0 t ≤ 8 ∧ 1 ≤ c 1 t ∧ c 1 t ≤ 8 ∧ 1 ≤ c 2 t ∧ c 2 t ≤ 9) ∧ (∀ g : Nat, (g : Int) < c 6 1 → 0 ≤ c 3 g ∧ c 3 g ≤ 999 ∧ 0 ≤ c 4 g ∧ c 4 g ≤ 9 ∧ 0 ≤ c 5 g ∧ c 5 g ≤ 100)
/-- the seven numbers of a piece -/
def pc (b : BD) (p : Nat) : Nat → Int := fun f => b (7 * p + f)
def pof (b : BD) (g : Int) : Nat → Int
  | 0 => -1
  | k + 1 => if pc b k 6 = g then k else pof b g k
/-- the piece of a guest -/
def hp (b : BD) (g : Int) : Int := pof b g (b 168).toNat
/-- one piece is right: tier, column, row, wide, tall, broken, plate -/
def VP (c : RC) (v : Nat → Int) : Prop := (0 ≤ v 0 ∧ v 0 < c 6 0) ∧ (0 ≤ v 1 ∧ 1 ≤ v 3 ∧ v 1 + v 3 ≤ c 0 (v 0).toNat) ∧ (0 ≤ v 2 ∧ 1 ≤ v 4 ∧ v 2 + v 4 ≤ c 1 (v 0).toNat) ∧ (0 ≤ v 5 ∧ v 5 ≤ 1) ∧ (-1 ≤ v 6 ∧ v 6 < c 6 1)
def apart (v w : Nat → Int) : Prop := v 1 + v 3 ≤ w 1 ∨ w 1 + w 3 ≤ v 1 ∨ v 2 + v 4 ≤ w 2 ∨ w 2 + w 4 ≤ v 2
def VB (c : RC) (b : BD) : Prop := (0 ≤ b 168 ∧ b 168 ≤ 24) ∧ (0 ≤ b 170 ∧ b 170 < 1000) ∧ (∀ p : Nat, (p : Int) < b 168 → VP c (pc b p))
  ∧ (∀ p q : Nat, (p : Int) < b 168 → (q : Int) < b 168 → p ≠ q → pc b p 6 = pc b q 6 → pc b p 6 = -1)
  ∧ (∀ p q : Nat, (p : Int) < b 168 → (q : Int) < b 168 → p ≠ q → pc b p 0 = pc b q 0 → apart (pc b p) (pc b q))
/-- x's recipe -/
def XR (z : St) (c : RC) : Prop := z.1 2 0 = iI (c 6 0) ∧ z.1 2 5 = iI (c 6 1) ∧ z.1 2 12 = iI (c 6 2) ∧ (∀ t : Nat, (t : Int) < c 6 0 → z.1 4 t = iI (c 0 t) ∧ z.1 5 t = iI (c 1 t) ∧ z.1 6 t = iI (c 2 t)) ∧ (∀ g : Nat, (g : Int) < c 6 1 → z.1 8 g = iI (c 3 g) ∧ z.1 9 g = iI (c 4 g) ∧ z.1 10 g = iI (c 5 g))
/-- the reference's recipe -/
def MR (z : St) (c : RC) : Prop := z.1 172 43 = iI (c 6 0) ∧ z.1 172 44 = iI (c 6 1) ∧ z.1 172 45 = iI (c 6 2) ∧ (∀ t : Nat, (t : Int) < c 6 0 → z.1 188 t = iI (c 0 t) ∧ z.1 189 t = iI (c 1 t) ∧ z.1 190 t = iI (c 2 t)) ∧ (∀ g : Nat, (g : Int) < c 6 1 → z.1 194 g = iI (c 3 g) ∧ z.1 195 g = iI (c 4 g) ∧ z.1 196 g = iI (c 5 g))
/-- a Slab of x at s -/
def XS (s : Nat) (z : St) (v : Nat → Int) : Prop := ∀ f, f < 7 → z.1 s f = iI (v f)
/-- a Board of x at q -/
def XB (q : Nat) (z : St) (b : BD) : Prop := z.1 q 2 = iI (b 168) ∧ z.1 q 3 = iI (b 169) ∧ z.1 q 4 = iI (b 170) ∧ (∀ p : Nat, (p : Int) < b 168 → XS (q + 2 + p) z (pc b p)) ∧ (∀ g : Nat, g < 6 → z.1 (q + 26) g = iI (hp b g))
/-- a row of 171 of the reference, from o on at place a -/
def MB (a o : Nat) (z : St) (b : BD) : Prop := z.1 a (o + 168) = iI (b 168) ∧ z.1 a (o + 169) = iI (b 169) ∧ z.1 a (o + 170) = iI (b 170) ∧ (∀ p : Nat, (p : Int) < b 168 → ∀ f, f < 7 → z.1 a (o + (7 * p + f)) = iI (pc b p f))
theorem VB.n {c : RC} {b : BD} (h : VB c b) {p : Nat} (hp : (p : Int) < b 168) : p < 24 := by have := h.1; omega
theorem VC.t {c : RC} (h : VC c) {t : Nat} (ht : (t : Int) < c 6 0) : t < 3 := by have := h.1; omega
theorem VC.g {c : RC} (h : VC c) {t : Nat} (ht : (t : Int) < c 6 1) : t < 6 := by have := h.2.1; omega
def tr (P : Prop) [Decidable P] : Int := if P then 1 else 0
theorem tr_b (P : Prop) [Decidable P] : tr P = 0 ∨ tr P = 1 := by
  unfold tr
  split
  · exact Or.inr rfl
  · exact Or.inl rfl
theorem tr_0 (P : Prop) [Decidable P] : (iI (tr P) = 0) = ¬ P := by
  unfold tr
  split
  · rename_i h; simp [h]; decide
  · rename_i h; simp [h]; decide
theorem tr_z (P : Prop) [Decidable P] : zok (iI (tr P)) = true := by
  unfold tr
  split <;> decide
def ar (c : RC) (v : Nat → Int) : Int := v 3 * v 4 * c 2 (v 0).toNat
def ic (c : RC) (v : Nat → Int) : Int := v 3 * (tr (v 2 = 0) + tr (v 2 + v 4 = c 1 (v 0).toNat)) + v 4 * (tr (v 1 = 0) + tr (v 1 + v 3 = c 0 (v 0).toNat))
theorem VP.t {c : RC} {v : Nat → Int} (h : VP c v) : (((v 0).toNat : Nat) : Int) = v 0 ∧ (((v 0).toNat : Nat) : Int) < c 6 0 := by
  have := h.1
  omega
/-- numbers of a piece are small -/
theorem VP.s {c : RC} {v : Nat → Int} (h : VP c v) (hC : VC c) : (0 ≤ v 0 ∧ v 0 < 3) ∧ (0 ≤ v 1 ∧ v 1 < 8) ∧ (0 ≤ v 2 ∧ v 2 < 8) ∧ (1 ≤ v 3 ∧ v 3 ≤ 8) ∧ (1 ≤ v 4 ∧ v 4 ≤ 8) ∧ (1 ≤ c 0 (v 0).toNat ∧ c 0 (v 0).toNat ≤ 8) ∧ (1 ≤ c 1 (v 0).toNat ∧ c 1 (v 0).toNat ≤ 8) ∧ (1 ≤ c 2 (v 0).toNat ∧ c 2 (v 0).toNat ≤ 9) ∧ v 1 + v 3 ≤ 8 ∧ v 2 + v 4 ≤ 8 ∧ (-1 ≤ v 6 ∧ v 6 < 6) := by
  have h1 := hC.2.2.2.1 (v 0).toNat h.t.2
  have h2 := hC.1
  have h3 := hC.2.1
  obtain ⟨a1, a2, a3, a4, a5⟩ := h
  omega
theorem ar_b {c : RC} {v : Nat → Int} (hC : VC c) (h : VP c v) : 1 ≤ ar c v ∧ ar c v ≤ 576 := by
  obtain ⟨-, -, -, h3, h4, -, -, h2, -⟩ := h.s hC
  unfold ar
  have e1 : v 3 * v 4 ≤ 8 * 8 := Int.mul_le_mul h3.2 h4.2 (by omega) (by omega)
  have e2 : 1 * 1 ≤ v 3 * v 4 := Int.mul_le_mul h3.1 h4.1 (by omega) (by omega)
  have e3 : v 3 * v 4 * c 2 (v 0).toNat ≤ 64 * 9 := Int.mul_le_mul (by omega) h2.2 (by omega) (by omega)
  have e4 : 1 * 1 ≤ v 3 * v 4 * c 2 (v 0).toNat := Int.mul_le_mul (by omega) h2.1 (by omega) (by omega)
  omega
theorem ic_b {c : RC} {v : Nat → Int} (hC : VC c) (h : VP c v) : 0 ≤ ic c v ∧ ic c v ≤ 32 := by
  obtain ⟨-, -, -, h3, h4, -⟩ := h.s hC
  unfold ic
  rcases tr_b (v 2 = 0) with e1 | e1 <;> rcases tr_b (v 2 + v 4 = c 1 (v 0).toNat) with e2 | e2 <;> rcases tr_b (v 1 = 0) with e3 | e3 <;> rcases tr_b (v 1 + v 3 = c 0 (v 0).toNat) with e4 | e4 <;> rw [e1, e2, e3, e4] <;> omega
/-! what stays -/
def QR (a k : Nat) : Prop := (a = 172 ∧ 43 ≤ k ∧ k ≤ 45) ∨ (188 ≤ a ∧ a ≤ 190) ∨ (194 ≤ a ∧ a ≤ 196)
theorem MR.fr {z w : St} {c : RC} (h : MR z c) (hs : ∀ a k, QR a k → SA z w a k) : MR w c := by
  obtain ⟨h1, h2, h3, h4, h5⟩ := h
  refine ⟨(hs 172 43 (by unfold QR; omega)).1.trans h1, (hs 172 44 (by unfold QR; omega)).1.trans h2, (hs 172 45 (by unfold QR; omega)).1.trans h3, fun t ht => ?_, fun g hg => ?_⟩
  · obtain ⟨e1, e2, e3⟩ := h4 t ht
    exact ⟨(hs 188 t (by unfold QR; omega)).1.trans e1, (hs 189 t (by unfold QR; omega)).1.trans e2, (hs 190 t (by unfold QR; omega)).1.trans e3⟩
  · obtain ⟨e1, e2, e3⟩ := h5 g hg
    exact ⟨(hs 194 g (by unfold QR; omega)).1.trans e1, (hs 195 g (by unfold QR; omega)).1.trans e2, (hs 196 g (by unfold QR; omega)).1.trans e3⟩
def QX (a k : Nat) : Prop := (a = 2 ∧ (k = 0 ∨ k = 5 ∨ k = 12)) ∨ (4 ≤ a ∧ a ≤ 6) ∨ (8 ≤ a ∧ a ≤ 10)
theorem XR.fr {z w : St} {c : RC} (h : XR z c) (hs : ∀ a k, QX a k → SA z w a k) : XR w c := by
  obtain ⟨h1, h2, h3, h4, h5⟩ := h
  refine ⟨(hs 2 0 (by unfold QX; omega)).1.trans h1, (hs 2 5 (by unfold QX; omega)).1.trans h2, (hs 2 12 (by unfold QX; omega)).1.trans h3, fun t ht => ?_, fun g hg => ?_⟩
  · obtain ⟨e1, e2, e3⟩ := h4 t ht
    exact ⟨(hs 4 t (by unfold QX; omega)).1.trans e1, (hs 5 t (by unfold QX; omega)).1.trans e2, (hs 6 t (by unfold QX; omega)).1.trans e3⟩
  · obtain ⟨e1, e2, e3⟩ := h5 g hg
    exact ⟨(hs 8 g (by unfold QX; omega)).1.trans e1, (hs 9 g (by unfold QX; omega)).1.trans e2, (hs 10 g (by unfold QX; omega)).1.trans e3⟩
theorem MB.fr {a o : Nat} {z w : St} {b : BD} (h : MB a o z b) (hs : ∀ k, SA z w a k) : MB a o w b :=
  ⟨(hs _).1.trans h.1, (hs _).1.trans h.2.1, (hs _).1.trans h.2.2.1, fun p hp f hf => (hs _).1.trans (h.2.2.2 p hp f hf)⟩
theorem XS.fr {s : Nat} {z w : St} {v : Nat → Int} (h : XS s z v) (hs : ∀ k, SA z w s k) : XS s w v := fun f hf => (hs _).1.trans (h f hf)
theorem XB.fr {q : Nat} {z w : St} {b : BD} (h : XB q z b) (hn : b 168 ≤ 24) (hs : ∀ a k, (a = q ∧ 2 ≤ k ∧ k ≤ 4) ∨ (q + 2 ≤ a ∧ a ≤ q + 26) → SA z w a k) : XB q w b :=
  ⟨(hs _ _ (by omega)).1.trans h.1, (hs _ _ (by omega)).1.trans h.2.1, (hs _ _ (by omega)).1.trans h.2.2.1, fun p hp f hf => (hs _ _ (by omega)).1.trans (h.2.2.2.1 p hp f hf), fun g hg => (hs _ _ (by omega)).1.trans (h.2.2.2.2 g hg)⟩
