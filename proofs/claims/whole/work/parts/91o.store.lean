/-! the store that the two constructors leave -/
def z00 : SC := (1, ((fun _ _ => 0), (fun _ _ => 0)), fun _ _ => none)
def zXo : Option SC := fnC_X11_init 0 z00
set_option maxRecDepth 1000000 in
theorem zX_ok : zXo.isSome = true := by decide +kernel
def zB : SC := zXo.get zX_ok
theorem zB_e : fnC_X11_init 0 z00 = some zB := (Option.some_get zX_ok).symm
set_option maxRecDepth 1000000 in
theorem zB_n : zB.1 = 172 := by decide +kernel
def zMo : Option SC := fnC_X12_init 172 (cN zB)
set_option maxRecDepth 1000000 in
theorem zM_ok : zMo.isSome = true := by decide +kernel
def zE : SC := zMo.get zM_ok
theorem zE_e : fnC_X12_init 172 (cN zB) = some zE := (Option.some_get zM_ok).symm
set_option maxRecDepth 1000000 in
theorem zE_n : zE.1 = 213 := by decide +kernel
theorem arr_same (cA : ClassId) (n : Nat) (f g : Nat → Option Nat) (h : ∀ j, j < n → f j = g j) : vp_cell cA (n, .inr (.inr (.inr (.inr f)))) = vp_cell cA (n, .inr (.inr (.inr (.inr g)))) := by
  rw [vp_cell_q, vp_cell_q]
  unfold arrV
  congr 2
  funext j
  show va_rf (f j.val) = va_rf (g j.val)
  rw [h j.val j.isLt]
set_option maxRecDepth 1000000 in
theorem zr_0 : ∀ a, a < NP → kd a = 0 → zE.2.2 a 0 = some 2 ∧ zE.2.2 a 1 = some 34 ∧ zE.2.2 a 2 = some 143 ∧ zE.2.2 a 3 = some 147 ∧ zE.2.2 a 4 = some 148 ∧ zE.2.2 a 5 = some 149 ∧ zE.2.2 a 6 = some 150 ∧ zE.2.2 a 7 = some 151 ∧ zE.2.2 a 8 = some 152 := by decide +kernel
theorem ce_0 {G : wG} {a : Nat} (ha : a < NP) (h : kd a = 0) : cellC G zE a = cell G zE.2.1 a := by
  obtain ⟨h0, h1, h2, h3, h4, h5, h6, h7, h8⟩ := zr_0 a ha h
  rw [cellC_0 h, cell_0 h, h0, h1, h2, h3, h4, h5, h6, h7, h8]
  rfl
set_option maxRecDepth 1000000 in
theorem zr_1 : ∀ a, a < NP → kd a = 1 → zE.2.2 a 0 = some (a + 1) ∧ zE.2.2 a 1 = some (a + 26) := by decide +kernel
theorem ce_1 {G : wG} {a : Nat} (ha : a < NP) (h : kd a = 1) : cellC G zE a = cell G zE.2.1 a := by
  obtain ⟨h0, h1⟩ := zr_1 a ha h
  rw [cellC_1 h, cell_1 h, h0, h1]
  rfl
set_option maxRecDepth 1000000 in
theorem zr_2 : ∀ a, a < NP → kd a = 2 → zE.2.2 a 0 = some (a + 1) ∧ zE.2.2 a 1 = some (a + 2) := by decide +kernel
theorem ce_2 {G : wG} {a : Nat} (ha : a < NP) (h : kd a = 2) : cellC G zE a = cell G zE.2.1 a := by
  obtain ⟨h0, h1⟩ := zr_2 a ha h
  rw [cellC_2 h, cell_2 h, h0, h1]
  rfl
theorem ce_3 {G : wG} {a : Nat} (ha : a < NP) (h : kd a = 3) : cellC G zE a = cell G zE.2.1 a := by
  rw [cellC_3 h, cell_3 h]
set_option maxRecDepth 1000000 in
theorem zr_4 : ∀ a, a < NP → kd a = 4 → zE.2.2 a 0 = some 2 ∧ zE.2.2 a 1 = some 161 ∧ zE.2.2 a 2 = some 163 ∧ zE.2.2 a 3 = some 164 ∧ zE.2.2 a 4 = some 165 ∧ zE.2.2 a 5 = some 166 ∧ zE.2.2 a 6 = some 167 ∧ zE.2.2 a 7 = some 168 ∧ zE.2.2 a 8 = some 169 ∧ zE.2.2 a 9 = some 170 := by decide +kernel
theorem ce_4 {G : wG} {a : Nat} (ha : a < NP) (h : kd a = 4) : cellC G zE a = cell G zE.2.1 a := by
  obtain ⟨h0, h1, h2, h3, h4, h5, h6, h7, h8, h9⟩ := zr_4 a ha h
  rw [cellC_4 h, cell_4 h, h0, h1, h2, h3, h4, h5, h6, h7, h8, h9]
  rfl
set_option maxRecDepth 1000000 in
theorem zr_5 : ∀ a, a < NP → kd a = 5 → zE.2.2 a 0 = some 2 ∧ zE.2.2 a 1 = some 34 ∧ zE.2.2 a 2 = some 143 ∧ zE.2.2 a 3 = some 157 ∧ zE.2.2 a 4 = some 158 ∧ zE.2.2 a 5 = some 159 ∧ zE.2.2 a 6 = some 160 := by decide +kernel
theorem ce_5 {G : wG} {a : Nat} (ha : a < NP) (h : kd a = 5) : cellC G zE a = cell G zE.2.1 a := by
  obtain ⟨h0, h1, h2, h3, h4, h5, h6⟩ := zr_5 a ha h
  rw [cellC_5 h, cell_5 h, h0, h1, h2, h3, h4, h5, h6]
  rfl
set_option maxRecDepth 1000000 in
theorem zr_6 : ∀ a, a < NP → kd a = 6 → zE.2.2 a 0 = some 1 ∧ zE.2.2 a 1 = some 17 ∧ zE.2.2 a 2 = some 33 := by decide +kernel
theorem ce_6 {G : wG} {a : Nat} (ha : a < NP) (h : kd a = 6) : cellC G zE a = cell G zE.2.1 a := by
  obtain ⟨h0, h1, h2⟩ := zr_6 a ha h
  rw [cellC_6 h, cell_6 h, h0, h1, h2]
  rfl
set_option maxRecDepth 1000000 in
theorem zr_7 : ∀ a, a < NP → kd a = 7 → zE.2.2 a 1 = some (a + 1) ∧ zE.2.2 a 2 = some (a + 2) ∧ zE.2.2 a 3 = some (a + 3) ∧ zE.2.2 a 4 = some (a + 4) ∧ zE.2.2 a 6 = some (a + 5) ∧ zE.2.2 a 7 = some (a + 6) ∧ zE.2.2 a 8 = some (a + 7) ∧ zE.2.2 a 9 = some (a + 8) ∧ zE.2.2 a 10 = some (a + 9) ∧ zE.2.2 a 11 = some (a + 12) := by decide +kernel
theorem ce_7 {G : wG} {a : Nat} (ha : a < NP) (h : kd a = 7) : cellC G zE a = cell G zE.2.1 a := by
  obtain ⟨h1, h2, h3, h4, h6, h7, h8, h9, h10, h11⟩ := zr_7 a ha h
  rw [cellC_7 h, cell_7 h, h1, h2, h3, h4, h6, h7, h8, h9, h10, h11]
  rfl
set_option maxRecDepth 1000000 in
theorem zr_8 : ∀ a, a < NP → kd a = 8 → zE.2.2 a 0 = some 2 ∧ zE.2.2 a 1 = some 34 ∧ zE.2.2 a 2 = some 154 ∧ zE.2.2 a 3 = some 155 := by decide +kernel
theorem ce_8 {G : wG} {a : Nat} (ha : a < NP) (h : kd a = 8) : cellC G zE a = cell G zE.2.1 a := by
  obtain ⟨h0, h1, h2, h3⟩ := zr_8 a ha h
  rw [cellC_8 h, cell_8 h, h0, h1, h2, h3]
  rfl
theorem ce_9 {G : wG} {a : Nat} (ha : a < NP) (h : kd a = 9) : cellC G zE a = cell G zE.2.1 a := by
  rw [cellC_9 h, cell_9 h]
set_option maxRecDepth 1000000 in
theorem zr_10 : ∀ a, a < NP → kd a = 10 → zE.2.2 a 0 = some 2 ∧ zE.2.2 a 1 = some 34 ∧ zE.2.2 a 2 = some 144 ∧ zE.2.2 a 3 = some 145 := by decide +kernel
theorem ce_10 {G : wG} {a : Nat} (ha : a < NP) (h : kd a = 10) : cellC G zE a = cell G zE.2.1 a := by
  obtain ⟨h0, h1, h2, h3⟩ := zr_10 a ha h
  rw [cellC_10 h, cell_10 h, h0, h1, h2, h3]
  rfl
set_option maxRecDepth 1000000 in
theorem zr_11_0 : zE.2.2 0 0 = some 1 ∧ zE.2.2 0 2 = some 2 ∧ zE.2.2 0 3 = some 17 ∧ zE.2.2 0 4 = some 32 ∧ zE.2.2 0 5 = some 34 ∧ zE.2.2 0 6 = some 61 ∧ zE.2.2 0 7 = some 143 ∧ zE.2.2 0 8 = some 146 := by decide +kernel
set_option maxRecDepth 1000000 in
theorem zr_11_1 : zE.2.2 0 9 = some 153 ∧ zE.2.2 0 10 = some 156 ∧ zE.2.2 0 11 = some 161 ∧ zE.2.2 0 12 = some 162 ∧ zE.2.2 0 13 = some 171 := by decide +kernel
theorem kd_11 : ∀ a, a < NP → kd a = 11 → a = 0 := by decide +kernel
theorem ce_11 {G : wG} {a : Nat} (ha : a < NP) (h : kd a = 11) : cellC G zE a = cell G zE.2.1 a := by
  have ha0 := kd_11 a ha h
  subst ha0
  obtain ⟨h0, h2, h3, h4, h5, h6, h7, h8⟩ := zr_11_0
  obtain ⟨h9, h10, h11, h12, h13⟩ := zr_11_1
  rw [cellC_11 h, cell_11 h, h0, h2, h3, h4, h5, h6, h7, h8, h9, h10, h11, h12, h13]
  rfl
set_option maxRecDepth 1000000 in
theorem zr_12_0 : zE.2.2 172 0 = some 173 ∧ zE.2.2 172 10 = some 174 ∧ zE.2.2 172 11 = some 175 ∧ zE.2.2 172 12 = some 176 ∧ zE.2.2 172 13 = some 177 ∧ zE.2.2 172 14 = some 178 ∧ zE.2.2 172 15 = some 179 ∧ zE.2.2 172 16 = some 180 := by decide +kernel
set_option maxRecDepth 1000000 in
theorem zr_12_1 : zE.2.2 172 17 = some 181 ∧ zE.2.2 172 18 = some 182 ∧ zE.2.2 172 19 = some 183 ∧ zE.2.2 172 26 = some 184 ∧ zE.2.2 172 27 = some 185 ∧ zE.2.2 172 28 = some 186 ∧ zE.2.2 172 29 = some 187 ∧ zE.2.2 172 30 = some 188 := by decide +kernel
set_option maxRecDepth 1000000 in
theorem zr_12_2 : zE.2.2 172 31 = some 189 ∧ zE.2.2 172 32 = some 190 ∧ zE.2.2 172 33 = some 191 ∧ zE.2.2 172 34 = some 192 ∧ zE.2.2 172 35 = some 193 ∧ zE.2.2 172 36 = some 194 ∧ zE.2.2 172 37 = some 195 ∧ zE.2.2 172 38 = some 196 := by decide +kernel
set_option maxRecDepth 1000000 in
theorem zr_12_3 : zE.2.2 172 48 = some 197 ∧ zE.2.2 172 49 = some 198 ∧ zE.2.2 172 50 = some 199 ∧ zE.2.2 172 53 = some 200 ∧ zE.2.2 172 54 = some 201 ∧ zE.2.2 172 61 = some 202 ∧ zE.2.2 172 62 = some 203 ∧ zE.2.2 172 63 = some 204 := by decide +kernel
set_option maxRecDepth 1000000 in
theorem zr_12_4 : zE.2.2 172 64 = some 205 ∧ zE.2.2 172 66 = some 206 ∧ zE.2.2 172 67 = some 207 ∧ zE.2.2 172 68 = some 208 ∧ zE.2.2 172 69 = some 209 ∧ zE.2.2 172 70 = some 210 ∧ zE.2.2 172 73 = some 211 ∧ zE.2.2 172 74 = some 212 := by decide +kernel
theorem kd_12 : ∀ a, a < NP → kd a = 12 → a = 172 := by decide +kernel
theorem ce_12 {G : wG} {a : Nat} (ha : a < NP) (h : kd a = 12) : cellC G zE a = cell G zE.2.1 a := by
  have ha0 := kd_12 a ha h
  subst ha0
  obtain ⟨h0, h10, h11, h12, h13, h14, h15, h16⟩ := zr_12_0
  obtain ⟨h17, h18, h19, h26, h27, h28, h29, h30⟩ := zr_12_1
  obtain ⟨h31, h32, h33, h34, h35, h36, h37, h38⟩ := zr_12_2
  obtain ⟨h48, h49, h50, h53, h54, h61, h62, h63⟩ := zr_12_3
  obtain ⟨h64, h66, h67, h68, h69, h70, h73, h74⟩ := zr_12_4
  rw [cellC_12 h, cell_12 h, h0, h10, h11, h12, h13, h14, h15, h16, h17, h18, h19, h26, h27, h28, h29, h30, h31, h32, h33, h34, h35, h36, h37, h38, h48, h49, h50, h53, h54, h61, h62, h63, h64, h66, h67, h68, h69, h70, h73, h74]
  rfl
theorem ce_13 {G : wG} {a : Nat} (ha : a < NP) (h : kd a = 13) : cellC G zE a = cell G zE.2.1 a := by rw [cellC_13 h, cell_13 h]
theorem ce_14 {G : wG} {a : Nat} (ha : a < NP) (h : kd a = 14) : cellC G zE a = cell G zE.2.1 a := by rw [cellC_14 h, cell_14 h]
theorem ce_15 {G : wG} {a : Nat} (ha : a < NP) (h : kd a = 15) : cellC G zE a = cell G zE.2.1 a := by rw [cellC_15 h, cell_15 h]
theorem ce_16 {G : wG} {a : Nat} (ha : a < NP) (h : kd a = 16) : cellC G zE a = cell G zE.2.1 a := by rw [cellC_16 h, cell_16 h]
set_option maxRecDepth 1000000 in
theorem zr_17 : ∀ a, a < NP → kd a = 17 → ∀ j, j < ln a → zE.2.2 a j = some (a + 1 + 27 * j) := by decide +kernel
theorem ce_17 {G : wG} {a : Nat} {H : Heap} (ha : a < NP) (h : kd a = 17) (hq : va_at G.1 vwCl (G.2.2 a, cellC G zE a) H) : va_at G.1 vwCl (G.2.2 a, cell G zE.2.1 a) H := by
  rw [cellC_17 h] at hq
  rw [cell_17 h]
  have hq : H[G.2.2 a]? = some (vp_cell (G.2.1 17) (ln a, .inr (.inr (.inr (.inr (fun j => (zE.2.2 a j).map G.2.2)))))) := hq
  show H[G.2.2 a]? = some (vp_cell (G.2.1 17) (ln a, .inr (.inr (.inr (.inr (fun j => some (G.2.2 (a + 1 + 27 * j))))))))
  rw [hq, arr_same (G.2.1 17) (ln a) _ (fun j => some (G.2.2 (a + 1 + 27 * j))) (fun j hj => by rw [zr_17 a ha h j hj]; rfl)]
set_option maxRecDepth 1000000 in
theorem zr_18 : ∀ a, a < NP → kd a = 18 → ∀ j, j < ln a → zE.2.2 a j = some (a + 1 + j) := by decide +kernel
theorem ce_18 {G : wG} {a : Nat} {H : Heap} (ha : a < NP) (h : kd a = 18) (hq : va_at G.1 vwCl (G.2.2 a, cellC G zE a) H) : va_at G.1 vwCl (G.2.2 a, cell G zE.2.1 a) H := by
  rw [cellC_18 h] at hq
  rw [cell_18 h]
  have hq : H[G.2.2 a]? = some (vp_cell (G.2.1 18) (ln a, .inr (.inr (.inr (.inr (fun j => (zE.2.2 a j).map G.2.2)))))) := hq
  show H[G.2.2 a]? = some (vp_cell (G.2.1 18) (ln a, .inr (.inr (.inr (.inr (fun j => some (G.2.2 (a + 1 + j))))))))
  rw [hq, arr_same (G.2.1 18) (ln a) _ (fun j => some (G.2.2 (a + 1 + j))) (fun j hj => by rw [zr_18 a ha h j hj]; rfl)]
theorem kd_in : ∀ a, a < NP → kd a = 0 ∨ kd a = 1 ∨ kd a = 2 ∨ kd a = 3 ∨ kd a = 4 ∨ kd a = 5 ∨ kd a = 6 ∨ kd a = 7 ∨ kd a = 8 ∨ kd a = 9 ∨ kd a = 10 ∨ kd a = 11 ∨ kd a = 12 ∨ kd a = 13 ∨ kd a = 14 ∨ kd a = 15 ∨ kd a = 16 ∨ kd a = 17 ∨ kd a = 18 := by decide +kernel
theorem wc_wp {G : wG} {H : Heap} (hP : WC G zE H) : WP G zE.2.1 H := by
  intro k q hq
  have hk : k < NP := by have h3 := (List.getElem?_eq_some_iff.mp hq).1; unfold wl at h3; rw [List.length_map, List.length_range] at h3; exact h3
  have e := Option.some.inj ((wl_at hk).symm.trans hq)
  subst e
  have h1 := hP.1 k _ (wlC_at (by rw [zE_n]; exact hk))
  rcases kd_in k hk with h | h | h | h | h | h | h | h | h | h | h | h | h | h | h | h | h | h | h
  · rw [← ce_0 hk h]; exact h1
  · rw [← ce_1 hk h]; exact h1
  · rw [← ce_2 hk h]; exact h1
  · rw [← ce_3 hk h]; exact h1
  · rw [← ce_4 hk h]; exact h1
  · rw [← ce_5 hk h]; exact h1
  · rw [← ce_6 hk h]; exact h1
  · rw [← ce_7 hk h]; exact h1
  · rw [← ce_8 hk h]; exact h1
  · rw [← ce_9 hk h]; exact h1
  · rw [← ce_10 hk h]; exact h1
  · rw [← ce_11 hk h]; exact h1
  · rw [← ce_12 hk h]; exact h1
  · rw [← ce_13 hk h]; exact h1
  · rw [← ce_14 hk h]; exact h1
  · rw [← ce_15 hk h]; exact h1
  · rw [← ce_16 hk h]; exact h1
  · exact ce_17 hk h h1
  · exact ce_18 hk h h1
set_option maxRecDepth 1000000 in
theorem zE_f : (zE.2.1.1 0 1 = 0 ∧ zE.2.1.1 172 1 = 0) ∧ (zE.2.1.1 32 11 = zE.2.1.1 172 2 ∧ zE.2.1.1 32 12 = zE.2.1.1 172 3) ∧ (zE.2.1.1 0 14 = 0 ∧ zE.2.1.1 172 65 = 0) ∧ (zE.2.1.1 2 0 = 0 ∧ zE.2.1.1 2 5 = 0 ∧ zE.2.1.1 2 12 = 1) ∧ (zE.2.1.1 172 43 = 0 ∧ zE.2.1.1 172 44 = 0 ∧ zE.2.1.1 172 45 = 1) := by decide +kernel
set_option maxRecDepth 1000000 in
theorem zE_g : (zE.2.1.1 11 2 = 1 ∧ zE.2.1.1 12 0 = 1 ∧ zE.2.1.1 14 2 = 1 ∧ zE.2.1.1 15 0 = 0) ∧ (zE.2.1.1 180 0 = 0 ∧ zE.2.1.1 180 1 = 0) ∧ (zE.2.1.1 11 3 + zE.2.1.1 14 3 = zE.2.1.1 172 23 ∧ zE.2.1.1 172 57 = 0) ∧ (zE.2.1.1 34 2 = 0 ∧ zE.2.1.1 34 3 = 0 ∧ zE.2.1.1 34 4 = 0) ∧ (zE.2.1.1 197 168 = 0 ∧ zE.2.1.1 197 169 = 0 ∧ zE.2.1.1 197 170 = 0) := by decide +kernel
set_option maxRecDepth 1000000 in
theorem zE_h : (∀ g, g < 6 → zE.2.1.1 60 g = -1) ∧ (∀ i, i < 3 → zE.2.1.1 (62 + 27 * i) 5 = 0 ∧ zE.2.1.1 211 i = 0) ∧ (zE.2.1.1 162 11 = 0 ∧ zE.2.1.1 172 71 = 0 ∧ zE.2.1.1 162 12 = 0 ∧ zE.2.1.1 172 72 = 0) ∧ (zE.2.1.1 146 9 = 0 ∧ zE.2.1.1 146 10 = 0 ∧ zE.2.1.1 172 51 = 0 ∧ zE.2.1.1 172 52 = 0) := by decide +kernel
set_option maxRecDepth 1000000 in
theorem zE_k : ∀ j, j < 19 → zE.2.1.2 33 j = KW.getD j 0 := by decide +kernel
