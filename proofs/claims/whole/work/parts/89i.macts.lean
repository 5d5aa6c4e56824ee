section
variable {z w : St} {c : RC} {F0 F1 : FO} {b b' : BD}
theorem MB_v {a o : Nat} (h : MB a o z b) {j : Nat} (hj : (j : Int) < 7 * b 168 ∨ (168 ≤ j ∧ j ≤ 170)) : z.1 a (o + j) = iI (b j) := by
  rcases hj with hj | hj
  · have := h.2.2.2 (j / 7) (by omega) (j % 7) (by omega)
    rw [show o + (7 * (j / 7) + j % 7) = o + j from by omega] at this
    rw [this]
    unfold pc
    rw [show 7 * (j / 7) + j % 7 = j from by omega]
  · have hj' : j = 168 ∨ j = 169 ∨ j = 170 := by omega
    rcases hj' with rfl | rfl | rfl
    · exact h.1
    · exact h.2.1
    · exact h.2.2.1
theorem MB_mk {a o : Nat} (h : ∀ j : Nat, (j : Int) < 7 * b 168 ∨ (168 ≤ j ∧ j ≤ 170) → z.1 a (o + j) = iI (b j)) : MB a o z b :=
  ⟨h 168 (by omega), h 169 (by omega), h 170 (by omega), fun p hp f hf => h (7 * p + f) (by omega)⟩
theorem MB_cp {a o a' o' : Nat} (h : MB a o z b) (hn : b 168 ≤ 24) (hs : ∀ j, j < 171 → w.1 a' (o' + j) = z.1 a (o + j)) : MB a' o' w b := MB_mk fun j hj => by
  rw [hs j (by omega)]
  exact MB_v h hj
/-! the history goes on -/
theorem sh_b (d : Nat) : sh d ≤ 1 ∧ sh d ≤ d := by
  unfold sh
  split <;> omega
theorem RA_mk {h : Nat → BD} {d n : Nat} {e : Nat → Int32} (hd : d ≤ n) (hn : n ≤ 40) (h7 : h d = b) (h8 : ∀ k, k ≤ n → VB c (h k)) (h9 : ∀ k, k < n → ACT c F1 (ent z k) (h k) (h (k + 1))) (h10 : ∀ k, k < d → MB 199 (171 * k) z (h k))
    (x9 : w.1 146 9 = iI ((d - sh d + 1 : Nat) : Int)) (x10 : w.1 146 10 = iI ((d - sh d + 1 : Nat) : Int)) (m51 : w.1 172 51 = iI ((d - sh d + 1 : Nat) : Int)) (m52 : w.1 172 52 = 0)
    (xe : ∀ k f, k < d - sh d → f < 6 → w.1 (147 + f) k = z.1 (147 + f) (k + sh d)) (xl : ∀ f, f < 6 → w.1 (147 + f) (d - sh d) = e f)
    (m1 : ∀ j, j < 171 * (d - sh d) → w.1 199 j = z.1 199 (j + 171 * sh d)) (m2 : ∀ j, j < 171 → w.1 199 (171 * (d - sh d) + j) = z.1 197 j) (hb : MB 197 0 z b) (hE : ACT c F1 e b b') (hV' : VB c b') : RA w c F1 b' := by
  have hs := sh_b d
  have hd40 : d - sh d + 1 ≤ 40 := by
    have : d = 40 → sh d = 1 := fun q => by unfold sh; rw [if_pos q]
    omega
  generalize hsd : sh d = s at *
  refine ⟨fun k => if k ≤ d - s then h (k + s) else b', d - s + 1, d - s + 1, Nat.le_refl _, hd40, x9, x10, m51, by rw [m52, Nat.sub_self]; exact q_0, if_neg (by omega), fun k hk => ?_, fun k hk => ?_, fun k hk => ?_, fun k hk hk' => absurd hk' (by omega)⟩
  · show VB c (if k ≤ d - s then h (k + s) else b')
    split
    · exact h8 _ (by omega)
    · exact hV'
  · show ACT c F1 (ent w k) (if k ≤ d - s then h (k + s) else b') (if k + 1 ≤ d - s then h (k + 1 + s) else b')
    rw [if_pos (by omega)]
    by_cases hkd : k < d - s
    · rw [if_pos (by omega), show k + 1 + s = (k + s) + 1 from by omega]
      exact (h9 (k + s) (by omega)).ex fun f hf => xe k f hkd hf
    · have : k = d - s := by omega
      rw [if_neg (by omega), this, show d - s + s = d from by omega, h7]
      exact hE.ex fun f hf => xl f hf
  · show MB 199 (171 * k) w (if k ≤ d - s then h (k + s) else b')
    rw [if_pos (by omega)]
    by_cases hkd : k < d - s
    · refine MB_cp (h10 (k + s) (by omega)) (h8 (k + s) (by omega)).1.2 (fun j hj => ?_)
      rw [m1 _ (by omega), show 171 * k + j + 171 * s = 171 * (k + s) + j from by omega]
    · have : k = d - s := by omega
      rw [this, show d - s + s = d from by omega, h7]
      refine MB_cp hb (by rw [← h7]; exact (h8 d hd).1.2) (fun j hj => ?_)
      rw [m2 j hj, Nat.zero_add]
theorem RD_act (h : RD z c F0 F1 b) (hs : ∀ a k, PS a k → ¬ PB a k → ¬ PA a k → SA z w a k) (hB : RB w c b') (hA : RA w c F1 b') : RD w c F0 F1 b' :=
  ⟨h.1.fr fun a k g => hs a k (by unfold PT at g; unfold PS; omega) (by unfold PT at g; unfold PB; omega) (by unfold PT at g; unfold PA; omega),
   h.2.1.fr fun a k g => hs a k (by unfold PFt at g; unfold PS; omega) (by unfold PFt at g; unfold PB; omega) (by unfold PFt at g; unfold PA; omega),
   h.2.2.1.fr fun a k g => hs a k (by unfold PK at g; unfold PS; omega) (by unfold PK at g; unfold PB; omega) (by unfold PK at g; unfold PA; omega),
   h.2.2.2.1.fr fun a k g => hs a k (by unfold PY at g; unfold PS; omega) (by unfold PY at g; unfold PB; omega) (by unfold PY at g; unfold PA; omega),
   h.2.2.2.2.1.fr fun a k g => hs a k (by unfold PG QX QR at g; unfold PS; omega) (by unfold PG QX QR at g; unfold PB; omega) (by unfold PG QX QR at g; unfold PA; omega),
   hB,
   h.2.2.2.2.2.2.1.fr fun a k g => hs a k (by unfold PX at g; unfold PS; omega) (by unfold PX at g; unfold PB; omega) (by unfold PX at g; unfold PA; omega),
   h.2.2.2.2.2.2.2.1.fr fun a k g => hs a k (by unfold PL at g; unfold PS; omega) (by unfold PL at g; unfold PB; omega) (by unfold PL at g; unfold PA; omega),
   hA⟩
/-! goCut -/
theorem m_goCut {p y : Nat} {k : Int} (hB : MB 198 0 z b) (hC : VC c) (hV : VB c b) (h : canS b p y k) : ∃ u, fn_X12_goCut (iI p) (iI y) (iI k) z = some (iI (b 168), u) ∧ MB 198 0 u (goC b p y k) ∧ ∀ a j, a ≠ 198 → SA z u a j := by
  have hn := hV.1
  have hk := h
  obtain ⟨h1, h2, h3, h4, h5, h6⟩ := hk
  have hp24 := hV.n h1
  generalize hN : (b 168).toNat = N
  have hNb : (N : Int) = b 168 := by omega
  obtain ⟨m, hm⟩ := loopK (fun m i => fn_X12_goCut_13 m (iI p) (iI y) (iI k) (iI (b 168)) (iI (i : Int)) (fun a j => if a = 198 ∧ 7 * N ≤ j ∧ j < 7 * N + i then z.1 198 (7 * p + (j - 7 * N)) else z.1 a j, z.2)) 7 (by omega) (fun i m hi => by
    show fn_X12_goCut_13 (m + 1) _ _ _ _ _ _ = fn_X12_goCut_13 m _ _ _ _ _ _
    rw [fn_X12_goCut_13, q_7, if_neg (nle (by omega) (by omega) (by omega)), iI_mul, iI_mul, iI_add, iI_add, gd_t (iI_ix (by omega)), gd_t (iI_ix (by omega)), nm_o, k1, show Int32.toNatClampNeg (iI (7 * (p : Int) + (i : Int))) = 7 * p + i from by rw [iI_clamp (by omega)]; omega, show Int32.toNatClampNeg (iI (7 * b 168 + (i : Int))) = 7 * N + i from by rw [iI_clamp (by omega)]; omega]
    refine congrArg (fn_X12_goCut_13 m _ _ _ _ _) (Prod.ext (funext fun a => funext fun j => ?_) rfl)
    simp only [sI]
    by_cases ha : a = 198
    · subst ha
      by_cases hj : j = 7 * N + i
      · subst hj
        rw [if_pos rfl, if_pos rfl, if_neg (by omega), if_pos (by omega), show 7 * N + i - 7 * N = i from by omega]
      · rw [if_pos rfl, if_neg hj]
        by_cases h2 : 7 * N ≤ j ∧ j < 7 * N + i
        · rw [if_pos ⟨rfl, h2⟩, if_pos (by omega)]
        · rw [if_neg (by omega), if_neg (by omega)]
    · rw [if_neg ha, if_neg (by omega), if_neg (by omega)])
  have e : fn_X12_goCut (iI p) (iI y) (iI k) z = _ := (show fn_X12_goCut (iI p) (iI y) (iI k) z = fn_X12_goCut_13 fu (iI p) (iI y) (iI k) (iI (b 168)) (iI ((0 : Nat) : Int)) (fun a j => if a = 198 ∧ 7 * N ≤ j ∧ j < 7 * N + 0 then z.1 198 (7 * p + (j - 7 * N)) else z.1 a j, z.2) from by
    unfold fn_X12_goCut
    rw [nm_o, c_168, show z.1 198 168 = iI (b 168) from hB.1, z0]
    refine congrArg (fn_X12_goCut_13 fu _ _ _ _ 0) (Prod.ext (funext fun a => funext fun j => ?_) rfl)
    show z.1 a j = if a = 198 ∧ 7 * N ≤ j ∧ j < 7 * N + 0 then _ else _
    rw [if_neg (by omega)]).trans hm
  rw [e]
  generalize hz7 : ((fun a j => if a = 198 ∧ 7 * N ≤ j ∧ j < 7 * N + 7 then z.1 198 (7 * p + (j - 7 * N)) else z.1 a j, z.2) : St) = z7
  have v7 : ∀ j : Nat, (j : Int) < 7 * b 168 + 7 ∨ (168 ≤ j ∧ j ≤ 170) → z7.1 198 j = iI (if 7 * N ≤ j ∧ j < 7 * N + 7 then b (7 * p + (j - 7 * N)) else b j) := fun j hj => by
    rw [← hz7]
    show (if 198 = 198 ∧ 7 * N ≤ j ∧ j < 7 * N + 7 then z.1 198 (7 * p + (j - 7 * N)) else z.1 198 j) = _
    by_cases hj2 : 7 * N ≤ j ∧ j < 7 * N + 7
    · rw [if_pos ⟨rfl, hj2⟩, if_pos hj2]
      have := MB_v hB (j := 7 * p + (j - 7 * N)) (Or.inl (by omega))
      rwa [Nat.zero_add] at this
    · rw [if_neg (by omega), if_neg hj2]
      have := MB_v hB (j := j) (by omega)
      rwa [Nat.zero_add] at this
  have f7 : ∀ a j, a ≠ 198 → SA z z7 a j := fun a j ha => by
    rw [← hz7]
    refine ⟨?_, rfl⟩
    show (if a = 198 ∧ _ then _ else _) = _
    rw [if_neg (fun q => ha q.1)]
  have fin : ∀ u : St, u = sI (sI (sI (sI z7 198 (7 * N + (1 + y)) (z7.1 198 (7 * N + (1 + y)) + iI k)) 198 (7 * N + (3 + y)) (z7.1 198 (7 * N + (3 + y)) - iI k)) 198 (7 * p + (3 + y)) (iI k)) 198 168 (iI (b 168 + 1)) → MB 198 0 u (goC b p y k) ∧ ∀ a j, a ≠ 198 → SA z u a j := by
    intro u hu
    refine ⟨MB_mk fun j hj => ?_, fun a j ha => ?_⟩
    · have eg := (goC_168 (k := k) ⟨hn.1, h3⟩ h1 h4).1
      rw [eg] at hj
      rw [hu, Nat.zero_add, sI_at, sI_at, sI_at, sI_at, v7 (7 * N + (1 + y)) (Or.inl (by omega)), v7 (7 * N + (3 + y)) (Or.inl (by omega)), v7 j (by omega), if_pos (show 7 * N ≤ 7 * N + (1 + y) ∧ 7 * N + (1 + y) < 7 * N + 7 from by omega), if_pos (show 7 * N ≤ 7 * N + (3 + y) ∧ 7 * N + (3 + y) < 7 * N + 7 from by omega), show 7 * N + (1 + y) - 7 * N = 1 + y from by omega, show 7 * N + (3 + y) - 7 * N = 3 + y from by omega, iI_add, iI_sub]
      unfold goC
      rw [hN]
      by_cases g1 : j = 168
      · rw [if_pos g1, if_pos g1]
      · rw [if_neg g1, if_neg g1]
        by_cases g2 : j = 7 * N + (1 + y)
        · rw [if_neg (show ¬ j = 7 * p + (3 + y) from by omega), if_neg (show ¬ j = 7 * N + (3 + y) from by omega), if_pos g2, if_pos g2]
        · by_cases g3 : j = 7 * N + (3 + y)
          · rw [if_neg (show ¬ j = 7 * p + (3 + y) from by omega), if_pos g3, if_neg g2, if_pos g3]
          · by_cases g4 : j = 7 * p + (3 + y)
            · rw [if_pos g4, if_neg g2, if_neg g3, if_pos g4]
            · rw [if_neg g4, if_neg g3, if_neg g2, if_neg g2, if_neg g3, if_neg g4]
    · rw [hu]
      exact ((((f7 a j ha).tr (sa_Ia rfl ha)).tr (sa_Ia rfl ha)).tr (sa_Ia rfl ha)).tr (sa_Ia rfl ha)
  have e168 : z7.1 198 168 = iI (b 168) := by rw [v7 168 (by omega), if_neg (by omega)]
  have hw : y = 0 ∨ y = 1 := by omega
  have cl : ∀ (q f : Nat), q < 24 → f < 7 → Int32.toNatClampNeg (iI (7 * (q : Int) + (f : Int))) = 7 * q + f := fun q f hq hf => by rw [iI_clamp (by omega)]; omega
  rw [fn_X12_goCut_13, if_pos (by rw [q_7]; exact yle (by omega) (by omega) (by omega)), ← hNb]
  rcases hw with rfl | rfl
  · rw [if_pos z0]
    unfold fn_X12_goCut_60 fn_X12_goCut_71
    rw [if_pos z0, gd_t (x7_1 (by omega)), gd_t (x7_1 (by omega)), nm_o, gd_t (x7_3 (by omega)), gd_t (x7_3 (by omega)), nm_o, gd_t (x7_3 hp24), nm_o, nm_o, c7_1 (by omega), c7_3 (by omega), c7_3 hp24, c_168]
    refine ⟨_, rfl, fin _ ?_⟩
    have t1 : ∀ (u : St) (i : Nat) (v : Int32), i < 168 → (sI u 198 i v).1 198 168 = u.1 198 168 := fun u i v hi => by rw [sI_at, if_neg (by omega)]
    rw [t1 _ _ _ (by omega), t1 _ _ _ (by omega), t1 _ _ _ (by omega), e168, q_1, iI_add]
    have t2 : (sI z7 198 (7 * N + 1) (z7.1 198 (7 * N + 1) + iI k)).1 198 (7 * N + 3) = z7.1 198 (7 * N + 3) := by rw [sI_at, if_neg (by omega)]
    rw [t2]
  · rw [if_neg (by decide)]
    unfold fn_X12_goCut_60 fn_X12_goCut_71
    rw [if_neg (by decide), gd_t (x7_2 (by omega)), gd_t (x7_2 (by omega)), nm_o, gd_t (x7_4 (by omega)), gd_t (x7_4 (by omega)), nm_o, gd_t (x7_4 hp24), nm_o, nm_o, c7_2 (by omega), c7_4 (by omega), c7_4 hp24, c_168]
    refine ⟨_, rfl, fin _ ?_⟩
    have t1 : ∀ (u : St) (i : Nat) (v : Int32), i < 168 → (sI u 198 i v).1 198 168 = u.1 198 168 := fun u i v hi => by rw [sI_at, if_neg (by omega)]
    rw [t1 _ _ _ (by omega), t1 _ _ _ (by omega), t1 _ _ _ (by omega), e168, q_1, iI_add]
    have t2 : (sI z7 198 (7 * N + 2) (z7.1 198 (7 * N + 2) + iI k)).1 198 (7 * N + 4) = z7.1 198 (7 * N + 4) := by rw [sI_at, if_neg (by omega)]
    rw [t2]
end
