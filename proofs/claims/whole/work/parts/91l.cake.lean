section
variable {z w : St} {c : RC} {dr hpp hdd : Int} {F0 F1 F : FO} {t0 t1 u0 u1 : Nat} {b : BD}
/-- x's cake behind its reading -/
def xEnd (r : Int32) (z : St) : Option (Int32 × St) := nm (sI z 0 1 0) (fun z4 => (if r = 0 then some ((-1), z4) else bv (fn_X7_takeFrom 2 17 z4) (fun z7 => bv (fn_X1_lay 34 2 z7) (fun z9 => fn_X11_cake_47 fu 0 z9))))
theorem xEnd_ok (hX : DXr z c dr hpp hdd) (hC : VC c) (h0 : FXr 26 0 z F0 t0 u0) (h1 : FXr 29 1 z F1 t1 u1) : ∃ w, xEnd 1 z = some (iI (c 6 0), w) ∧ XR w c ∧ XFo 11 0 w F0 ∧ XFo 14 1 w F1 ∧ w.1 11 3 = iI (u0 : Int) ∧ w.1 14 3 = iI (u1 : Int) ∧ XB 34 w (b0r c dr) ∧ (∀ i, i < 3 → w.1 (62 + 27 * i) 5 = 0) ∧ w.1 146 9 = 0 ∧ w.1 146 10 = 0 ∧ w.1 162 11 = 0 ∧ w.1 0 14 = 0 ∧ w.1 0 1 = 0 ∧ ∀ a j, ¬ (a = 0 ∧ (j = 1 ∨ j = 14)) → ¬ (2 ≤ a ∧ a ≤ 15) → ¬ (34 ≤ a ∧ a ≤ 60) → ¬ ((a = 62 ∨ a = 89 ∨ a = 116) ∧ j = 5) → ¬ (a = 146 ∧ (j = 9 ∨ j = 10)) → ¬ (a = 162 ∧ j = 11) → SA z w a j := by
  have k4 : ∀ a j, ¬ (a = 0 ∧ j = 1) → SA z (sI z 0 1 0) a j := fun a j p => sa_I rfl p
  obtain ⟨z5, a1, a2, a3, a4, a5, a6, a7, a8⟩ := x_rtake (z := sI z 0 1 0) (hX.fr fun a j p => k4 a j (by omega)) hC (h0.fr fun a j p => k4 a j (by omega)) (h1.fr fun a j p => k4 a j (by omega))
  obtain ⟨z6, b1, b2, b3⟩ := x_lay a2 hC a7
  obtain ⟨z7, d1, d2, d3, d4, d5, d6, d7⟩ := x_cake47 (z := z6) (v := iI (c 6 0)) ((b3 2 0 (by omega)).1.trans a2.1)
  have k57 : ∀ a j, 2 ≤ a ∧ a ≤ 15 → SA z5 z7 a j := fun a j p => (b3 a j (by omega)).tr (d7 a j (by omega) (by omega) (by omega) (by omega))
  have hb : b0r c dr 168 ≤ 24 := by rw [b0_s.1]; have := hC.1; omega
  refine ⟨z7, ?_, a2.fr fun a j p => k57 a j (by unfold QX at p; omega), a3.fr fun a j p => k57 a j (by omega), a4.fr fun a j p => k57 a j (by omega), (k57 11 3 (by omega)).1.trans a5, (k57 14 3 (by omega)).1.trans a6, b2.fr hb fun a j p => d7 a j (by omega) (by omega) (by omega) (by omega), d2, d3, d4, d5, d6, ?_, fun a j p1 p2 p3 p4 p5 p6 => (((k4 a j (by omega)).tr (a8 a j p2)).tr (b3 a j p3)).tr (d7 a j p4 p5 p6 (by omega))⟩
  · unfold xEnd
    rw [nm_o, if_neg (show ¬ (1 : Int32) = 0 from by decide), bv_o a1, bv_o b1]
    exact d1
  · rw [(d7 0 1 (by omega) (by omega) (by omega) (by omega)).1, (b3 0 1 (by omega)).1, (a8 0 1 (by omega)).1, sI_at, if_pos rfl]
theorem nfX {a j : Nat} (h : lX a j) : Nf_X6_line a j := by unfold lX at h; show _ ∧ _; omega
theorem nfM {a j : Nat} (h : lM a j) : Nf_X12_readLine a j := by unfold lM at h; show _ ∧ _; omega
theorem s_cake (h : RD z c F0 F1 b) : Same fn_X11_cake fn_X12_cake z := by
  obtain ⟨n, hn, e1, e2, htx⟩ := h.1
  obtain ⟨T, hTd⟩ : ∃ T : Nat → Int, T = fun i => (z.1 173 i).toInt := ⟨_, rfl⟩
  have hT : VT T n := ⟨hn, fun i hi => by rw [hTd]; exact (htx i hi).2⟩
  have tm : ∀ i, i < n → z.1 173 i = iI (T i) := fun i hi => by rw [hTd]; exact toInt_iI _
  have tx : ∀ i, i < n → z.1 1 i &&& 255 = iI (T i) := fun i hi => by rw [(htx i hi).1]; exact tm i hi
  obtain ⟨zx, x1, x2, x3, x4, x5, x6, x7, x8⟩ := x_start hT e1 tx h.2.2.1
  have hsk := sk_p T (Nat.zero_le n)
  have hfu : n - sk T n 0 + 1 < fu := by unfold fu; omega
  -- any store with the same text goes along with x's reading
  have run : ∀ w : St, w.1 172 1 = iI (n : Int) → (∀ i, i < n → w.1 173 i = iI (T i)) → ∃ z' w', fn_X12_readAll w = some w' ∧ w'.1 172 1 = 0 ∧ (∀ a j, lX a j → SA z z' a j) ∧ (∀ a j, lM a j → SA w w' a j) ∧ ((fn_X6_readAll (z.1 0 1) z = some (0, z') ∧ TFt z' w') ∨ (fn_X6_readAll (z.1 0 1) z = some (1, z') ∧ (∃ s', TRd z' w' T n s') ∧ ARr z' w')) := by
    intro w h1 h2
    obtain ⟨wm, y1, y2, y3, y4, y5, y6, y7, y8, y9, y10⟩ := m_start hT h1 h2
    obtain ⟨z', w', hr⟩ := l_loop hT n zx wm (sk T n 0) 0 fu fu c0r 0 0 0 F00 F00 0 0 0 0 (by omega) (by omega) hfu hfu ⟨x2, y2, x3, y3, x4, y4, hsk.2.1⟩ ⟨x5, y5, ⟨fun t ht => absurd ht (by show ¬ (t : Int) < 0; omega), fun t ht => absurd ht (by show ¬ (t : Int) < 0; omega)⟩, x6, x7, y6, y7, y8, VC_0, by omega, Or.inl rfl, Or.inl rfl⟩
    rw [← x1, ← y1] at hr
    rcases hr with ⟨r1, r2, r3⟩ | ⟨r1, r2, r3, r4⟩
    · have r1' := r1
      have r2' := r2
      rw [x1] at r1'
      rw [y1] at r2'
      exact ⟨z', w', r2, (m81_fr (a := 172) (k := 1) (by show _ ∧ _; omega) _ _ _ r2').1.trans y9, fun a j p => (x8 a j p).tr (x41_fr (nfX p) _ _ _ _ _ r1'), fun a j p => (y10 a j p).tr (m81_fr (nfM p) _ _ _ r2'), Or.inl ⟨r1, r3⟩⟩
    · have r1' := r1
      have r2' := r2
      rw [x1] at r1'
      rw [y1] at r2'
      exact ⟨z', w', r2, (m81_fr (a := 172) (k := 1) (by show _ ∧ _; omega) _ _ _ r2').1.trans y9, fun a j p => (x8 a j p).tr (x41_fr (nfX p) _ _ _ _ _ r1'), fun a j p => (y10 a j p).tr (m81_fr (nfM p) _ _ _ r2'), Or.inr ⟨r1, r3, r4⟩⟩
  have xcake : ∀ (r : Int32) (z' : St), fn_X6_readAll (z.1 0 1) z = some (r, z') → fn_X11_cake z = xEnd r z' := fun r z' hr => by
    unfold fn_X11_cake
    rw [bd_o hr]
    rfl
  obtain ⟨z', w0, -, -, fx, -, hr⟩ := run z e2 tm
  rcases hr with ⟨hr, -⟩ | ⟨hr, -, c', dr', hp', hd', F0', F1', t0', t1', u0', u1', hP⟩
  · -- a fault
    have hx : fn_X11_cake z = some (-1, sI z' 0 1 0) := by
      rw [xcake 0 z' hr]
      unfold xEnd
      rw [nm_o, if_pos rfl]
    have f1 : ∀ a j, lX a j → ¬ (a = 0 ∧ j = 1) → SA z (sI z' 0 1 0) a j := fun a j p1 p2 => (fx a j p1).tr (sa_I rfl p2)
    obtain ⟨z'', w', m1, m2, -, fm, hr2⟩ := run (sI z' 0 1 0) ((f1 172 1 (by unfold lX; omega) (by omega)).1.trans e2) (fun i hi => (f1 173 i (by unfold lX; omega) (by omega)).1.trans (tm i hi))
    have hTF : TFt z' w' := by
      rcases hr2 with ⟨q1, q2⟩ | ⟨q1, -⟩
      · rw [hr] at q1
        have : z' = z'' := congrArg Prod.snd (Option.some.inj q1)
        rw [this]; exact q2
      · rw [hr] at q1
        exact absurd (congrArg Prod.fst (Option.some.inj q1)) (by show ¬ (0 : Int32) = 1; decide)
    have hm : fn_X12_cake (sI z' 0 1 0) = some (-1, w') := by
      unfold fn_X12_cake
      rw [bv_o m1, if_neg hTF.m.2]
    have fz : ∀ a j, lX a j → lM a j → ¬ (a = 0 ∧ j = 1) → SA z w' a j := fun a j p1 p2 p3 => (f1 a j p1 p3).tr (fm a j p2)
    obtain ⟨e, p, g1, g2, g3, g4, g5, g6⟩ := hTF
    refine ⟨-1, sI z' 0 1 0, w', hx, hm, c, F0, F1, b, ⟨0, by omega, ?_, ?_, fun i hi => absurd hi (Nat.not_lt_zero i)⟩, ⟨?_, ?_⟩, h.2.2.1.fr fun a k g => fz a k (by unfold PK at g; unfold lX; omega) (by unfold PK at g; unfold lM; omega) (by unfold PK at g; omega), h.2.2.2.1.fr fun a k g => fz a k (by unfold PY at g; unfold lX; omega) (by unfold PY at g; unfold lM; omega) (by unfold PY at g; omega), h.2.2.2.2.1.fr fun a k g => fz a k (by unfold PG QX QR at g; unfold lX; omega) (by unfold PG QX QR at g; unfold lM; omega) (by unfold PG QX QR at g; omega), h.2.2.2.2.2.1.fr fun a k g => fz a k (by unfold PB at g; unfold lX; omega) (by unfold PB at g; unfold lM; omega) (by unfold PB at g; omega), h.2.2.2.2.2.2.1.fr fun a k g => fz a k (by unfold PX at g; unfold lX; omega) (by unfold PX at g; unfold lM; omega) (by unfold PX at g; omega), h.2.2.2.2.2.2.2.1.fr fun a k g => fz a k (by unfold PL at g; unfold lX; omega) (by unfold PL at g; unfold lM; omega) (by unfold PL at g; omega), h.2.2.2.2.2.2.2.2.fr fun a k g => fz a k (by unfold PA at g; unfold lX; omega) (by unfold PA at g; unfold lM; omega) (by unfold PA at g; omega)⟩
    · rw [(fm 0 1 (by unfold lM; omega)).1, sI_at, if_pos rfl]; exact z0.symm
    · rw [m2]; exact z0.symm
    · rw [(fm 32 11 (by unfold lM; omega)).1, (sa_Ia (z := z') (a := 32) (k := 11) rfl (by omega)).1, g3, g5]
    · rw [(fm 32 12 (by unfold lM; omega)).1, (sa_Ia (z := z') (a := 32) (k := 12) rfl (by omega)).1, g4, g6]
  · -- a cake
    obtain ⟨z7, a1, -⟩ := xEnd_ok hP.1 hP.2.2.2.2.2.2.2.2.1 hP.2.2.2.1 hP.2.2.2.2.1
    have a1' := a1
    have fend : ∀ a j, ¬ (a = 0 ∧ (j = 1 ∨ j = 14)) → ¬ (2 ≤ a ∧ a ≤ 15) → ¬ (34 ≤ a ∧ a ≤ 60) → ¬ ((a = 62 ∨ a = 89 ∨ a = 116) ∧ j = 5) → ¬ (a = 146 ∧ (j = 9 ∨ j = 10)) → ¬ (a = 162 ∧ j = 11) → SA z' z7 a j := by
      obtain ⟨z7', q1, -, -, -, -, -, -, -, -, -, -, -, -, q2⟩ := xEnd_ok hP.1 hP.2.2.2.2.2.2.2.2.1 hP.2.2.2.1 hP.2.2.2.2.1
      rw [a1] at q1
      have : z7 = z7' := congrArg Prod.snd (Option.some.inj q1)
      rw [this]; exact q2
    have f1 : ∀ a j, 171 ≤ a → SA z z7 a j := fun a j p => (fx a j (by unfold lX; omega)).tr (fend a j (by omega) (by omega) (by omega) (by omega) (by omega) (by omega))
    obtain ⟨z'', w', m1, m2, -, fm, hr2⟩ := run z7 ((f1 172 1 (by omega)).1.trans e2) (fun i hi => (f1 173 i (by omega)).1.trans (tm i hi))
    obtain ⟨s', hTR, c2, dr2, hp2, hd2, G0, G1, t02, t12, u02, u12, hP2⟩ : ∃ s', TRd z' w' T n s' ∧ ARr z' w' := by
      rcases hr2 with ⟨q1, -⟩ | ⟨q1, ⟨s', q2⟩, q3⟩
      · rw [hr] at q1
        exact absurd (congrArg Prod.fst (Option.some.inj q1)) (by show ¬ (1 : Int32) = 0; decide)
      · rw [hr] at q1
        have : z' = z'' := congrArg Prod.snd (Option.some.inj q1)
        rw [this]; exact ⟨s', q2, q3⟩
    obtain ⟨hX, hM, hN, hF0, hF1, hG0, hG1, hU, hC, hdr, -, -⟩ := hP2
    obtain ⟨z8, b1, b2, b3, b4, b5, b6, b7, b8, b9, b10, b11, b12, b13, -⟩ := xEnd_ok hX hC hF0 hF1
    have e8 : z8 = z7 := by
      rw [a1] at b1
      exact (congrArg Prod.snd (Option.some.inj b1)).symm
    have ec : iI (c' 6 0) = iI (c2 6 0) := by
      rw [a1] at b1
      exact congrArg Prod.fst (Option.some.inj b1)
    rw [e8] at b2 b3 b4 b5 b6 b7 b8 b9 b10 b11 b12 b13
    have t0c : (t02 = 0 ∧ G0.1 = 0) ∨ t02 = 1 := by have := hF0.2.2.2.2.2; omega
    have t1c : (t12 = 0 ∧ G1.1 = 0) ∨ t12 = 1 := by have := hF1.2.2.2.2.2; omega
    obtain ⟨w8, d1, d2, d3, d4, d5, d6, d7, d8, d9, d10, d11, d12⟩ := m_cakeEnd hM hC hG0 hG1 t0c t1c hF0.2.2.2.2.1 hF1.2.2.2.2.1 hU hdr
    have hx : fn_X11_cake z = some (iI (c2 6 0), z7) := by rw [xcake 1 z' hr, a1', ec]
    have hm : fn_X12_cake z7 = some (iI (c2 6 0), w8) := by
      unfold fn_X12_cake
      rw [bv_o m1, hTR.2.2.2.2.2.1, if_pos (show (0 : Int32) ≤ 0 from by decide)]
      exact d1
    have fx8 : ∀ a j, a < 172 → SA z7 w8 a j := fun a j p => (fm a j (by unfold lM; omega)).tr (d12 a j (by omega) (by omega) (by omega) (by omega) (by omega))
    have hb : b0r c2 dr2 168 ≤ 24 := by rw [b0_s.1]; have := hC.1; omega
    have hVB := VB_0 hC hdr
    obtain ⟨n0, tt, l1, l2, l3, l4, l5, l6, l7, -⟩ := h.2.2.2.2.2.2.2.1
    refine ⟨iI (c2 6 0), z7, w8, hx, hm, c2, G0, G1, b0r c2 dr2, ⟨0, by omega, ?_, ?_, fun i hi => absurd hi (Nat.not_lt_zero i)⟩, ⟨?_, ?_⟩, ?_, ⟨0, by omega, ?_, ?_, fun i hi => absurd hi (Nat.not_lt_zero i)⟩, ⟨hC, ?_, d2, ?_, ?_, d3, d4, hF0.2.2.2.2.1, hF1.2.2.2.2.1, ?_, ?_⟩, ⟨hVB, ?_, d6⟩, ?_, ⟨0, tt, by omega, l2, l3, ?_, ?_, ?_, ?_, fun i hi => absurd hi (Nat.not_lt_zero i)⟩, ⟨fun _ => b0r c2 dr2, 0, 0, by omega, by omega, ?_, ?_, ?_, ?_, rfl, fun k _ => hVB, fun k hk => absurd hk (Nat.not_lt_zero k), fun k hk => absurd hk (Nat.not_lt_zero k), fun k _ hk => absurd hk (Nat.not_lt_zero k)⟩⟩
    · rw [(fx8 0 1 (by omega)).1, b13]; exact z0.symm
    · rw [(d12 172 1 (by omega) (by omega) (by omega) (by omega) (by omega)).1, m2]; exact z0.symm
    · rw [(fx8 32 11 (by omega)).1, (fend 32 11 (by omega) (by omega) (by omega) (by omega) (by omega) (by omega)).1, hTR.2.2.2.2.1, (d12 172 2 (by omega) (by omega) (by omega) (by omega) (by omega)).1, hTR.2.2.2.2.2.1]
    · rw [(fx8 32 12 (by omega)).1, (fend 32 12 (by omega) (by omega) (by omega) (by omega) (by omega) (by omega)).1, hTR.1.2.2.2, (d12 172 3 (by omega) (by omega) (by omega) (by omega) (by omega)).1, hTR.2.1.2.2]
    · exact h.2.2.1.fr fun a k g => ((fx a k (by unfold PK at g; unfold lX; omega)).tr (fend a k (by unfold PK at g; omega) (by unfold PK at g; omega) (by unfold PK at g; omega) (by unfold PK at g; omega) (by unfold PK at g; omega) (by unfold PK at g; omega))).tr (fx8 a k (by unfold PK at g; omega))
    · rw [(fx8 0 14 (by omega)).1, b12]; exact z0.symm
    · rw [d10]; exact z0.symm
    · exact b2.fr fun a j p => fx8 a j (by unfold QX at p; omega)
    · exact b3.fr fun a j p => fx8 a j (by omega)
    · exact b4.fr fun a j p => fx8 a j (by omega)
    · rw [(fx8 11 3 (by omega)).1, (fx8 14 3 (by omega)).1, b5, b6, d5, iI_add]; rfl
    · rw [(d12 172 57 (by omega) (by omega) (by omega) (by omega) (by omega)).1, (fm 172 57 (by unfold lM; omega)).1, (f1 172 57 (by omega)).1]; exact h.mo
    · exact b7.fr hb fun a j p => fx8 a j (by omega)
    · intro i hi
      exact Or.inl ⟨(fx8 _ 5 (by omega)).1.trans (b8 i hi), d11 i hi⟩
    · rw [(fx8 162 11 (by omega)).1, b11]; exact z0.symm
    · rw [d9]; exact z0.symm
    · rw [(fx8 162 12 (by omega)).1, (fend 162 12 (by omega) (by omega) (by omega) (by omega) (by omega) (by omega)).1, (fx 162 12 (by unfold lX; omega)).1, l6]
    · rw [(d12 172 72 (by omega) (by omega) (by omega) (by omega) (by omega)).1, (fm 172 72 (by unfold lM; omega)).1, (f1 172 72 (by omega)).1, l7]
    · rw [(fx8 146 9 (by omega)).1, b9]; exact z0.symm
    · rw [(fx8 146 10 (by omega)).1, b10]; exact z0.symm
    · rw [d7]; exact z0.symm
    · rw [d8]; exact z0.symm
end
