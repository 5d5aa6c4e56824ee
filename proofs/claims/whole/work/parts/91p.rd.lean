def b00 : BD := b0r c0r 0
theorem RD_of (z : St) (zE_f : (z.1 0 1 = 0 ∧ z.1 172 1 = 0) ∧ (z.1 32 11 = z.1 172 2 ∧ z.1 32 12 = z.1 172 3) ∧ (z.1 0 14 = 0 ∧ z.1 172 65 = 0) ∧ (z.1 2 0 = 0 ∧ z.1 2 5 = 0 ∧ z.1 2 12 = 1) ∧ (z.1 172 43 = 0 ∧ z.1 172 44 = 0 ∧ z.1 172 45 = 1)) (zE_g : (z.1 11 2 = 1 ∧ z.1 12 0 = 1 ∧ z.1 14 2 = 1 ∧ z.1 15 0 = 0) ∧ (z.1 180 0 = 0 ∧ z.1 180 1 = 0) ∧ (z.1 11 3 + z.1 14 3 = z.1 172 23 ∧ z.1 172 57 = 0) ∧ (z.1 34 2 = 0 ∧ z.1 34 3 = 0 ∧ z.1 34 4 = 0) ∧ (z.1 197 168 = 0 ∧ z.1 197 169 = 0 ∧ z.1 197 170 = 0)) (zE_h : (∀ g, g < 6 → z.1 60 g = -1) ∧ (∀ i, i < 3 → z.1 (62 + 27 * i) 5 = 0 ∧ z.1 211 i = 0) ∧ (z.1 162 11 = 0 ∧ z.1 172 71 = 0 ∧ z.1 162 12 = 0 ∧ z.1 172 72 = 0) ∧ (z.1 146 9 = 0 ∧ z.1 146 10 = 0 ∧ z.1 172 51 = 0 ∧ z.1 172 52 = 0)) (zE_k : ∀ j, j < 19 → z.2 33 j = KW.getD j 0) : RD z c0r F00 F00 b00 := by
  obtain ⟨⟨f1, f2⟩, f3, ⟨f4, f5⟩, ⟨f6, f7, f8⟩, f9, f10, f11⟩ := zE_f
  obtain ⟨⟨g1, g2, g3, g4⟩, ⟨g5, g6⟩, g7, ⟨g8, g9, g10⟩, g11, g12, g13⟩ := zE_g
  obtain ⟨h1, h2, ⟨h3, h4, h5, h6⟩, h7, h8, h9, h10⟩ := zE_h
  have no : ∀ (t : Nat) {P : Prop}, (t : Int) < 0 → P := fun t P ht => absurd ht (by omega)
  have hVB : VB c0r b00 := VB_0 VC_0 ⟨by decide, by decide⟩
  have i0 : iI 0 = 0 := by decide
  have i1 : iI 1 = 1 := by decide
  have im : iI (-1) = -1 := by decide
  refine ⟨⟨0, by decide, f1, f2, fun i hi => absurd hi (Nat.not_lt_zero i)⟩, f3, zE_k, ⟨0, by decide, f4, f5, fun i hi => absurd hi (Nat.not_lt_zero i)⟩, ⟨VC_0, ⟨f6, f7, f8, fun t ht => no t ht, fun t ht => no t ht⟩, ⟨f9, f10, f11, fun t ht => no t ht, fun t ht => no t ht⟩, ?_, ?_, ?_, ?_, VF_0, VF_0, g7⟩, ⟨hVB, ?_, ?_⟩, fun i hi => Or.inl (h2 i hi), ?_, ?_⟩
  · refine Or.inl ⟨rfl, g1, fun k hk => ?_⟩
    have hk0 : k = 0 := by omega
    subst hk0
    show z.1 12 0 &&& 31 = _ ∧ _
    rw [g2]
    exact ⟨by decide, fun q => absurd q (by decide)⟩
  · refine Or.inl ⟨rfl, g3, fun k hk => ?_⟩
    have hk0 : k = 0 := by omega
    subst hk0
    show z.1 15 0 &&& 31 = _ ∧ (_ → z.1 15 0 >>> _ = _)
    rw [g4]
    exact ⟨by decide, fun _ => by decide⟩
  · exact ⟨g5, fun k hk => absurd hk (Nat.not_lt_zero k)⟩
  · exact ⟨g6, fun k hk => absurd hk (Nat.not_lt_zero k)⟩
  · refine ⟨g8, g9, g10, fun p hp => no p hp, fun g hg => ?_⟩
    show z.1 60 g = _
    rw [h1 g hg, show hp b00 (g : Int) = -1 from b0_hp VC_0 g, im]
  · exact ⟨g11, g12, g13, fun p hp => no p hp⟩
  · exact ⟨0, 0, by decide, by decide, by decide, h3, h4, h5, h6, fun i hi => absurd hi (Nat.not_lt_zero i)⟩
  · exact ⟨fun _ => b00, 0, 0, Nat.le_refl _, by decide, h7, h8, h9, h10, rfl, fun _ _ => hVB, fun k hk => absurd hk (Nat.not_lt_zero k), fun k hk => absurd hk (Nat.not_lt_zero k), fun k _ hk => absurd hk (Nat.not_lt_zero k)⟩
theorem RD_start : RD zE.2.1 c0r F00 F00 b00 := RD_of zE.2.1 zE_f zE_g zE_h zE_k
