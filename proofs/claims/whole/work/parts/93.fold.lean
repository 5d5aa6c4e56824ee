def OKs (z : St) : Prop := ∃ c F0 F1 b, RD z c F0 F1 b
def Win (o : Option (Int32 × St)) : Prop := ∃ z', o = some (1, z')
theorem Win_ite {P : Prop} [Decidable P] {A B : Option (Int32 × St)} (h1 : P → Win A) (h2 : ¬ P → Win B) : Win (if P then A else B) := by
  by_cases h : P
  · rw [if_pos h]; exact h1 h
  · rw [if_neg h]; exact h2 h
theorem Win_gd {g : Bool} {A : Option (Int32 × St)} (hg : g = true) (h : Win A) : Win (gd g A) := by subst hg; exact h
theorem Win_bd {x : Option (Int32 × St)} {r : Int32} {z1 : St} {g : Int32 → St → Option (Int32 × St)} (e : x = some (r, z1)) (h : Win (g r z1)) : Win (bd x g) := by subst e; exact h
theorem ixk {k Ln : Nat} (j : Nat) (hj : j ≤ 5) (hk : k + 6 ≤ Ln) (hL : Ln ≤ 3072) : ix (iI (k : Int) + iI (j : Int)) Ln = true := by
  rw [iI_add]
  exact iI_ix ⟨by omega, by omega, by omega⟩
theorem iI_nat (n : Nat) : Int32.ofNat n = iI (n : Int) := by
  first
    | rfl
    | exact (Int32.ofInt_eq_ofNat).symm
    | exact Int32.ofNat_eq_ofInt
    | simp [iI]
set_option maxHeartbeats 8000000 in
set_option maxRecDepth 100000 in
theorem fold_step {xs : Nat → Int32} {Ln n k : Nat} {z : St} (hL : Ln ≤ 3072) (hk : k + 6 ≤ Ln) (hO : OKs z) (hn : ∀ z2, OKs z2 → Win (fn_L_law_1522 xs Ln (fn_L_law_18 xs Ln n) (iI (k : Int)) z2)) (hc : ¬ ((Int32.ofNat Ln) - 6) < iI (k : Int)) : Win (fn_L_law_18 xs Ln (n + 1) (iI (k : Int)) z) := by
  have hi0 : ix (iI (k : Int)) Ln = true := iI_ix ⟨by omega, by omega, by omega⟩
  have hi1 : ix (iI (k : Int) + 1) Ln = true := ixk 1 (by decide) hk hL
  have hi2 : ix (iI (k : Int) + 2) Ln = true := ixk 2 (by decide) hk hL
  have hi3 : ix (iI (k : Int) + 3) Ln = true := ixk 3 (by decide) hk hL
  have hi4 : ix (iI (k : Int) + 4) Ln = true := ixk 4 (by decide) hk hL
  have hi5 : ix (iI (k : Int) + 5) Ln = true := ixk 5 (by decide) hk hL
  obtain ⟨c, F0, F1, b, hR⟩ := hO
  rw [fn_L_law_18]
  refine Win_ite (fun q => absurd q hc) (fun _ => ?_)
  refine Win_gd hi0 ?_
  generalize iI (k : Int) = v3 at hn hc hi0 hi1 hi2 hi3 hi4 hi5 ⊢
  refine Win_ite (fun _ => ?_) (fun _ => ?_)
  · obtain ⟨r, z1, z2, e1, e2, hO⟩ := s_feed (xs (Int32.toNatClampNeg (v3 + 1))) (xs (Int32.toNatClampNeg (v3 + 2))) (xs (Int32.toNatClampNeg (v3 + 3))) (xs (Int32.toNatClampNeg (v3 + 4))) (xs (Int32.toNatClampNeg (v3 + 5))) hR
    refine Win_gd hi1 ?_
    refine Win_gd hi2 ?_
    refine Win_gd hi3 ?_
    refine Win_gd hi4 ?_
    refine Win_gd hi5 ?_
    refine Win_bd e1 ?_
    refine Win_gd hi1 ?_
    refine Win_gd hi2 ?_
    refine Win_gd hi3 ?_
    refine Win_gd hi4 ?_
    refine Win_gd hi5 ?_
    exact Win_bd e2 (Win_ite (fun _ => hn _ hO) (fun q => absurd rfl q))
  refine Win_ite (fun _ => ?_) (fun _ => ?_)
  · obtain ⟨r, z1, z2, e1, e2, hO⟩ := s_end (xs (Int32.toNatClampNeg (v3 + 1))) hR
    refine Win_gd hi1 ?_
    refine Win_bd e1 ?_
    refine Win_gd hi1 ?_
    exact Win_bd e2 (Win_ite (fun _ => hn _ hO) (fun q => absurd rfl q))
  refine Win_ite (fun _ => ?_) (fun _ => ?_)
  · obtain ⟨r, z1, z2, e1, e2, hO⟩ := s_cake  hR
    refine Win_bd e1 ?_
    exact Win_bd e2 (Win_ite (fun _ => hn _ hO) (fun q => absurd rfl q))
  refine Win_ite (fun _ => ?_) (fun _ => ?_)
  · obtain ⟨r, z1, z2, e1, e2, hO⟩ := s_fault (xs (Int32.toNatClampNeg (v3 + 1))) hR
    refine Win_gd hi1 ?_
    refine Win_bd e1 ?_
    refine Win_gd hi1 ?_
    exact Win_bd e2 (Win_ite (fun _ => hn _ hO) (fun q => absurd rfl q))
  refine Win_ite (fun _ => ?_) (fun _ => ?_)
  · obtain ⟨r, z1, z2, e1, e2, hO⟩ := s_piece (xs (Int32.toNatClampNeg (v3 + 1))) (xs (Int32.toNatClampNeg (v3 + 2))) hR
    refine Win_gd hi1 ?_
    refine Win_gd hi2 ?_
    refine Win_bd e1 ?_
    refine Win_gd hi1 ?_
    refine Win_gd hi2 ?_
    exact Win_bd e2 (Win_ite (fun _ => hn _ hO) (fun q => absurd rfl q))
  refine Win_ite (fun _ => ?_) (fun _ => ?_)
  · obtain ⟨r, z1, z2, e1, e2, hO⟩ := s_guest (xs (Int32.toNatClampNeg (v3 + 1))) (xs (Int32.toNatClampNeg (v3 + 2))) hR
    refine Win_gd hi1 ?_
    refine Win_gd hi2 ?_
    refine Win_bd e1 ?_
    refine Win_gd hi1 ?_
    refine Win_gd hi2 ?_
    exact Win_bd e2 (Win_ite (fun _ => hn _ hO) (fun q => absurd rfl q))
  refine Win_ite (fun _ => ?_) (fun _ => ?_)
  · obtain ⟨r, z1, z2, e1, e2, hO⟩ := s_worth (xs (Int32.toNatClampNeg (v3 + 1))) (xs (Int32.toNatClampNeg (v3 + 2))) hR
    refine Win_gd hi1 ?_
    refine Win_gd hi2 ?_
    refine Win_bd e1 ?_
    refine Win_gd hi1 ?_
    refine Win_gd hi2 ?_
    exact Win_bd e2 (Win_ite (fun _ => hn _ hO) (fun q => absurd rfl q))
  refine Win_ite (fun _ => ?_) (fun _ => ?_)
  · obtain ⟨r, z1, z2, e1, e2, hO⟩ := s_slip (xs (Int32.toNatClampNeg (v3 + 1))) (xs (Int32.toNatClampNeg (v3 + 2))) (xs (Int32.toNatClampNeg (v3 + 3))) hR
    refine Win_gd hi1 ?_
    refine Win_gd hi2 ?_
    refine Win_gd hi3 ?_
    refine Win_bd e1 ?_
    refine Win_gd hi1 ?_
    refine Win_gd hi2 ?_
    refine Win_gd hi3 ?_
    exact Win_bd e2 (Win_ite (fun _ => hn _ hO) (fun q => absurd rfl q))
  refine Win_ite (fun _ => ?_) (fun _ => ?_)
  · obtain ⟨r, z1, z2, e1, e2, hO⟩ := s_cut (xs (Int32.toNatClampNeg (v3 + 1))) (xs (Int32.toNatClampNeg (v3 + 2))) (xs (Int32.toNatClampNeg (v3 + 3))) hR
    refine Win_gd hi1 ?_
    refine Win_gd hi2 ?_
    refine Win_gd hi3 ?_
    refine Win_bd e1 ?_
    refine Win_gd hi1 ?_
    refine Win_gd hi2 ?_
    refine Win_gd hi3 ?_
    exact Win_bd e2 (Win_ite (fun _ => hn _ hO) (fun q => absurd rfl q))
  refine Win_ite (fun _ => ?_) (fun _ => ?_)
  · obtain ⟨r, z1, z2, e1, e2, hO⟩ := s_give (xs (Int32.toNatClampNeg (v3 + 1))) (xs (Int32.toNatClampNeg (v3 + 2))) hR
    refine Win_gd hi1 ?_
    refine Win_gd hi2 ?_
    refine Win_bd e1 ?_
    refine Win_gd hi1 ?_
    refine Win_gd hi2 ?_
    exact Win_bd e2 (Win_ite (fun _ => hn _ hO) (fun q => absurd rfl q))
  refine Win_ite (fun _ => ?_) (fun _ => ?_)
  · obtain ⟨r, z1, z2, e1, e2, hO⟩ := s_back (xs (Int32.toNatClampNeg (v3 + 1))) hR
    refine Win_gd hi1 ?_
    refine Win_bd e1 ?_
    refine Win_gd hi1 ?_
    exact Win_bd e2 (Win_ite (fun _ => hn _ hO) (fun q => absurd rfl q))
  refine Win_ite (fun _ => ?_) (fun _ => ?_)
  · obtain ⟨r, z1, z2, e1, e2, hO⟩ := s_exchange (xs (Int32.toNatClampNeg (v3 + 1))) (xs (Int32.toNatClampNeg (v3 + 2))) hR
    refine Win_gd hi1 ?_
    refine Win_gd hi2 ?_
    refine Win_bd e1 ?_
    refine Win_gd hi1 ?_
    refine Win_gd hi2 ?_
    exact Win_bd e2 (Win_ite (fun _ => hn _ hO) (fun q => absurd rfl q))
  refine Win_ite (fun _ => ?_) (fun _ => ?_)
  · obtain ⟨r, z1, z2, e1, e2, hO⟩ := s_undo  hR
    refine Win_bd e1 ?_
    exact Win_bd e2 (Win_ite (fun _ => hn _ hO) (fun q => absurd rfl q))
  refine Win_ite (fun _ => ?_) (fun _ => ?_)
  · obtain ⟨r, z1, z2, e1, e2, hO⟩ := s_redo  hR
    refine Win_bd e1 ?_
    exact Win_bd e2 (Win_ite (fun _ => hn _ hO) (fun q => absurd rfl q))
  refine Win_ite (fun _ => ?_) (fun _ => ?_)
  · obtain ⟨r, z1, z2, e1, e2, hO⟩ := s_feeds (xs (Int32.toNatClampNeg (v3 + 1))) hR
    refine Win_gd hi1 ?_
    refine Win_bd e1 ?_
    refine Win_gd hi1 ?_
    exact Win_bd e2 (Win_ite (fun _ => hn _ hO) (fun q => absurd rfl q))
  refine Win_ite (fun _ => ?_) (fun _ => ?_)
  · obtain ⟨r, z1, z2, e1, e2, hO⟩ := s_served  hR
    refine Win_bd e1 ?_
    exact Win_bd e2 (Win_ite (fun _ => hn _ hO) (fun q => absurd rfl q))
  refine Win_ite (fun _ => ?_) (fun _ => ?_)
  · obtain ⟨r, z1, z2, e1, e2, hO⟩ := s_next (xs (Int32.toNatClampNeg (v3 + 1))) hR
    refine Win_gd hi1 ?_
    refine Win_bd e1 ?_
    refine Win_gd hi1 ?_
    exact Win_bd e2 (Win_ite (fun _ => hn _ hO) (fun q => absurd rfl q))
  refine Win_ite (fun _ => ?_) (fun _ => ?_)
  · obtain ⟨r, z1, z2, e1, e2, hO⟩ := s_envies (xs (Int32.toNatClampNeg (v3 + 1))) hR
    refine Win_gd hi1 ?_
    refine Win_bd e1 ?_
    refine Win_gd hi1 ?_
    exact Win_bd e2 (Win_ite (fun _ => hn _ hO) (fun q => absurd rfl q))
  refine Win_ite (fun _ => ?_) (fun _ => ?_)
  · obtain ⟨r, z1, z2, e1, e2, hO⟩ := s_quarrel  hR
    refine Win_bd e1 ?_
    exact Win_bd e2 (Win_ite (fun _ => hn _ hO) (fun q => absurd rfl q))
  refine Win_ite (fun _ => ?_) (fun _ => ?_)
  · obtain ⟨r, z1, z2, e1, e2, hO⟩ := s_calm (xs (Int32.toNatClampNeg (v3 + 1))) hR
    refine Win_gd hi1 ?_
    refine Win_bd e1 ?_
    refine Win_gd hi1 ?_
    exact Win_bd e2 (Win_ite (fun _ => hn _ hO) (fun q => absurd rfl q))
  refine Win_ite (fun _ => ?_) (fun _ => ?_)
  · obtain ⟨r, z1, z2, e1, e2, hO⟩ := s_halve (xs (Int32.toNatClampNeg (v3 + 1))) (xs (Int32.toNatClampNeg (v3 + 2))) (xs (Int32.toNatClampNeg (v3 + 3))) (xs (Int32.toNatClampNeg (v3 + 4))) hR
    refine Win_gd hi1 ?_
    refine Win_gd hi2 ?_
    refine Win_gd hi3 ?_
    refine Win_gd hi4 ?_
    refine Win_bd e1 ?_
    refine Win_gd hi1 ?_
    refine Win_gd hi2 ?_
    refine Win_gd hi3 ?_
    refine Win_gd hi4 ?_
    exact Win_bd e2 (Win_ite (fun _ => hn _ hO) (fun q => absurd rfl q))
  refine Win_ite (fun _ => ?_) (fun _ => ?_)
  · obtain ⟨r, z1, z2, e1, e2, hO⟩ := s_share (xs (Int32.toNatClampNeg (v3 + 1))) (xs (Int32.toNatClampNeg (v3 + 2))) (xs (Int32.toNatClampNeg (v3 + 3))) hR
    refine Win_gd hi1 ?_
    refine Win_gd hi2 ?_
    refine Win_gd hi3 ?_
    refine Win_bd e1 ?_
    refine Win_gd hi1 ?_
    refine Win_gd hi2 ?_
    refine Win_gd hi3 ?_
    exact Win_bd e2 (Win_ite (fun _ => hn _ hO) (fun q => absurd rfl q))
  refine Win_ite (fun _ => ?_) (fun _ => ?_)
  · obtain ⟨r, z1, z2, e1, e2, hO⟩ := s_picks  hR
    refine Win_bd e1 ?_
    exact Win_bd e2 (Win_ite (fun _ => hn _ hO) (fun q => absurd rfl q))
  refine Win_ite (fun _ => ?_) (fun _ => ?_)
  · obtain ⟨r, z1, z2, e1, e2, hO⟩ := s_order  hR
    refine Win_bd e1 ?_
    exact Win_bd e2 (Win_ite (fun _ => hn _ hO) (fun q => absurd rfl q))
  refine Win_ite (fun _ => ?_) (fun _ => ?_)
  · obtain ⟨r, z1, z2, e1, e2, hO⟩ := s_grid (xs (Int32.toNatClampNeg (v3 + 1))) (xs (Int32.toNatClampNeg (v3 + 2))) (xs (Int32.toNatClampNeg (v3 + 3))) hR
    refine Win_gd hi1 ?_
    refine Win_gd hi2 ?_
    refine Win_gd hi3 ?_
    refine Win_bd e1 ?_
    refine Win_gd hi1 ?_
    refine Win_gd hi2 ?_
    refine Win_gd hi3 ?_
    exact Win_bd e2 (Win_ite (fun _ => hn _ hO) (fun q => absurd rfl q))
  refine Win_ite (fun _ => ?_) (fun _ => ?_)
  · obtain ⟨r, z1, z2, e1, e2, hO⟩ := s_ways (xs (Int32.toNatClampNeg (v3 + 1))) (xs (Int32.toNatClampNeg (v3 + 2))) hR
    refine Win_gd hi1 ?_
    refine Win_gd hi2 ?_
    refine Win_bd e1 ?_
    refine Win_gd hi1 ?_
    refine Win_gd hi2 ?_
    exact Win_bd e2 (Win_ite (fun _ => hn _ hO) (fun q => absurd rfl q))
  refine Win_ite (fun _ => ?_) (fun _ => ?_)
  · obtain ⟨r, z1, z2, e1, e2, hO⟩ := s_most (xs (Int32.toNatClampNeg (v3 + 1))) (xs (Int32.toNatClampNeg (v3 + 2))) hR
    refine Win_gd hi1 ?_
    refine Win_gd hi2 ?_
    refine Win_bd e1 ?_
    refine Win_gd hi1 ?_
    refine Win_gd hi2 ?_
    exact Win_bd e2 (Win_ite (fun _ => hn _ hO) (fun q => absurd rfl q))
  refine Win_ite (fun _ => ?_) (fun _ => ?_)
  · obtain ⟨r, z1, z2, e1, e2, hO⟩ := s_room (xs (Int32.toNatClampNeg (v3 + 1))) hR
    refine Win_gd hi1 ?_
    refine Win_bd e1 ?_
    refine Win_gd hi1 ?_
    exact Win_bd e2 (Win_ite (fun _ => hn _ hO) (fun q => absurd rfl q))
  refine Win_ite (fun _ => ?_) (fun _ => ?_)
  · obtain ⟨r, z1, z2, e1, e2, hO⟩ := s_best (xs (Int32.toNatClampNeg (v3 + 1))) hR
    refine Win_gd hi1 ?_
    refine Win_bd e1 ?_
    refine Win_gd hi1 ?_
    exact Win_bd e2 (Win_ite (fun _ => hn _ hO) (fun q => absurd rfl q))
  refine Win_ite (fun _ => ?_) (fun _ => ?_)
  · obtain ⟨r, z1, z2, e1, e2, hO⟩ := s_where (xs (Int32.toNatClampNeg (v3 + 1))) (xs (Int32.toNatClampNeg (v3 + 2))) (xs (Int32.toNatClampNeg (v3 + 3))) hR
    refine Win_gd hi1 ?_
    refine Win_gd hi2 ?_
    refine Win_gd hi3 ?_
    refine Win_bd e1 ?_
    refine Win_gd hi1 ?_
    refine Win_gd hi2 ?_
    refine Win_gd hi3 ?_
    exact Win_bd e2 (Win_ite (fun _ => hn _ hO) (fun q => absurd rfl q))
  refine Win_ite (fun _ => ?_) (fun _ => ?_)
  · obtain ⟨r, z1, z2, e1, e2, hO⟩ := s_hungry  hR
    refine Win_bd e1 ?_
    exact Win_bd e2 (Win_ite (fun _ => hn _ hO) (fun q => absurd rfl q))
  refine Win_ite (fun _ => ?_) (fun _ => ?_)
  · obtain ⟨r, z1, z2, e1, e2, hO⟩ := s_law (xs (Int32.toNatClampNeg (v3 + 1))) hR
    refine Win_gd hi1 ?_
    refine Win_bd e1 ?_
    refine Win_gd hi1 ?_
    exact Win_bd e2 (Win_ite (fun _ => hn _ hO) (fun q => absurd rfl q))
  refine Win_ite (fun _ => ?_) (fun _ => ?_)
  · obtain ⟨r, z1, z2, e1, e2, hO⟩ := s_left  hR
    refine Win_bd e1 ?_
    exact Win_bd e2 (Win_ite (fun _ => hn _ hO) (fun q => absurd rfl q))
  refine Win_ite (fun _ => ?_) (fun _ => ?_)
  · obtain ⟨r, z1, z2, e1, e2, hO⟩ := s_iced (xs (Int32.toNatClampNeg (v3 + 1))) hR
    refine Win_gd hi1 ?_
    refine Win_bd e1 ?_
    refine Win_gd hi1 ?_
    exact Win_bd e2 (Win_ite (fun _ => hn _ hO) (fun q => absurd rfl q))
  refine Win_ite (fun _ => ?_) (fun _ => ?_)
  · obtain ⟨r, z1, z2, e1, e2, hO⟩ := s_come (xs (Int32.toNatClampNeg (v3 + 1))) (xs (Int32.toNatClampNeg (v3 + 2))) hR
    refine Win_gd hi1 ?_
    refine Win_gd hi2 ?_
    refine Win_bd e1 ?_
    refine Win_gd hi1 ?_
    refine Win_gd hi2 ?_
    exact Win_bd e2 (Win_ite (fun _ => hn _ hO) (fun q => absurd rfl q))
  refine Win_ite (fun _ => ?_) (fun _ => ?_)
  · obtain ⟨r, z1, z2, e1, e2, hO⟩ := s_lies (xs (Int32.toNatClampNeg (v3 + 1))) hR
    refine Win_gd hi1 ?_
    refine Win_bd e1 ?_
    refine Win_gd hi1 ?_
    exact Win_bd e2 (Win_ite (fun _ => hn _ hO) (fun q => absurd rfl q))
  refine Win_ite (fun _ => ?_) (fun _ => ?_)
  · refine Win_gd hi1 (Win_gd hi2 (Win_ite (fun h0 => ?_) (fun h0 => ?_)))
    · obtain ⟨r, z1, z2, e1, e2, hO⟩ := s_sized (xs (Int32.toNatClampNeg (v3 + 1))) 0 (Or.inl rfl) hR
      unfold fn_L_law_1239
      refine Win_bd e1 (Win_gd hi1 (Win_gd hi2 (Win_ite (fun h9 => ?_) (fun h9 => absurd h0 h9))))
      unfold fn_L_law_1261
      exact Win_bd e2 (Win_ite (fun _ => hn _ hO) (fun q => absurd rfl q))
    · obtain ⟨r, z1, z2, e1, e2, hO⟩ := s_sized (xs (Int32.toNatClampNeg (v3 + 1))) 1 (Or.inr rfl) hR
      unfold fn_L_law_1239
      refine Win_bd e1 (Win_gd hi1 (Win_gd hi2 (Win_ite (fun h9 => absurd h9 h0) (fun h9 => ?_))))
      unfold fn_L_law_1261
      exact Win_bd e2 (Win_ite (fun _ => hn _ hO) (fun q => absurd rfl q))
  refine Win_ite (fun _ => ?_) (fun _ => ?_)
  · refine Win_gd hi1 (Win_gd hi2 (Win_ite (fun h0 => ?_) (fun h0 => ?_)))
    · obtain ⟨r, z1, z2, e1, e2, hO⟩ := s_rimmed (xs (Int32.toNatClampNeg (v3 + 1))) 0 (Or.inl rfl) hR
      unfold fn_L_law_1288
      refine Win_bd e1 (Win_gd hi1 (Win_gd hi2 (Win_ite (fun h9 => ?_) (fun h9 => absurd h0 h9))))
      unfold fn_L_law_1310
      exact Win_bd e2 (Win_ite (fun _ => hn _ hO) (fun q => absurd rfl q))
    · obtain ⟨r, z1, z2, e1, e2, hO⟩ := s_rimmed (xs (Int32.toNatClampNeg (v3 + 1))) 1 (Or.inr rfl) hR
      unfold fn_L_law_1288
      refine Win_bd e1 (Win_gd hi1 (Win_gd hi2 (Win_ite (fun h9 => absurd h9 h0) (fun h9 => ?_))))
      unfold fn_L_law_1310
      exact Win_bd e2 (Win_ite (fun _ => hn _ hO) (fun q => absurd rfl q))
  refine Win_ite (fun _ => ?_) (fun _ => ?_)
  · obtain ⟨r, z1, z2, e1, e2, hO⟩ := s_untell (xs (Int32.toNatClampNeg (v3 + 1))) hR
    refine Win_gd hi1 ?_
    refine Win_bd e1 ?_
    refine Win_gd hi1 ?_
    exact Win_bd e2 (Win_ite (fun _ => hn _ hO) (fun q => absurd rfl q))
  refine Win_ite (fun _ => ?_) (fun _ => ?_)
  · obtain ⟨r, z1, z2, e1, e2, hO⟩ := s_later (xs (Int32.toNatClampNeg (v3 + 1))) hR
    refine Win_gd hi1 ?_
    refine Win_bd e1 ?_
    refine Win_gd hi1 ?_
    exact Win_bd e2 (Win_ite (fun _ => hn _ hO) (fun q => absurd rfl q))
  refine Win_ite (fun _ => ?_) (fun _ => ?_)
  · obtain ⟨r, z1, z2, e1, e2, hO⟩ := s_fits (xs (Int32.toNatClampNeg (v3 + 1))) hR
    refine Win_gd hi1 ?_
    refine Win_bd e1 ?_
    refine Win_gd hi1 ?_
    exact Win_bd e2 (Win_ite (fun _ => hn _ hO) (fun q => absurd rfl q))
  refine Win_ite (fun _ => ?_) (fun _ => ?_)
  · obtain ⟨r, z1, z2, e1, e2, hO⟩ := s_sure (xs (Int32.toNatClampNeg (v3 + 1))) (xs (Int32.toNatClampNeg (v3 + 2))) hR
    refine Win_gd hi1 ?_
    refine Win_gd hi2 ?_
    refine Win_bd e1 ?_
    refine Win_gd hi1 ?_
    refine Win_gd hi2 ?_
    exact Win_bd e2 (Win_ite (fun _ => hn _ hO) (fun q => absurd rfl q))
  refine Win_ite (fun _ => ?_) (fun _ => ?_)
  · obtain ⟨r, z1, z2, e1, e2, hO⟩ := s_ask (xs (Int32.toNatClampNeg (v3 + 1))) (xs (Int32.toNatClampNeg (v3 + 2))) hR
    refine Win_gd hi1 ?_
    refine Win_gd hi2 ?_
    refine Win_bd e1 ?_
    refine Win_gd hi1 ?_
    refine Win_gd hi2 ?_
    exact Win_bd e2 (Win_ite (fun _ => hn _ hO) (fun q => absurd rfl q))
  refine Win_ite (fun _ => ?_) (fun _ => ?_)
  · obtain ⟨r, z1, z2, e1, e2, hO⟩ := s_image (xs (Int32.toNatClampNeg (v3 + 1))) hR
    refine Win_gd hi1 ?_
    refine Win_bd e1 ?_
    refine Win_gd hi1 ?_
    exact Win_bd e2 (Win_ite (fun _ => hn _ hO) (fun q => absurd rfl q))
  refine Win_ite (fun _ => ?_) (fun _ => ?_)
  · obtain ⟨r, z1, z2, e1, e2, hO⟩ := s_restore (xs (Int32.toNatClampNeg (v3 + 1))) hR
    refine Win_gd hi1 ?_
    refine Win_bd e1 ?_
    refine Win_gd hi1 ?_
    exact Win_bd e2 (Win_ite (fun _ => hn _ hO) (fun q => absurd rfl q))
  refine Win_ite (fun _ => ?_) (fun _ => ?_)
  · obtain ⟨r, z1, z2, e1, e2, hO⟩ := s_about (xs (Int32.toNatClampNeg (v3 + 1))) hR
    refine Win_gd hi1 ?_
    refine Win_bd e1 ?_
    refine Win_gd hi1 ?_
    exact Win_bd e2 (Win_ite (fun _ => hn _ hO) (fun q => absurd rfl q))
  exact hn _ ⟨c, F0, F1, b, hR⟩
theorem fold_all {xs : Nat → Int32} {Ln : Nat} (hL : Ln ≤ 3072) : ∀ (n k : Nat) (z : St), k ≤ Ln → Ln < k + 6 * n → OKs z → Win (fn_L_law_18 xs Ln n (iI (k : Int)) z) := by
  intro n
  induction n with
  | zero => intro k z h1 h2 _; omega
  | succ n ih =>
    intro k z h1 h2 hO
    by_cases hc : ((Int32.ofNat Ln) - 6) < iI (k : Int)
    · rw [fn_L_law_18]
      exact Win_ite (fun _ => ⟨z, rfl⟩) (fun q => absurd hc q)
    · have hk : k + 6 ≤ Ln := by
        have e1 : (Int32.ofNat Ln) - 6 = iI ((Ln : Int) - 6) := by
          rw [iI_nat, show (6 : Int32) = iI 6 from by decide, iI_sub]
        rw [e1, iI_lt (by omega) (by omega)] at hc
        omega
      refine fold_step hL hk hO (fun z2 hz => ?_) hc
      have e2 : iI (k : Int) + 6 = iI ((k + 6 : Nat) : Int) := by
        rw [show (6 : Int32) = iI 6 from by decide, iI_add]
        rfl
      show Win (fn_L_law_18 xs Ln n (iI (k : Int) + 6) z2)
      rw [e2]
      exact ih (k + 6) z2 hk (by omega) hz
