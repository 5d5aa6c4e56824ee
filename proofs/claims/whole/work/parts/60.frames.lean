/-- two stores say the same of a slot -/
def SA (z w : St) (a k : Nat) : Prop := w.1 a k = z.1 a k ∧ w.2 a k = z.2 a k
theorem SA.rf {z : St} {a k : Nat} : SA z z a k := ⟨rfl, rfl⟩
theorem SA.tr {x y z : St} {a k : Nat} (h : SA x y a k) (g : SA y z a k) : SA x z a k := ⟨g.1.trans h.1, g.2.trans h.2⟩
theorem sa_I {z w : St} {a k p j : Nat} {v : Int32} (e : w = sI z p j v) (h : ¬ (a = p ∧ k = j)) : SA z w a k := by
  subst e
  refine ⟨?_, rfl⟩
  by_cases ha : a = p
  · have hk : ¬ k = j := fun q => h ⟨ha, q⟩
    simp [sI, hk]
  · simp [sI, ha]
theorem sa_Ia {z w : St} {a k p j : Nat} {v : Int32} (e : w = sI z p j v) (h : ¬ a = p) : SA z w a k := sa_I e (fun q => h q.1)
theorem sa_J {z w : St} {a k p j : Nat} {v : Int64} (e : w = sJ z p j v) (h : ¬ (a = p ∧ k = j)) : SA z w a k := by
  subst e
  refine ⟨rfl, ?_⟩
  by_cases ha : a = p
  · have hk : ¬ k = j := fun q => h ⟨ha, q⟩
    simp [sJ, hk]
  · simp [sJ, ha]
theorem sa_Ja {z w : St} {a k p j : Nat} {v : Int64} (e : w = sJ z p j v) (h : ¬ a = p) : SA z w a k := sa_J e (fun q => h q.1)
abbrev Nf_X0_forget (a k : Nat) : Prop := ¬ (a = 146 ∧ k = 9) ∧ ¬ (a = 146 ∧ k = 10)
abbrev Nf_X7_isTier (p0 : Nat) (a k : Nat) : Prop := True
abbrev Nf_X7_areaOf (p0 : Nat) (p1 : Nat) (a k : Nat) : Prop := True
abbrev Nf_X7_icingOf (p0 : Nat) (p1 : Nat) (a k : Nat) : Prop := True
abbrev Nf_X10_measure (p1 : Nat) (a k : Nat) : Prop := ¬ a = 144
abbrev Nf_X1_isPiece (p0 : Nat) (a k : Nat) : Prop := True
abbrev Nf_X2_truth (a k : Nat) : Prop := True
abbrev Nf_X2_joined (a k : Nat) : Prop := True
abbrev Nf_X2_outcome (p0 : Nat) (p1 : Nat) (a k : Nat) : Prop := ¬ a = p0 + 2
abbrev Nf_X9_along (p0 : Nat) (a k : Nat) : Prop := True
abbrev Nf_X10_slipOf (a k : Nat) : Prop := ¬ a = 144 ∧ ¬ a = 16
abbrev Nf_X1_lift (p0 : Nat) (a k : Nat) : Prop := ¬ (kd a = 9 ∧ k = 6) ∧ ¬ a = p0 + 26
abbrev Nf_X1_put (p0 : Nat) (a k : Nat) : Prop := ¬ (kd a = 9 ∧ k = 6) ∧ ¬ a = p0 + 26
abbrev Nf_X1_isFree (p0 : Nat) (a k : Nat) : Prop := True
abbrev Nf_X1_isCuttable (p0 : Nat) (a k : Nat) : Prop := True
abbrev Nf_X9_extent (p0 : Nat) (a k : Nat) : Prop := True
abbrev Nf_X1_canSplit (p0 : Nat) (a k : Nat) : Prop := True
abbrev Nf_X9_keepAhead (p0 : Nat) (a k : Nat) : Prop := ¬ (a = p0 ∧ k = 4) ∧ ¬ (a = p0 ∧ k = 3)
abbrev Nf_X9_keepBehind (p0 : Nat) (a k : Nat) : Prop := ¬ (a = p0 ∧ k = 2) ∧ ¬ (a = p0 ∧ k = 4) ∧ ¬ (a = p0 ∧ k = 1) ∧ ¬ (a = p0 ∧ k = 3)
abbrev Nf_X9_takeFrom (p0 : Nat) (p1 : Nat) (a k : Nat) : Prop := ¬ (a = p0 ∧ k = 0) ∧ ¬ (a = p0 ∧ k = 1) ∧ ¬ (a = p0 ∧ k = 2) ∧ ¬ (a = p0 ∧ k = 3) ∧ ¬ (a = p0 ∧ k = 4) ∧ ¬ (a = p0 ∧ k = 5) ∧ ¬ (a = p0 ∧ k = 6)
abbrev Nf_X1_split (p0 : Nat) (a k : Nat) : Prop := ¬ (a = p0 ∧ k = 3) ∧ ¬ (kd a = 9 ∧ k = 0) ∧ ¬ (kd a = 9 ∧ k = 1) ∧ ¬ (kd a = 9 ∧ k = 2) ∧ ¬ (kd a = 9 ∧ k = 3) ∧ ¬ (kd a = 9 ∧ k = 4) ∧ ¬ (kd a = 9 ∧ k = 5) ∧ ¬ (kd a = 9 ∧ k = 6) ∧ ¬ (a = p0 ∧ k = 2) ∧ ¬ (a = p0 ∧ k = 4)
abbrev Nf_X1_trade (p0 : Nat) (a k : Nat) : Prop := ¬ (kd a = 9 ∧ k = 6) ∧ ¬ a = p0 + 26
abbrev Nf_X0_carryOut (a k : Nat) : Prop := ¬ a = 144 ∧ ¬ a = 16 ∧ ¬ (a = 34 ∧ k = 3) ∧ ¬ (kd a = 9 ∧ k = 0) ∧ ¬ (kd a = 9 ∧ k = 1) ∧ ¬ (kd a = 9 ∧ k = 2) ∧ ¬ (kd a = 9 ∧ k = 3) ∧ ¬ (kd a = 9 ∧ k = 4) ∧ ¬ (kd a = 9 ∧ k = 5) ∧ ¬ (kd a = 9 ∧ k = 6) ∧ ¬ (a = 34 ∧ k = 2) ∧ ¬ (a = 34 ∧ k = 4) ∧ ¬ a = 60
abbrev Nf_X0_dropOldest (a k : Nat) : Prop := ¬ (a = 146 ∧ k = 9) ∧ ¬ a = 147 ∧ ¬ a = 148 ∧ ¬ a = 149 ∧ ¬ a = 150 ∧ ¬ a = 151 ∧ ¬ a = 152
abbrev Nf_X0_perform (a k : Nat) : Prop := ¬ a = 147 ∧ ¬ a = 148 ∧ ¬ a = 149 ∧ ¬ a = 150 ∧ ¬ a = 151 ∧ ¬ a = 152 ∧ ¬ a = 144 ∧ ¬ a = 16 ∧ ¬ (a = 34 ∧ k = 3) ∧ ¬ (kd a = 9 ∧ k = 0) ∧ ¬ (kd a = 9 ∧ k = 1) ∧ ¬ (kd a = 9 ∧ k = 2) ∧ ¬ (kd a = 9 ∧ k = 3) ∧ ¬ (kd a = 9 ∧ k = 4) ∧ ¬ (kd a = 9 ∧ k = 5) ∧ ¬ (kd a = 9 ∧ k = 6) ∧ ¬ (a = 34 ∧ k = 2) ∧ ¬ (a = 34 ∧ k = 4) ∧ ¬ a = 60 ∧ ¬ (a = 146 ∧ k = 9) ∧ ¬ (a = 146 ∧ k = 10)
abbrev Nf_X9_growBy (p0 : Nat) (a k : Nat) : Prop := ¬ (a = p0 ∧ k = 4) ∧ ¬ (a = p0 ∧ k = 3)
abbrev Nf_X1_rejoin (p0 : Nat) (a k : Nat) : Prop := ¬ (a = p0 ∧ k = 2) ∧ ¬ (kd a = 9 ∧ k = 4) ∧ ¬ (kd a = 9 ∧ k = 3)
abbrev Nf_X0_reverse (a k : Nat) : Prop := ¬ (a = 34 ∧ k = 2) ∧ ¬ (kd a = 9 ∧ k = 4) ∧ ¬ (kd a = 9 ∧ k = 3) ∧ ¬ (a = 34 ∧ k = 4) ∧ ¬ (a = 34 ∧ k = 3) ∧ ¬ (kd a = 9 ∧ k = 6) ∧ ¬ a = 60
abbrev Nf_X0_takeBack (a k : Nat) : Prop := ¬ (a = 146 ∧ k = 9) ∧ ¬ (a = 34 ∧ k = 2) ∧ ¬ (kd a = 9 ∧ k = 4) ∧ ¬ (kd a = 9 ∧ k = 3) ∧ ¬ (a = 34 ∧ k = 4) ∧ ¬ (a = 34 ∧ k = 3) ∧ ¬ (kd a = 9 ∧ k = 6) ∧ ¬ a = 60
abbrev Nf_X0_doAgain (a k : Nat) : Prop := ¬ a = 144 ∧ ¬ a = 16 ∧ ¬ (a = 34 ∧ k = 3) ∧ ¬ (kd a = 9 ∧ k = 0) ∧ ¬ (kd a = 9 ∧ k = 1) ∧ ¬ (kd a = 9 ∧ k = 2) ∧ ¬ (kd a = 9 ∧ k = 3) ∧ ¬ (kd a = 9 ∧ k = 4) ∧ ¬ (kd a = 9 ∧ k = 5) ∧ ¬ (kd a = 9 ∧ k = 6) ∧ ¬ (a = 34 ∧ k = 2) ∧ ¬ (a = 34 ∧ k = 4) ∧ ¬ a = 60 ∧ ¬ (a = 146 ∧ k = 9)
abbrev Nf_X9_layWhole (p0 : Nat) (a k : Nat) : Prop := ¬ (a = p0 ∧ k = 0) ∧ ¬ (a = p0 ∧ k = 1) ∧ ¬ (a = p0 ∧ k = 2) ∧ ¬ (a = p0 ∧ k = 3) ∧ ¬ (a = p0 ∧ k = 4) ∧ ¬ (a = p0 ∧ k = 5) ∧ ¬ (a = p0 ∧ k = 6)
abbrev Nf_X1_lay (p0 : Nat) (p1 : Nat) (a k : Nat) : Prop := ¬ (a = p0 ∧ k = 3) ∧ ¬ (a = p0 ∧ k = 4) ∧ ¬ a = p0 + 26 ∧ ¬ (a = p0 ∧ k = 2) ∧ ¬ (kd a = 9 ∧ k = 0) ∧ ¬ (kd a = 9 ∧ k = 1) ∧ ¬ (kd a = 9 ∧ k = 2) ∧ ¬ (kd a = 9 ∧ k = 3) ∧ ¬ (kd a = 9 ∧ k = 4) ∧ ¬ (kd a = 9 ∧ k = 5) ∧ ¬ (kd a = 9 ∧ k = 6)
abbrev Nf_X1_takeFrom (p0 : Nat) (p1 : Nat) (a k : Nat) : Prop := ¬ (a = p0 ∧ k = 2) ∧ ¬ (a = p0 ∧ k = 3) ∧ ¬ (a = p0 ∧ k = 4) ∧ ¬ a = p0 + 26 ∧ ¬ (kd a = 9 ∧ k = 0) ∧ ¬ (kd a = 9 ∧ k = 1) ∧ ¬ (kd a = 9 ∧ k = 2) ∧ ¬ (kd a = 9 ∧ k = 3) ∧ ¬ (kd a = 9 ∧ k = 4) ∧ ¬ (kd a = 9 ∧ k = 5) ∧ ¬ (kd a = 9 ∧ k = 6)
abbrev Nf_X1_platesFilled (p0 : Nat) (a k : Nat) : Prop := True
abbrev Nf_X1_brokenSet (p0 : Nat) (a k : Nat) : Prop := True
abbrev Nf_X2_add (p0 : Nat) (a k : Nat) : Prop := ¬ a = p0 + 1 ∧ ¬ (a = p0 ∧ k = 2)
abbrev Nf_X2_clear (p0 : Nat) (a k : Nat) : Prop := ¬ (a = p0 ∧ k = 2) ∧ ¬ (a = p0 ∧ k = 3) ∧ ¬ (a = p0 ∧ k = 4) ∧ ¬ a = p0 + 1
abbrev Nf_X2_begin (p0 : Nat) (a k : Nat) : Prop := ¬ (a = p0 ∧ k = 2) ∧ ¬ (a = p0 ∧ k = 4)
abbrev Nf_X2_takeFrom (p0 : Nat) (p1 : Nat) (a k : Nat) : Prop := ¬ (a = p0 ∧ k = 2) ∧ ¬ (a = p0 ∧ k = 3) ∧ ¬ (a = p0 ∧ k = 4) ∧ ¬ a = p0 + 1
abbrev Nf_X2_countUnit (p0 : Nat) (a k : Nat) : Prop := ¬ (a = p0 ∧ k = 3)
abbrev Nf_X3_canBe (a k : Nat) : Prop := True
abbrev Nf_X3_icingSet (a k : Nat) : Prop := True
abbrev Nf_X3_spreadOf (a k : Nat) : Prop := True
abbrev Nf_X3_search (a k : Nat) : Prop := ¬ (a = 161 ∧ k = 0) ∧ ¬ (a = 161 ∧ k = 1) ∧ ¬ (a = 161 ∧ k = 2) ∧ ¬ (a = 161 ∧ k = 3)
abbrev Nf_X4_forget (a k : Nat) : Prop := ¬ (a = 162 ∧ k = 11)
abbrev Nf_X4_tell (a k : Nat) : Prop := ¬ a = 163 ∧ ¬ a = 164 ∧ ¬ a = 165 ∧ ¬ a = 166 ∧ ¬ a = 167 ∧ ¬ (a = 162 ∧ k = 11)
abbrev Nf_X4_takeAway (a k : Nat) : Prop := ¬ a = 167
abbrev Nf_X4_goOn (a k : Nat) : Prop := ¬ (a = 162 ∧ k = 12)
abbrev Nf_X4_counts (a k : Nat) : Prop := True
abbrev Nf_X4_agrees (a k : Nat) : Prop := True
abbrev Nf_X4_gather (a k : Nat) : Prop := ¬ a = 168 ∧ ¬ a = 169 ∧ ¬ a = 170 ∧ ¬ (a = 162 ∧ k = 10)
abbrev Nf_X4_sameInAll (p1 : Nat) (a k : Nat) : Prop := True
abbrev Nf_X4_findQuestion (a k : Nat) : Prop := ¬ (a = 162 ∧ k = 13) ∧ ¬ (a = 162 ∧ k = 14)
abbrev Nf_X7_isGuest (p0 : Nat) (a k : Nat) : Prop := True
abbrev Nf_X10_ofSlab (p2 : Nat) (a k : Nat) : Prop := ¬ a = 144 ∧ ¬ a = 13
abbrev Nf_X5_findHalves (a k : Nat) : Prop := ¬ (a = 156 ∧ k = 14) ∧ ¬ (a = 156 ∧ k = 15) ∧ ¬ (a = 156 ∧ k = 12) ∧ ¬ (a = 156 ∧ k = 13) ∧ ¬ a = 144 ∧ ¬ a = 13 ∧ ¬ (a = 157 ∧ k = 0) ∧ ¬ (a = 157 ∧ k = 1) ∧ ¬ (a = 157 ∧ k = 2) ∧ ¬ (a = 157 ∧ k = 3) ∧ ¬ (a = 157 ∧ k = 4) ∧ ¬ (a = 157 ∧ k = 5) ∧ ¬ (a = 157 ∧ k = 6) ∧ ¬ (a = 158 ∧ k = 0) ∧ ¬ (a = 158 ∧ k = 1) ∧ ¬ (a = 158 ∧ k = 2) ∧ ¬ (a = 158 ∧ k = 3) ∧ ¬ (a = 158 ∧ k = 4) ∧ ¬ (a = 158 ∧ k = 5) ∧ ¬ (a = 158 ∧ k = 6)
abbrev Nf_X10_ofPiece (a k : Nat) : Prop := ¬ a = 144 ∧ ¬ a = 13
abbrev Nf_X5_prepare (a k : Nat) : Prop := ¬ a = 144 ∧ ¬ a = 13 ∧ ¬ a = 159 ∧ ¬ (a = 156 ∧ k = 9) ∧ ¬ (a = 156 ∧ k = 7) ∧ ¬ (a = 156 ∧ k = 8)
abbrev Nf_X5_pickOf (a k : Nat) : Prop := True
abbrev Nf_X5_without (a k : Nat) : Prop := True
abbrev Nf_J6_bitCount_0f7a4 (a k : Nat) : Prop := True
abbrev Nf_X5_pickByNumber (p1 : Nat) (a k : Nat) : Prop := ¬ a = p1 ∧ ¬ a = 144 ∧ ¬ a = 13 ∧ ¬ a = 159 ∧ ¬ (a = 156 ∧ k = 9) ∧ ¬ (a = 156 ∧ k = 7) ∧ ¬ (a = 156 ∧ k = 8)
abbrev Nf_X5_tryOrders (p1 : Nat) (a k : Nat) : Prop := ¬ a = p1 ∧ ¬ a = 160 ∧ ¬ (a = 156 ∧ k = 10) ∧ ¬ (a = 156 ∧ k = 11)
abbrev Nf_X5_findOrder (p1 : Nat) (a k : Nat) : Prop := ¬ a = 144 ∧ ¬ a = 13 ∧ ¬ a = 159 ∧ ¬ (a = 156 ∧ k = 9) ∧ ¬ (a = 156 ∧ k = 7) ∧ ¬ (a = 156 ∧ k = 8) ∧ ¬ (a = 156 ∧ k = 10) ∧ ¬ (a = 156 ∧ k = 11) ∧ ¬ a = p1 ∧ ¬ a = 160
abbrev Nf_X6_withLetter (a k : Nat) : Prop := True
abbrev Nf_X6_isBlank (a k : Nat) : Prop := True
abbrev Nf_X6_isDigit (a k : Nat) : Prop := True
abbrev Nf_X6_isLetter (a k : Nat) : Prop := True
abbrev Nf_X6_isMark (a k : Nat) : Prop := True
abbrev Nf_X6_signAt (a k : Nat) : Prop := True
abbrev Nf_X6_scanNumber (a k : Nat) : Prop := ¬ (a = 32 ∧ k = 5) ∧ ¬ (a = 32 ∧ k = 7) ∧ ¬ (a = 32 ∧ k = 4)
abbrev Nf_X6_scanWord (a k : Nat) : Prop := ¬ (a = 32 ∧ k = 9) ∧ ¬ (a = 32 ∧ k = 5) ∧ ¬ (a = 32 ∧ k = 8) ∧ ¬ (a = 32 ∧ k = 4)
abbrev Nf_X6_advance (a k : Nat) : Prop := ¬ (a = 32 ∧ k = 5) ∧ ¬ (a = 32 ∧ k = 4) ∧ ¬ (a = 32 ∧ k = 6) ∧ ¬ (a = 32 ∧ k = 10) ∧ ¬ (a = 32 ∧ k = 7) ∧ ¬ (a = 32 ∧ k = 9) ∧ ¬ (a = 32 ∧ k = 8)
abbrev Nf_X6_isSign (a k : Nat) : Prop := True
abbrev Nf_X6_keepFault (a k : Nat) : Prop := ¬ (a = 32 ∧ k = 11) ∧ ¬ (a = 32 ∧ k = 12)
abbrev Nf_X6_refuse (a k : Nat) : Prop := ¬ (a = 32 ∧ k = 11) ∧ ¬ (a = 32 ∧ k = 12)
abbrev Nf_X6_expectSign (a k : Nat) : Prop := ¬ (a = 32 ∧ k = 11) ∧ ¬ (a = 32 ∧ k = 12) ∧ ¬ (a = 32 ∧ k = 5) ∧ ¬ (a = 32 ∧ k = 4) ∧ ¬ (a = 32 ∧ k = 6) ∧ ¬ (a = 32 ∧ k = 10) ∧ ¬ (a = 32 ∧ k = 7) ∧ ¬ (a = 32 ∧ k = 9) ∧ ¬ (a = 32 ∧ k = 8)
abbrev Nf_X6_numberWithin (a k : Nat) : Prop := ¬ (a = 32 ∧ k = 11) ∧ ¬ (a = 32 ∧ k = 12) ∧ ¬ (a = 32 ∧ k = 5) ∧ ¬ (a = 32 ∧ k = 4) ∧ ¬ (a = 32 ∧ k = 6) ∧ ¬ (a = 32 ∧ k = 10) ∧ ¬ (a = 32 ∧ k = 7) ∧ ¬ (a = 32 ∧ k = 9) ∧ ¬ (a = 32 ∧ k = 8)
abbrev Nf_X6_drawLine (a k : Nat) : Prop := ¬ (a = 32 ∧ k = 5) ∧ ¬ (a = 32 ∧ k = 4) ∧ ¬ (a = 32 ∧ k = 6) ∧ ¬ (a = 32 ∧ k = 10) ∧ ¬ (a = 32 ∧ k = 7) ∧ ¬ (a = 32 ∧ k = 9) ∧ ¬ (a = 32 ∧ k = 8) ∧ ¬ (a = 17 ∧ k = 15) ∧ ¬ (a = 32 ∧ k = 11) ∧ ¬ (a = 32 ∧ k = 12) ∧ ¬ (a = 17 ∧ k = 14)
abbrev Nf_X6_isKeyword (a k : Nat) : Prop := True
abbrev Nf_X6_plainUnit (a k : Nat) : Prop := True
abbrev Nf_X6_unit (p1 : Nat) (a k : Nat) : Prop := ¬ (a = 32 ∧ k = 11) ∧ ¬ (a = 32 ∧ k = 12) ∧ ¬ (a = 32 ∧ k = 5) ∧ ¬ (a = 32 ∧ k = 4) ∧ ¬ (a = 32 ∧ k = 6) ∧ ¬ (a = 32 ∧ k = 10) ∧ ¬ (a = 32 ∧ k = 7) ∧ ¬ (a = 32 ∧ k = 9) ∧ ¬ (a = 32 ∧ k = 8) ∧ ¬ a = p1 + 1 ∧ ¬ (a = p1 ∧ k = 2) ∧ ¬ (a = p1 ∧ k = 3)
abbrev Nf_X6_term (p1 : Nat) (a k : Nat) : Prop := ¬ (a = 32 ∧ k = 5) ∧ ¬ (a = 32 ∧ k = 4) ∧ ¬ (a = 32 ∧ k = 6) ∧ ¬ (a = 32 ∧ k = 10) ∧ ¬ (a = 32 ∧ k = 7) ∧ ¬ (a = 32 ∧ k = 9) ∧ ¬ (a = 32 ∧ k = 8) ∧ ¬ (a = 32 ∧ k = 11) ∧ ¬ (a = 32 ∧ k = 12) ∧ ¬ a = p1 + 1 ∧ ¬ (a = p1 ∧ k = 2) ∧ ¬ (a = p1 ∧ k = 3)
abbrev Nf_X6_sum (p1 : Nat) (a k : Nat) : Prop := ¬ (a = 32 ∧ k = 5) ∧ ¬ (a = 32 ∧ k = 4) ∧ ¬ (a = 32 ∧ k = 6) ∧ ¬ (a = 32 ∧ k = 10) ∧ ¬ (a = 32 ∧ k = 7) ∧ ¬ (a = 32 ∧ k = 9) ∧ ¬ (a = 32 ∧ k = 8) ∧ ¬ (a = 32 ∧ k = 11) ∧ ¬ (a = 32 ∧ k = 12) ∧ ¬ a = p1 + 1 ∧ ¬ (a = p1 ∧ k = 2) ∧ ¬ (a = p1 ∧ k = 3)
abbrev Nf_X6_relation (p1 : Nat) (a k : Nat) : Prop := ¬ (a = 32 ∧ k = 5) ∧ ¬ (a = 32 ∧ k = 4) ∧ ¬ (a = 32 ∧ k = 6) ∧ ¬ (a = 32 ∧ k = 10) ∧ ¬ (a = 32 ∧ k = 7) ∧ ¬ (a = 32 ∧ k = 9) ∧ ¬ (a = 32 ∧ k = 8) ∧ ¬ (a = 32 ∧ k = 11) ∧ ¬ (a = 32 ∧ k = 12) ∧ ¬ a = p1 + 1 ∧ ¬ (a = p1 ∧ k = 2) ∧ ¬ (a = p1 ∧ k = 3)
abbrev Nf_X6_one (p1 : Nat) (a k : Nat) : Prop := ¬ (a = 32 ∧ k = 5) ∧ ¬ (a = 32 ∧ k = 4) ∧ ¬ (a = 32 ∧ k = 6) ∧ ¬ (a = 32 ∧ k = 10) ∧ ¬ (a = 32 ∧ k = 7) ∧ ¬ (a = 32 ∧ k = 9) ∧ ¬ (a = 32 ∧ k = 8) ∧ ¬ a = p1 + 1 ∧ ¬ (a = p1 ∧ k = 2) ∧ ¬ (a = 32 ∧ k = 11) ∧ ¬ (a = 32 ∧ k = 12) ∧ ¬ (a = p1 ∧ k = 3)
abbrev Nf_X6_both (p1 : Nat) (a k : Nat) : Prop := ¬ (a = 32 ∧ k = 5) ∧ ¬ (a = 32 ∧ k = 4) ∧ ¬ (a = 32 ∧ k = 6) ∧ ¬ (a = 32 ∧ k = 10) ∧ ¬ (a = 32 ∧ k = 7) ∧ ¬ (a = 32 ∧ k = 9) ∧ ¬ (a = 32 ∧ k = 8) ∧ ¬ a = p1 + 1 ∧ ¬ (a = p1 ∧ k = 2) ∧ ¬ (a = 32 ∧ k = 11) ∧ ¬ (a = 32 ∧ k = 12) ∧ ¬ (a = p1 ∧ k = 3)
abbrev Nf_X6_either (p1 : Nat) (a k : Nat) : Prop := ¬ (a = 32 ∧ k = 5) ∧ ¬ (a = 32 ∧ k = 4) ∧ ¬ (a = 32 ∧ k = 6) ∧ ¬ (a = 32 ∧ k = 10) ∧ ¬ (a = 32 ∧ k = 7) ∧ ¬ (a = 32 ∧ k = 9) ∧ ¬ (a = 32 ∧ k = 8) ∧ ¬ a = p1 + 1 ∧ ¬ (a = p1 ∧ k = 2) ∧ ¬ (a = 32 ∧ k = 11) ∧ ¬ (a = 32 ∧ k = 12) ∧ ¬ (a = p1 ∧ k = 3)
abbrev Nf_X6_formulaLine (p1 : Nat) (a k : Nat) : Prop := ¬ (a = 32 ∧ k = 5) ∧ ¬ (a = 32 ∧ k = 4) ∧ ¬ (a = 32 ∧ k = 6) ∧ ¬ (a = 32 ∧ k = 10) ∧ ¬ (a = 32 ∧ k = 7) ∧ ¬ (a = 32 ∧ k = 9) ∧ ¬ (a = 32 ∧ k = 8) ∧ ¬ (a = p1 ∧ k = 2) ∧ ¬ (a = p1 ∧ k = 4) ∧ ¬ a = p1 + 1 ∧ ¬ (a = 32 ∧ k = 11) ∧ ¬ (a = 32 ∧ k = 12) ∧ ¬ (a = p1 ∧ k = 3)
abbrev Nf_X6_expectKeyword (a k : Nat) : Prop := ¬ (a = 32 ∧ k = 11) ∧ ¬ (a = 32 ∧ k = 12) ∧ ¬ (a = 32 ∧ k = 5) ∧ ¬ (a = 32 ∧ k = 4) ∧ ¬ (a = 32 ∧ k = 6) ∧ ¬ (a = 32 ∧ k = 10) ∧ ¬ (a = 32 ∧ k = 7) ∧ ¬ (a = 32 ∧ k = 9) ∧ ¬ (a = 32 ∧ k = 8)
abbrev Nf_X6_newName (p1 : Nat) (a k : Nat) : Prop := ¬ (a = 32 ∧ k = 11) ∧ ¬ (a = 32 ∧ k = 12) ∧ ¬ a = p1 ∧ ¬ (a = 32 ∧ k = 5) ∧ ¬ (a = 32 ∧ k = 4) ∧ ¬ (a = 32 ∧ k = 6) ∧ ¬ (a = 32 ∧ k = 10) ∧ ¬ (a = 32 ∧ k = 7) ∧ ¬ (a = 32 ∧ k = 9) ∧ ¬ (a = 32 ∧ k = 8)
abbrev Nf_X7_addGuest (p0 : Nat) (a k : Nat) : Prop := ¬ a = p0 + 6 ∧ ¬ a = p0 + 7 ∧ ¬ a = p0 + 8 ∧ ¬ (a = p0 ∧ k = 5)
abbrev Nf_X6_guestLine (a k : Nat) : Prop := ¬ (a = 32 ∧ k = 11) ∧ ¬ (a = 32 ∧ k = 12) ∧ ¬ (a = 32 ∧ k = 5) ∧ ¬ (a = 32 ∧ k = 4) ∧ ¬ (a = 32 ∧ k = 6) ∧ ¬ (a = 32 ∧ k = 10) ∧ ¬ (a = 32 ∧ k = 7) ∧ ¬ (a = 32 ∧ k = 9) ∧ ¬ (a = 32 ∧ k = 8) ∧ ¬ a = 23 ∧ ¬ a = 24 ∧ ¬ a = 25 ∧ ¬ (a = 17 ∧ k = 5) ∧ ¬ a = 22
abbrev Nf_X6_paceLine (a k : Nat) : Prop := ¬ (a = 32 ∧ k = 5) ∧ ¬ (a = 32 ∧ k = 4) ∧ ¬ (a = 32 ∧ k = 6) ∧ ¬ (a = 32 ∧ k = 10) ∧ ¬ (a = 32 ∧ k = 7) ∧ ¬ (a = 32 ∧ k = 9) ∧ ¬ (a = 32 ∧ k = 8) ∧ ¬ (a = 17 ∧ k = 13) ∧ ¬ (a = 32 ∧ k = 11) ∧ ¬ (a = 32 ∧ k = 12) ∧ ¬ (a = 17 ∧ k = 12)
abbrev Nf_X7_addTier (p0 : Nat) (a k : Nat) : Prop := ¬ a = p0 + 2 ∧ ¬ a = p0 + 3 ∧ ¬ a = p0 + 4 ∧ ¬ (a = p0 ∧ k = 0)
abbrev Nf_X6_tierLine (a k : Nat) : Prop := ¬ (a = 32 ∧ k = 5) ∧ ¬ (a = 32 ∧ k = 4) ∧ ¬ (a = 32 ∧ k = 6) ∧ ¬ (a = 32 ∧ k = 10) ∧ ¬ (a = 32 ∧ k = 7) ∧ ¬ (a = 32 ∧ k = 9) ∧ ¬ (a = 32 ∧ k = 8) ∧ ¬ (a = 32 ∧ k = 11) ∧ ¬ (a = 32 ∧ k = 12) ∧ ¬ a = 18 ∧ ¬ a = 19 ∧ ¬ a = 20 ∧ ¬ a = 21 ∧ ¬ (a = 17 ∧ k = 0)
abbrev Nf_X6_line (a k : Nat) : Prop := ¬ (a = 32 ∧ k = 5) ∧ ¬ (a = 32 ∧ k = 4) ∧ ¬ (a = 32 ∧ k = 6) ∧ ¬ (a = 32 ∧ k = 10) ∧ ¬ (a = 32 ∧ k = 7) ∧ ¬ (a = 32 ∧ k = 9) ∧ ¬ (a = 32 ∧ k = 8) ∧ ¬ (a = 32 ∧ k = 11) ∧ ¬ (a = 32 ∧ k = 12) ∧ ¬ a = 18 ∧ ¬ a = 19 ∧ ¬ a = 20 ∧ ¬ a = 21 ∧ ¬ (a = 17 ∧ k = 0) ∧ ¬ a = 23 ∧ ¬ a = 24 ∧ ¬ a = 25 ∧ ¬ (a = 17 ∧ k = 5) ∧ ¬ a = 22 ∧ ¬ (a = 26 ∧ k = 2) ∧ ¬ (a = 26 ∧ k = 4) ∧ ¬ a = 27 ∧ ¬ (a = 26 ∧ k = 3) ∧ ¬ (a = 29 ∧ k = 2) ∧ ¬ (a = 29 ∧ k = 4) ∧ ¬ a = 30 ∧ ¬ (a = 29 ∧ k = 3) ∧ ¬ (a = 17 ∧ k = 13) ∧ ¬ (a = 17 ∧ k = 12) ∧ ¬ (a = 17 ∧ k = 15) ∧ ¬ (a = 17 ∧ k = 14)
abbrev Nf_X7_clear (p0 : Nat) (a k : Nat) : Prop := ¬ (a = p0 ∧ k = 0) ∧ ¬ (a = p0 ∧ k = 5) ∧ ¬ (a = p0 + 9 ∧ k = 2) ∧ ¬ (a = p0 + 9 ∧ k = 3) ∧ ¬ (a = p0 + 9 ∧ k = 4) ∧ ¬ kd a = 14 ∧ ¬ (a = p0 + 12 ∧ k = 2) ∧ ¬ (a = p0 + 12 ∧ k = 3) ∧ ¬ (a = p0 + 12 ∧ k = 4) ∧ ¬ (a = p0 ∧ k = 12) ∧ ¬ (a = p0 ∧ k = 13) ∧ ¬ (a = p0 ∧ k = 14) ∧ ¬ (a = p0 ∧ k = 15)
abbrev Nf_X6_readAll (a k : Nat) : Prop := ¬ (a = 32 ∧ k = 5) ∧ ¬ (a = 32 ∧ k = 4) ∧ ¬ (a = 32 ∧ k = 6) ∧ ¬ (a = 32 ∧ k = 10) ∧ ¬ (a = 32 ∧ k = 7) ∧ ¬ (a = 32 ∧ k = 9) ∧ ¬ (a = 32 ∧ k = 8) ∧ ¬ (a = 32 ∧ k = 11) ∧ ¬ (a = 32 ∧ k = 12) ∧ ¬ a = 18 ∧ ¬ a = 19 ∧ ¬ a = 20 ∧ ¬ a = 21 ∧ ¬ (a = 17 ∧ k = 0) ∧ ¬ a = 23 ∧ ¬ a = 24 ∧ ¬ a = 25 ∧ ¬ (a = 17 ∧ k = 5) ∧ ¬ a = 22 ∧ ¬ (a = 26 ∧ k = 2) ∧ ¬ (a = 26 ∧ k = 4) ∧ ¬ a = 27 ∧ ¬ (a = 26 ∧ k = 3) ∧ ¬ (a = 29 ∧ k = 2) ∧ ¬ (a = 29 ∧ k = 4) ∧ ¬ a = 30 ∧ ¬ (a = 29 ∧ k = 3) ∧ ¬ (a = 17 ∧ k = 13) ∧ ¬ (a = 17 ∧ k = 12) ∧ ¬ (a = 17 ∧ k = 15) ∧ ¬ (a = 17 ∧ k = 14) ∧ ¬ (a = 32 ∧ k = 3) ∧ ¬ kd a = 14
abbrev Nf_X7_takeFrom (p0 : Nat) (p1 : Nat) (a k : Nat) : Prop := ¬ (a = p0 + 9 ∧ k = 2) ∧ ¬ (a = p0 + 9 ∧ k = 3) ∧ ¬ (a = p0 + 9 ∧ k = 4) ∧ ¬ kd a = 14 ∧ ¬ (a = p0 + 12 ∧ k = 2) ∧ ¬ (a = p0 + 12 ∧ k = 3) ∧ ¬ (a = p0 + 12 ∧ k = 4) ∧ ¬ (a = p0 ∧ k = 12) ∧ ¬ (a = p0 ∧ k = 14) ∧ ¬ a = p0 + 6 ∧ ¬ a = p0 + 7 ∧ ¬ a = p0 + 8 ∧ ¬ (a = p0 ∧ k = 5) ∧ ¬ a = p0 + 2 ∧ ¬ a = p0 + 3 ∧ ¬ a = p0 + 4 ∧ ¬ (a = p0 ∧ k = 0)
abbrev Nf_X8_feeders (a k : Nat) : Prop := True
abbrev Nf_X8_matched (a k : Nat) : Prop := True
abbrev Nf_X8_addWanted (a k : Nat) : Prop := ¬ a = 154 ∧ ¬ (a = 153 ∧ k = 4)
abbrev Nf_X8_count (a k : Nat) : Prop := ¬ a = 155
abbrev Nf_X8_prepare (a k : Nat) : Prop := ¬ a = 155 ∧ ¬ a = 154 ∧ ¬ (a = 153 ∧ k = 4)
abbrev Nf_X8_servedIf (a k : Nat) : Prop := ¬ a = 155 ∧ ¬ a = 154 ∧ ¬ (a = 153 ∧ k = 4)
abbrev Nf_X8_tryCuts (a k : Nat) : Prop := ¬ (a = 153 ∧ k = 5) ∧ ¬ (a = 153 ∧ k = 6) ∧ ¬ (a = 153 ∧ k = 7) ∧ ¬ (a = 153 ∧ k = 8) ∧ ¬ a = 155
abbrev Nf_X8_findCut (a k : Nat) : Prop := ¬ a = 155 ∧ ¬ (a = 153 ∧ k = 5) ∧ ¬ (a = 153 ∧ k = 6) ∧ ¬ (a = 153 ∧ k = 7) ∧ ¬ (a = 153 ∧ k = 8) ∧ ¬ a = 154 ∧ ¬ (a = 153 ∧ k = 4)
abbrev Nf_X8_roomOf (a k : Nat) : Prop := ¬ a = 155 ∧ ¬ a = 154 ∧ ¬ (a = 153 ∧ k = 4)
abbrev Nf_X9_holds (p0 : Nat) (a k : Nat) : Prop := True
abbrev Nf_X10_enviedBy (a k : Nat) : Prop := ¬ a = 144 ∧ ¬ a = 13
abbrev Nf_X10_exchanged (a k : Nat) : Prop := True
abbrev Nf_X10_enviesAfter (a k : Nat) : Prop := True
abbrev Nf_X10_findCalm (a k : Nat) : Prop := ¬ a = 144 ∧ ¬ a = 13 ∧ ¬ a = 145 ∧ ¬ (a = 143 ∧ k = 4) ∧ ¬ (a = 143 ∧ k = 5) ∧ ¬ (a = 143 ∧ k = 6)
abbrev Nf_X11_putOnTape (a k : Nat) : Prop := ¬ a = 1 ∧ ¬ (a = 0 ∧ k = 1)
abbrev Nf_X11_feed (a k : Nat) : Prop := ¬ a = 1 ∧ ¬ (a = 0 ∧ k = 1)
abbrev Nf_X11_end (a k : Nat) : Prop := ¬ (a = 0 ∧ k = 1)
abbrev Nf_X11_cake (a k : Nat) : Prop := ¬ (a = 146 ∧ k = 9) ∧ ¬ (a = 146 ∧ k = 10) ∧ ¬ (a = 162 ∧ k = 11) ∧ ¬ (a = 0 ∧ k = 14) ∧ ¬ (kd a = 1 ∧ k = 5) ∧ ¬ (a = 32 ∧ k = 5) ∧ ¬ (a = 32 ∧ k = 4) ∧ ¬ (a = 32 ∧ k = 6) ∧ ¬ (a = 32 ∧ k = 10) ∧ ¬ (a = 32 ∧ k = 7) ∧ ¬ (a = 32 ∧ k = 9) ∧ ¬ (a = 32 ∧ k = 8) ∧ ¬ (a = 32 ∧ k = 11) ∧ ¬ (a = 32 ∧ k = 12) ∧ ¬ a = 18 ∧ ¬ a = 19 ∧ ¬ a = 20 ∧ ¬ a = 21 ∧ ¬ (a = 17 ∧ k = 0) ∧ ¬ a = 23 ∧ ¬ a = 24 ∧ ¬ a = 25 ∧ ¬ (a = 17 ∧ k = 5) ∧ ¬ a = 22 ∧ ¬ (a = 26 ∧ k = 2) ∧ ¬ (a = 26 ∧ k = 4) ∧ ¬ a = 27 ∧ ¬ (a = 26 ∧ k = 3) ∧ ¬ (a = 29 ∧ k = 2) ∧ ¬ (a = 29 ∧ k = 4) ∧ ¬ a = 30 ∧ ¬ (a = 29 ∧ k = 3) ∧ ¬ (a = 17 ∧ k = 13) ∧ ¬ (a = 17 ∧ k = 12) ∧ ¬ (a = 17 ∧ k = 15) ∧ ¬ (a = 17 ∧ k = 14) ∧ ¬ (a = 32 ∧ k = 3) ∧ ¬ kd a = 14 ∧ ¬ (a = 0 ∧ k = 1) ∧ ¬ (a = 11 ∧ k = 2) ∧ ¬ (a = 11 ∧ k = 3) ∧ ¬ (a = 11 ∧ k = 4) ∧ ¬ (a = 14 ∧ k = 2) ∧ ¬ (a = 14 ∧ k = 3) ∧ ¬ (a = 14 ∧ k = 4) ∧ ¬ (a = 2 ∧ k = 12) ∧ ¬ (a = 2 ∧ k = 14) ∧ ¬ a = 8 ∧ ¬ a = 9 ∧ ¬ a = 10 ∧ ¬ (a = 2 ∧ k = 5) ∧ ¬ a = 4 ∧ ¬ a = 5 ∧ ¬ a = 6 ∧ ¬ (a = 2 ∧ k = 0) ∧ ¬ (a = 34 ∧ k = 3) ∧ ¬ (a = 34 ∧ k = 4) ∧ ¬ a = 60 ∧ ¬ (a = 34 ∧ k = 2) ∧ ¬ (kd a = 9 ∧ k = 0) ∧ ¬ (kd a = 9 ∧ k = 1) ∧ ¬ (kd a = 9 ∧ k = 2) ∧ ¬ (kd a = 9 ∧ k = 3) ∧ ¬ (kd a = 9 ∧ k = 4) ∧ ¬ (kd a = 9 ∧ k = 5) ∧ ¬ (kd a = 9 ∧ k = 6)
abbrev Nf_X11_fault (a k : Nat) : Prop := True
abbrev Nf_X11_piece (a k : Nat) : Prop := True
abbrev Nf_X11_guest (a k : Nat) : Prop := ¬ a = 144 ∧ ¬ a = 13
abbrev Nf_X11_worth (a k : Nat) : Prop := ¬ a = 144 ∧ ¬ a = 13
abbrev Nf_X11_slip (a k : Nat) : Prop := ¬ a = 144 ∧ ¬ a = 16
abbrev Nf_X11_cut (a k : Nat) : Prop := ¬ a = 147 ∧ ¬ a = 148 ∧ ¬ a = 149 ∧ ¬ a = 150 ∧ ¬ a = 151 ∧ ¬ a = 152 ∧ ¬ a = 144 ∧ ¬ a = 16 ∧ ¬ (a = 34 ∧ k = 3) ∧ ¬ (kd a = 9 ∧ k = 0) ∧ ¬ (kd a = 9 ∧ k = 1) ∧ ¬ (kd a = 9 ∧ k = 2) ∧ ¬ (kd a = 9 ∧ k = 3) ∧ ¬ (kd a = 9 ∧ k = 4) ∧ ¬ (kd a = 9 ∧ k = 5) ∧ ¬ (kd a = 9 ∧ k = 6) ∧ ¬ (a = 34 ∧ k = 2) ∧ ¬ (a = 34 ∧ k = 4) ∧ ¬ a = 60 ∧ ¬ (a = 146 ∧ k = 9) ∧ ¬ (a = 146 ∧ k = 10)
abbrev Nf_X11_give (a k : Nat) : Prop := ¬ a = 147 ∧ ¬ a = 148 ∧ ¬ a = 149 ∧ ¬ a = 150 ∧ ¬ a = 151 ∧ ¬ a = 152 ∧ ¬ a = 144 ∧ ¬ a = 16 ∧ ¬ (a = 34 ∧ k = 3) ∧ ¬ (kd a = 9 ∧ k = 0) ∧ ¬ (kd a = 9 ∧ k = 1) ∧ ¬ (kd a = 9 ∧ k = 2) ∧ ¬ (kd a = 9 ∧ k = 3) ∧ ¬ (kd a = 9 ∧ k = 4) ∧ ¬ (kd a = 9 ∧ k = 5) ∧ ¬ (kd a = 9 ∧ k = 6) ∧ ¬ (a = 34 ∧ k = 2) ∧ ¬ (a = 34 ∧ k = 4) ∧ ¬ a = 60 ∧ ¬ (a = 146 ∧ k = 9) ∧ ¬ (a = 146 ∧ k = 10)
abbrev Nf_X11_back (a k : Nat) : Prop := ¬ a = 147 ∧ ¬ a = 148 ∧ ¬ a = 149 ∧ ¬ a = 150 ∧ ¬ a = 151 ∧ ¬ a = 152 ∧ ¬ a = 144 ∧ ¬ a = 16 ∧ ¬ (a = 34 ∧ k = 3) ∧ ¬ (kd a = 9 ∧ k = 0) ∧ ¬ (kd a = 9 ∧ k = 1) ∧ ¬ (kd a = 9 ∧ k = 2) ∧ ¬ (kd a = 9 ∧ k = 3) ∧ ¬ (kd a = 9 ∧ k = 4) ∧ ¬ (kd a = 9 ∧ k = 5) ∧ ¬ (kd a = 9 ∧ k = 6) ∧ ¬ (a = 34 ∧ k = 2) ∧ ¬ (a = 34 ∧ k = 4) ∧ ¬ a = 60 ∧ ¬ (a = 146 ∧ k = 9) ∧ ¬ (a = 146 ∧ k = 10)
abbrev Nf_X11_areTwoGuests (a k : Nat) : Prop := True
abbrev Nf_X11_exchange (a k : Nat) : Prop := ¬ a = 147 ∧ ¬ a = 148 ∧ ¬ a = 149 ∧ ¬ a = 150 ∧ ¬ a = 151 ∧ ¬ a = 152 ∧ ¬ a = 144 ∧ ¬ a = 16 ∧ ¬ (a = 34 ∧ k = 3) ∧ ¬ (kd a = 9 ∧ k = 0) ∧ ¬ (kd a = 9 ∧ k = 1) ∧ ¬ (kd a = 9 ∧ k = 2) ∧ ¬ (kd a = 9 ∧ k = 3) ∧ ¬ (kd a = 9 ∧ k = 4) ∧ ¬ (kd a = 9 ∧ k = 5) ∧ ¬ (kd a = 9 ∧ k = 6) ∧ ¬ (a = 34 ∧ k = 2) ∧ ¬ (a = 34 ∧ k = 4) ∧ ¬ a = 60 ∧ ¬ (a = 146 ∧ k = 9) ∧ ¬ (a = 146 ∧ k = 10)
abbrev Nf_X11_undo (a k : Nat) : Prop := ¬ (a = 146 ∧ k = 9) ∧ ¬ (a = 34 ∧ k = 2) ∧ ¬ (kd a = 9 ∧ k = 4) ∧ ¬ (kd a = 9 ∧ k = 3) ∧ ¬ (a = 34 ∧ k = 4) ∧ ¬ (a = 34 ∧ k = 3) ∧ ¬ (kd a = 9 ∧ k = 6) ∧ ¬ a = 60
abbrev Nf_X11_redo (a k : Nat) : Prop := ¬ a = 144 ∧ ¬ a = 16 ∧ ¬ (a = 34 ∧ k = 3) ∧ ¬ (kd a = 9 ∧ k = 0) ∧ ¬ (kd a = 9 ∧ k = 1) ∧ ¬ (kd a = 9 ∧ k = 2) ∧ ¬ (kd a = 9 ∧ k = 3) ∧ ¬ (kd a = 9 ∧ k = 4) ∧ ¬ (kd a = 9 ∧ k = 5) ∧ ¬ (kd a = 9 ∧ k = 6) ∧ ¬ (a = 34 ∧ k = 2) ∧ ¬ (a = 34 ∧ k = 4) ∧ ¬ a = 60 ∧ ¬ (a = 146 ∧ k = 9)
abbrev Nf_X11_feeds (a k : Nat) : Prop := True
abbrev Nf_X11_served (a k : Nat) : Prop := ¬ a = 155 ∧ ¬ a = 154 ∧ ¬ (a = 153 ∧ k = 4)
abbrev Nf_X11_next (a k : Nat) : Prop := ¬ a = 155 ∧ ¬ (a = 153 ∧ k = 5) ∧ ¬ (a = 153 ∧ k = 6) ∧ ¬ (a = 153 ∧ k = 7) ∧ ¬ (a = 153 ∧ k = 8) ∧ ¬ a = 154 ∧ ¬ (a = 153 ∧ k = 4)
abbrev Nf_X11_room (a k : Nat) : Prop := ¬ a = 155 ∧ ¬ a = 154 ∧ ¬ (a = 153 ∧ k = 4)
abbrev Nf_X11_hungry (a k : Nat) : Prop := True
abbrev Nf_X11_law (a k : Nat) : Prop := ¬ a = 155 ∧ ¬ a = 154 ∧ ¬ (a = 153 ∧ k = 4)
abbrev Nf_X11_envies (a k : Nat) : Prop := ¬ a = 144 ∧ ¬ a = 13
abbrev Nf_X11_quarrel (a k : Nat) : Prop := ¬ a = 144 ∧ ¬ a = 13
abbrev Nf_X11_calm (a k : Nat) : Prop := ¬ a = 144 ∧ ¬ a = 13 ∧ ¬ a = 145 ∧ ¬ (a = 143 ∧ k = 4) ∧ ¬ (a = 143 ∧ k = 5) ∧ ¬ (a = 143 ∧ k = 6)
abbrev Nf_X11_halve (a k : Nat) : Prop := ¬ (a = 156 ∧ k = 14) ∧ ¬ (a = 156 ∧ k = 15) ∧ ¬ (a = 156 ∧ k = 12) ∧ ¬ (a = 156 ∧ k = 13) ∧ ¬ a = 144 ∧ ¬ a = 13 ∧ ¬ (a = 157 ∧ k = 0) ∧ ¬ (a = 157 ∧ k = 1) ∧ ¬ (a = 157 ∧ k = 2) ∧ ¬ (a = 157 ∧ k = 3) ∧ ¬ (a = 157 ∧ k = 4) ∧ ¬ (a = 157 ∧ k = 5) ∧ ¬ (a = 157 ∧ k = 6) ∧ ¬ (a = 158 ∧ k = 0) ∧ ¬ (a = 158 ∧ k = 1) ∧ ¬ (a = 158 ∧ k = 2) ∧ ¬ (a = 158 ∧ k = 3) ∧ ¬ (a = 158 ∧ k = 4) ∧ ¬ (a = 158 ∧ k = 5) ∧ ¬ (a = 158 ∧ k = 6)
abbrev Nf_X11_share (a k : Nat) : Prop := ¬ (a = 156 ∧ k = 14) ∧ ¬ (a = 156 ∧ k = 15) ∧ ¬ (a = 156 ∧ k = 12) ∧ ¬ (a = 156 ∧ k = 13) ∧ ¬ a = 144 ∧ ¬ a = 13 ∧ ¬ (a = 157 ∧ k = 0) ∧ ¬ (a = 157 ∧ k = 1) ∧ ¬ (a = 157 ∧ k = 2) ∧ ¬ (a = 157 ∧ k = 3) ∧ ¬ (a = 157 ∧ k = 4) ∧ ¬ (a = 157 ∧ k = 5) ∧ ¬ (a = 157 ∧ k = 6) ∧ ¬ (a = 158 ∧ k = 0) ∧ ¬ (a = 158 ∧ k = 1) ∧ ¬ (a = 158 ∧ k = 2) ∧ ¬ (a = 158 ∧ k = 3) ∧ ¬ (a = 158 ∧ k = 4) ∧ ¬ (a = 158 ∧ k = 5) ∧ ¬ (a = 158 ∧ k = 6)
abbrev Nf_X11_picks (a k : Nat) : Prop := ¬ (a = 0 ∧ k = 14) ∧ ¬ a = 171 ∧ ¬ a = 144 ∧ ¬ a = 13 ∧ ¬ a = 159 ∧ ¬ (a = 156 ∧ k = 9) ∧ ¬ (a = 156 ∧ k = 7) ∧ ¬ (a = 156 ∧ k = 8)
abbrev Nf_X11_order (a k : Nat) : Prop := ¬ a = 144 ∧ ¬ a = 13 ∧ ¬ a = 159 ∧ ¬ (a = 156 ∧ k = 9) ∧ ¬ (a = 156 ∧ k = 7) ∧ ¬ (a = 156 ∧ k = 8) ∧ ¬ (a = 156 ∧ k = 10) ∧ ¬ (a = 156 ∧ k = 11) ∧ ¬ a = 171 ∧ ¬ a = 160 ∧ ¬ (a = 0 ∧ k = 14)
abbrev Nf_X11_best (a k : Nat) : Prop := ¬ a = 144 ∧ ¬ a = 13
abbrev Nf_X11_lies (a k : Nat) : Prop := True
abbrev Nf_X11_canBeAlike (a k : Nat) : Prop := True
abbrev Nf_X11_grid (a k : Nat) : Prop := ¬ (a = 161 ∧ k = 0) ∧ ¬ (a = 161 ∧ k = 1) ∧ ¬ (a = 161 ∧ k = 2) ∧ ¬ (a = 161 ∧ k = 3)
abbrev Nf_X11_ways (a k : Nat) : Prop := ¬ (a = 161 ∧ k = 0) ∧ ¬ (a = 161 ∧ k = 1) ∧ ¬ (a = 161 ∧ k = 2) ∧ ¬ (a = 161 ∧ k = 3)
abbrev Nf_X11_most (a k : Nat) : Prop := ¬ (a = 161 ∧ k = 0) ∧ ¬ (a = 161 ∧ k = 1) ∧ ¬ (a = 161 ∧ k = 2) ∧ ¬ (a = 161 ∧ k = 3)
abbrev Nf_X11_where (a k : Nat) : Prop := True
abbrev Nf_X11_left (a k : Nat) : Prop := True
abbrev Nf_X11_iced (a k : Nat) : Prop := True
abbrev Nf_X11_commonDivisor (a k : Nat) : Prop := True
abbrev Nf_X11_come (a k : Nat) : Prop := True
abbrev Nf_X11_sized (a k : Nat) : Prop := ¬ a = 163 ∧ ¬ a = 164 ∧ ¬ a = 165 ∧ ¬ a = 166 ∧ ¬ a = 167 ∧ ¬ (a = 162 ∧ k = 11)
abbrev Nf_X11_rimmed (a k : Nat) : Prop := ¬ a = 163 ∧ ¬ a = 164 ∧ ¬ a = 165 ∧ ¬ a = 166 ∧ ¬ a = 167 ∧ ¬ (a = 162 ∧ k = 11)
abbrev Nf_X11_untell (a k : Nat) : Prop := ¬ a = 167
abbrev Nf_X11_later (a k : Nat) : Prop := ¬ (a = 162 ∧ k = 12)
abbrev Nf_X11_fits (a k : Nat) : Prop := ¬ a = 168 ∧ ¬ a = 169 ∧ ¬ a = 170 ∧ ¬ (a = 162 ∧ k = 10)
abbrev Nf_X11_sure (a k : Nat) : Prop := ¬ a = 168 ∧ ¬ a = 169 ∧ ¬ a = 170 ∧ ¬ (a = 162 ∧ k = 10)
abbrev Nf_X11_ask (a k : Nat) : Prop := ¬ a = 168 ∧ ¬ a = 169 ∧ ¬ a = 170 ∧ ¬ (a = 162 ∧ k = 10) ∧ ¬ (a = 162 ∧ k = 13) ∧ ¬ (a = 162 ∧ k = 14)
abbrev Nf_X11_image (a k : Nat) : Prop := ¬ (kd a = 1 ∧ k = 2) ∧ ¬ (kd a = 1 ∧ k = 3) ∧ ¬ (kd a = 1 ∧ k = 4) ∧ ¬ kd a = 14 ∧ ¬ (kd a = 9 ∧ k = 0) ∧ ¬ (kd a = 9 ∧ k = 1) ∧ ¬ (kd a = 9 ∧ k = 2) ∧ ¬ (kd a = 9 ∧ k = 3) ∧ ¬ (kd a = 9 ∧ k = 4) ∧ ¬ (kd a = 9 ∧ k = 5) ∧ ¬ (kd a = 9 ∧ k = 6) ∧ ¬ (kd a = 1 ∧ k = 5)
abbrev Nf_X11_restore (a k : Nat) : Prop := ¬ (a = 34 ∧ k = 2) ∧ ¬ (a = 34 ∧ k = 3) ∧ ¬ (a = 34 ∧ k = 4) ∧ ¬ a = 60 ∧ ¬ (kd a = 9 ∧ k = 0) ∧ ¬ (kd a = 9 ∧ k = 1) ∧ ¬ (kd a = 9 ∧ k = 2) ∧ ¬ (kd a = 9 ∧ k = 3) ∧ ¬ (kd a = 9 ∧ k = 4) ∧ ¬ (kd a = 9 ∧ k = 5) ∧ ¬ (kd a = 9 ∧ k = 6) ∧ ¬ (a = 146 ∧ k = 9) ∧ ¬ (a = 146 ∧ k = 10)
abbrev Nf_X11_about (a k : Nat) : Prop := True
abbrev Nf_X12_four (a k : Nat) : Prop := ¬ a = 173 ∧ ¬ (a = 172 ∧ k = 1)
abbrev Nf_X12_feed (a k : Nat) : Prop := ¬ a = 173 ∧ ¬ (a = 172 ∧ k = 1)
abbrev Nf_X12_end (a k : Nat) : Prop := ¬ (a = 172 ∧ k = 1)
abbrev Nf_X12_here (a k : Nat) : Prop := True
abbrev Nf_X12_isLetter (a k : Nat) : Prop := True
abbrev Nf_X12_isDigit (a k : Nat) : Prop := True
abbrev Nf_X12_isSign (a k : Nat) : Prop := True
abbrev Nf_X12_token (a k : Nat) : Prop := ¬ (a = 172 ∧ k = 4) ∧ ¬ (a = 172 ∧ k = 6) ∧ ¬ (a = 172 ∧ k = 9) ∧ ¬ (a = 172 ∧ k = 8) ∧ ¬ (a = 172 ∧ k = 7)
abbrev Nf_X12_wrong (a k : Nat) : Prop := ¬ (a = 172 ∧ k = 2) ∧ ¬ (a = 172 ∧ k = 3)
abbrev Nf_X12_isWord (a k : Nat) : Prop := True
abbrev Nf_X12_isOwn (a k : Nat) : Prop := True
abbrev Nf_X12_isName (a k : Nat) : Prop := True
abbrev Nf_X12_want (a k : Nat) : Prop := ¬ (a = 172 ∧ k = 4) ∧ ¬ (a = 172 ∧ k = 6) ∧ ¬ (a = 172 ∧ k = 9) ∧ ¬ (a = 172 ∧ k = 8) ∧ ¬ (a = 172 ∧ k = 7) ∧ ¬ (a = 172 ∧ k = 2) ∧ ¬ (a = 172 ∧ k = 3)
abbrev Nf_X12_toldNumber (a k : Nat) : Prop := ¬ (a = 172 ∧ k = 4) ∧ ¬ (a = 172 ∧ k = 6) ∧ ¬ (a = 172 ∧ k = 9) ∧ ¬ (a = 172 ∧ k = 8) ∧ ¬ (a = 172 ∧ k = 7) ∧ ¬ (a = 172 ∧ k = 2) ∧ ¬ (a = 172 ∧ k = 3)
abbrev Nf_X12_told (a k : Nat) : Prop := ¬ (a = 172 ∧ k = 4) ∧ ¬ (a = 172 ∧ k = 6) ∧ ¬ (a = 172 ∧ k = 9) ∧ ¬ (a = 172 ∧ k = 8) ∧ ¬ (a = 172 ∧ k = 7) ∧ ¬ (a = 172 ∧ k = 2) ∧ ¬ (a = 172 ∧ k = 3)
abbrev Nf_X12_option (a k : Nat) : Prop := ¬ (a = 172 ∧ k = 4) ∧ ¬ (a = 172 ∧ k = 6) ∧ ¬ (a = 172 ∧ k = 9) ∧ ¬ (a = 172 ∧ k = 8) ∧ ¬ (a = 172 ∧ k = 7) ∧ ¬ (a = 172 ∧ k = 2) ∧ ¬ (a = 172 ∧ k = 3)
abbrev Nf_X12_newName (a k : Nat) : Prop := ¬ a = 174 ∧ ¬ (a = 172 ∧ k = 4) ∧ ¬ (a = 172 ∧ k = 6) ∧ ¬ (a = 172 ∧ k = 9) ∧ ¬ (a = 172 ∧ k = 8) ∧ ¬ (a = 172 ∧ k = 7) ∧ ¬ (a = 172 ∧ k = 2) ∧ ¬ (a = 172 ∧ k = 3)
abbrev Nf_X12_add (a k : Nat) : Prop := ¬ a = 175 ∧ ¬ a = 176 ∧ ¬ a = 177
abbrev Nf_X12_tight (a k : Nat) : Prop := True
abbrev Nf_X12_close (a k : Nat) : Prop := ¬ (a = 172 ∧ k = 21) ∧ ¬ a = 175 ∧ ¬ a = 176 ∧ ¬ a = 177 ∧ ¬ (a = 172 ∧ k = 25)
abbrev Nf_X12_hasRelation (a k : Nat) : Prop := True
abbrev Nf_X12_mayNot (a k : Nat) : Prop := True
abbrev Nf_X12_asked (a k : Nat) : Prop := True
abbrev Nf_X12_isFull (a k : Nat) : Prop := True
abbrev Nf_X12_countUnit (a k : Nat) : Prop := ¬ (a = 172 ∧ k = 22) ∧ ¬ (a = 172 ∧ k = 24)
abbrev Nf_X12_openUp (a k : Nat) : Prop := ¬ a = 181 ∧ ¬ (a = 172 ∧ k = 21) ∧ ¬ (a = 172 ∧ k = 25) ∧ ¬ (a = 172 ∧ k = 4) ∧ ¬ (a = 172 ∧ k = 6) ∧ ¬ (a = 172 ∧ k = 9) ∧ ¬ (a = 172 ∧ k = 8) ∧ ¬ (a = 172 ∧ k = 7)
abbrev Nf_X12_unit (a k : Nat) : Prop := ¬ a = 181 ∧ ¬ (a = 172 ∧ k = 21) ∧ ¬ (a = 172 ∧ k = 25) ∧ ¬ (a = 172 ∧ k = 4) ∧ ¬ (a = 172 ∧ k = 6) ∧ ¬ (a = 172 ∧ k = 9) ∧ ¬ (a = 172 ∧ k = 8) ∧ ¬ (a = 172 ∧ k = 7) ∧ ¬ (a = 172 ∧ k = 22) ∧ ¬ (a = 172 ∧ k = 24) ∧ ¬ (a = 172 ∧ k = 2) ∧ ¬ (a = 172 ∧ k = 3) ∧ ¬ a = 175 ∧ ¬ a = 176 ∧ ¬ a = 177
abbrev Nf_X12_sign (a k : Nat) : Prop := True
abbrev Nf_X12_hasBracket (a k : Nat) : Prop := True
abbrev Nf_X12_formula (a k : Nat) : Prop := ¬ (a = 172 ∧ k = 21) ∧ ¬ a = 175 ∧ ¬ a = 176 ∧ ¬ a = 177 ∧ ¬ (a = 172 ∧ k = 25) ∧ ¬ a = 181 ∧ ¬ (a = 172 ∧ k = 4) ∧ ¬ (a = 172 ∧ k = 6) ∧ ¬ (a = 172 ∧ k = 9) ∧ ¬ (a = 172 ∧ k = 8) ∧ ¬ (a = 172 ∧ k = 7) ∧ ¬ (a = 172 ∧ k = 22) ∧ ¬ (a = 172 ∧ k = 24) ∧ ¬ (a = 172 ∧ k = 2) ∧ ¬ (a = 172 ∧ k = 3) ∧ ¬ (a = 172 ∧ k = 20) ∧ ¬ a = 183
abbrev Nf_X12_truth (a k : Nat) : Prop := True
abbrev Nf_X12_done (a k : Nat) : Prop := True
abbrev Nf_X12_worked (a k : Nat) : Prop := ¬ a = 182
abbrev Nf_X12_readTier (a k : Nat) : Prop := ¬ a = 174 ∧ ¬ (a = 172 ∧ k = 4) ∧ ¬ (a = 172 ∧ k = 6) ∧ ¬ (a = 172 ∧ k = 9) ∧ ¬ (a = 172 ∧ k = 8) ∧ ¬ (a = 172 ∧ k = 7) ∧ ¬ (a = 172 ∧ k = 2) ∧ ¬ (a = 172 ∧ k = 3) ∧ ¬ a = 185 ∧ ¬ a = 186 ∧ ¬ a = 187 ∧ ¬ (a = 172 ∧ k = 39)
abbrev Nf_X12_readGuest (a k : Nat) : Prop := ¬ a = 174 ∧ ¬ (a = 172 ∧ k = 4) ∧ ¬ (a = 172 ∧ k = 6) ∧ ¬ (a = 172 ∧ k = 9) ∧ ¬ (a = 172 ∧ k = 8) ∧ ¬ (a = 172 ∧ k = 7) ∧ ¬ (a = 172 ∧ k = 2) ∧ ¬ (a = 172 ∧ k = 3) ∧ ¬ a = 191 ∧ ¬ a = 192 ∧ ¬ a = 193 ∧ ¬ (a = 172 ∧ k = 40)
abbrev Nf_X12_readLine (a k : Nat) : Prop := ¬ (a = 172 ∧ k = 4) ∧ ¬ (a = 172 ∧ k = 6) ∧ ¬ (a = 172 ∧ k = 9) ∧ ¬ (a = 172 ∧ k = 8) ∧ ¬ (a = 172 ∧ k = 7) ∧ ¬ (a = 172 ∧ k = 2) ∧ ¬ (a = 172 ∧ k = 3) ∧ ¬ (a = 172 ∧ k = 47) ∧ ¬ (a = 172 ∧ k = 42) ∧ ¬ (a = 172 ∧ k = 46) ∧ ¬ (a = 172 ∧ k = 41) ∧ ¬ (a = 172 ∧ k = 21) ∧ ¬ a = 175 ∧ ¬ a = 176 ∧ ¬ a = 177 ∧ ¬ (a = 172 ∧ k = 25) ∧ ¬ a = 181 ∧ ¬ (a = 172 ∧ k = 22) ∧ ¬ (a = 172 ∧ k = 24) ∧ ¬ (a = 172 ∧ k = 20) ∧ ¬ a = 183 ∧ ¬ a = 174 ∧ ¬ a = 191 ∧ ¬ a = 192 ∧ ¬ a = 193 ∧ ¬ (a = 172 ∧ k = 40) ∧ ¬ a = 185 ∧ ¬ a = 186 ∧ ¬ a = 187 ∧ ¬ (a = 172 ∧ k = 39)
abbrev Nf_X12_readAll (a k : Nat) : Prop := ¬ (a = 172 ∧ k = 4) ∧ ¬ (a = 172 ∧ k = 6) ∧ ¬ (a = 172 ∧ k = 9) ∧ ¬ (a = 172 ∧ k = 8) ∧ ¬ (a = 172 ∧ k = 7) ∧ ¬ (a = 172 ∧ k = 2) ∧ ¬ (a = 172 ∧ k = 3) ∧ ¬ (a = 172 ∧ k = 47) ∧ ¬ (a = 172 ∧ k = 42) ∧ ¬ (a = 172 ∧ k = 46) ∧ ¬ (a = 172 ∧ k = 41) ∧ ¬ (a = 172 ∧ k = 21) ∧ ¬ a = 175 ∧ ¬ a = 176 ∧ ¬ a = 177 ∧ ¬ (a = 172 ∧ k = 25) ∧ ¬ a = 181 ∧ ¬ (a = 172 ∧ k = 22) ∧ ¬ (a = 172 ∧ k = 24) ∧ ¬ (a = 172 ∧ k = 20) ∧ ¬ a = 183 ∧ ¬ a = 174 ∧ ¬ a = 191 ∧ ¬ a = 192 ∧ ¬ a = 193 ∧ ¬ (a = 172 ∧ k = 40) ∧ ¬ a = 185 ∧ ¬ a = 186 ∧ ¬ a = 187 ∧ ¬ (a = 172 ∧ k = 39) ∧ ¬ (a = 172 ∧ k = 5) ∧ ¬ (a = 172 ∧ k = 1)
abbrev Nf_X12_cake (a k : Nat) : Prop := ¬ a = 178 ∧ ¬ a = 179 ∧ ¬ a = 180 ∧ ¬ a = 211 ∧ ¬ a = 197 ∧ ¬ (a = 172 ∧ k = 51) ∧ ¬ (a = 172 ∧ k = 52) ∧ ¬ (a = 172 ∧ k = 71) ∧ ¬ (a = 172 ∧ k = 65) ∧ ¬ a = 194 ∧ ¬ a = 195 ∧ ¬ a = 196 ∧ ¬ a = 188 ∧ ¬ a = 189 ∧ ¬ a = 190 ∧ ¬ (a = 172 ∧ k = 4) ∧ ¬ (a = 172 ∧ k = 6) ∧ ¬ (a = 172 ∧ k = 9) ∧ ¬ (a = 172 ∧ k = 8) ∧ ¬ (a = 172 ∧ k = 7) ∧ ¬ (a = 172 ∧ k = 2) ∧ ¬ (a = 172 ∧ k = 3) ∧ ¬ (a = 172 ∧ k = 47) ∧ ¬ (a = 172 ∧ k = 42) ∧ ¬ (a = 172 ∧ k = 46) ∧ ¬ (a = 172 ∧ k = 41) ∧ ¬ (a = 172 ∧ k = 21) ∧ ¬ a = 175 ∧ ¬ a = 176 ∧ ¬ a = 177 ∧ ¬ (a = 172 ∧ k = 25) ∧ ¬ a = 181 ∧ ¬ (a = 172 ∧ k = 22) ∧ ¬ (a = 172 ∧ k = 24) ∧ ¬ (a = 172 ∧ k = 20) ∧ ¬ a = 183 ∧ ¬ a = 174 ∧ ¬ a = 191 ∧ ¬ a = 192 ∧ ¬ a = 193 ∧ ¬ (a = 172 ∧ k = 40) ∧ ¬ a = 185 ∧ ¬ a = 186 ∧ ¬ a = 187 ∧ ¬ (a = 172 ∧ k = 39) ∧ ¬ (a = 172 ∧ k = 5) ∧ ¬ (a = 172 ∧ k = 1) ∧ ¬ (a = 172 ∧ k = 43) ∧ ¬ (a = 172 ∧ k = 44) ∧ ¬ (a = 172 ∧ k = 45) ∧ ¬ (a = 172 ∧ k = 23)
abbrev Nf_X12_fault (a k : Nat) : Prop := True
abbrev Nf_X12_isIn (a k : Nat) : Prop := True
abbrev Nf_X12_isTier (a k : Nat) : Prop := True
abbrev Nf_X12_isGuest (a k : Nat) : Prop := True
abbrev Nf_X12_isPiece (a k : Nat) : Prop := True
abbrev Nf_X12_load (a k : Nat) : Prop := ¬ a = 198
abbrev Nf_X12_areaOf (a k : Nat) : Prop := True
abbrev Nf_X12_icingOf (a k : Nat) : Prop := True
abbrev Nf_X12_askOf (a k : Nat) : Prop := ¬ a = 184
abbrev Nf_X12_worthOf (a k : Nat) : Prop := ¬ a = 184 ∧ ¬ a = 182
abbrev Nf_X12_isFree (a k : Nat) : Prop := True
abbrev Nf_X12_pieceOf (a k : Nat) : Prop := True
abbrev Nf_X12_canCut (a k : Nat) : Prop := True
abbrev Nf_X12_goCut (a k : Nat) : Prop := ¬ a = 198
abbrev Nf_X12_slipOf (a k : Nat) : Prop := ¬ a = 184 ∧ ¬ a = 182
abbrev Nf_X12_piece (a k : Nat) : Prop := ¬ a = 198
abbrev Nf_X12_guest (a k : Nat) : Prop := ¬ a = 198 ∧ ¬ a = 184 ∧ ¬ a = 182
abbrev Nf_X12_worth (a k : Nat) : Prop := ¬ a = 198 ∧ ¬ a = 184 ∧ ¬ a = 182
abbrev Nf_X12_slip (a k : Nat) : Prop := ¬ a = 198 ∧ ¬ a = 184 ∧ ¬ a = 182
abbrev Nf_X12_act (a k : Nat) : Prop := ¬ (a = 172 ∧ k = 51) ∧ ¬ (a = 172 ∧ k = 52) ∧ ¬ a = 199
abbrev Nf_X12_turnAbout (a k : Nat) : Prop := ¬ a = 199 ∧ ¬ a = 197
abbrev Nf_X12_cut (a k : Nat) : Prop := ¬ a = 197 ∧ ¬ a = 198 ∧ ¬ (a = 172 ∧ k = 51) ∧ ¬ (a = 172 ∧ k = 52) ∧ ¬ a = 199 ∧ ¬ a = 184 ∧ ¬ a = 182
abbrev Nf_X12_give (a k : Nat) : Prop := ¬ a = 198 ∧ ¬ (a = 172 ∧ k = 51) ∧ ¬ (a = 172 ∧ k = 52) ∧ ¬ a = 199 ∧ ¬ a = 197
abbrev Nf_X12_back (a k : Nat) : Prop := ¬ (a = 172 ∧ k = 51) ∧ ¬ (a = 172 ∧ k = 52) ∧ ¬ a = 199 ∧ ¬ a = 197 ∧ ¬ a = 198
abbrev Nf_X12_exchange (a k : Nat) : Prop := ¬ a = 198 ∧ ¬ (a = 172 ∧ k = 51) ∧ ¬ (a = 172 ∧ k = 52) ∧ ¬ a = 199 ∧ ¬ a = 197
abbrev Nf_X12_undo (a k : Nat) : Prop := ¬ (a = 172 ∧ k = 51) ∧ ¬ (a = 172 ∧ k = 52) ∧ ¬ a = 199 ∧ ¬ a = 197
abbrev Nf_X12_redo (a k : Nat) : Prop := ¬ a = 199 ∧ ¬ a = 197 ∧ ¬ (a = 172 ∧ k = 51) ∧ ¬ (a = 172 ∧ k = 52)
abbrev Nf_X12_put (p0 : Nat) (a k : Nat) : Prop := ¬ a = p0
abbrev Nf_X12_servedBut (a k : Nat) : Prop := ¬ a = 200 ∧ ¬ (a = 172 ∧ k = 55) ∧ ¬ a = 201 ∧ ¬ (a = 172 ∧ k = 56)
abbrev Nf_X12_feeds (a k : Nat) : Prop := ¬ a = 198
abbrev Nf_X12_served (a k : Nat) : Prop := ¬ a = 198 ∧ ¬ a = 200 ∧ ¬ (a = 172 ∧ k = 55) ∧ ¬ a = 201 ∧ ¬ (a = 172 ∧ k = 56)
abbrev Nf_X12_next (a k : Nat) : Prop := ¬ a = 198 ∧ ¬ a = 200 ∧ ¬ (a = 172 ∧ k = 55) ∧ ¬ a = 201 ∧ ¬ (a = 172 ∧ k = 56)
abbrev Nf_X12_isEnvied (a k : Nat) : Prop := ¬ a = 184 ∧ ¬ a = 182
abbrev Nf_X12_enviedBy (a k : Nat) : Prop := ¬ a = 184 ∧ ¬ a = 182
abbrev Nf_X12_allEnvies (a k : Nat) : Prop := ¬ a = 184 ∧ ¬ a = 182
abbrev Nf_X12_envies (a k : Nat) : Prop := ¬ a = 198 ∧ ¬ a = 184 ∧ ¬ a = 182
abbrev Nf_X12_quarrel (a k : Nat) : Prop := ¬ a = 198 ∧ ¬ a = 184 ∧ ¬ a = 182
abbrev Nf_X12_calm (a k : Nat) : Prop := ¬ a = 198 ∧ ¬ a = 184 ∧ ¬ a = 182
abbrev Nf_X12_layHalve (a k : Nat) : Prop := ¬ (a = 172 ∧ k = 58) ∧ ¬ (a = 172 ∧ k = 59) ∧ ¬ (a = 172 ∧ k = 60) ∧ ¬ a = 184 ∧ ¬ a = 182 ∧ ¬ a = 198
abbrev Nf_X12_canHalve (a k : Nat) : Prop := True
abbrev Nf_X12_halve (a k : Nat) : Prop := ¬ (a = 172 ∧ k = 58) ∧ ¬ (a = 172 ∧ k = 59) ∧ ¬ (a = 172 ∧ k = 60) ∧ ¬ a = 184 ∧ ¬ a = 182 ∧ ¬ a = 198
abbrev Nf_X12_share (a k : Nat) : Prop := ¬ (a = 172 ∧ k = 58) ∧ ¬ (a = 172 ∧ k = 59) ∧ ¬ (a = 172 ∧ k = 60) ∧ ¬ a = 184 ∧ ¬ a = 182 ∧ ¬ a = 198
abbrev Nf_X12_layWorths (a k : Nat) : Prop := ¬ a = 184 ∧ ¬ a = 182 ∧ ¬ a = 202 ∧ ¬ a = 198
abbrev Nf_X12_bestFor (a k : Nat) : Prop := True
abbrev Nf_X12_picks (a k : Nat) : Prop := ¬ a = 205 ∧ ¬ (a = 172 ∧ k = 65) ∧ ¬ a = 184 ∧ ¬ a = 182 ∧ ¬ a = 202 ∧ ¬ a = 198
abbrev Nf_X12_leastBy (a k : Nat) : Prop := True
abbrev Nf_X12_layTurn (a k : Nat) : Prop := ¬ a = 203
abbrev Nf_X12_order (a k : Nat) : Prop := ¬ a = 204 ∧ ¬ (a = 172 ∧ k = 65) ∧ ¬ a = 205 ∧ ¬ a = 203 ∧ ¬ a = 184 ∧ ¬ a = 182 ∧ ¬ a = 202 ∧ ¬ a = 198
abbrev Nf_X12_isGrid (a k : Nat) : Prop := True
abbrev Nf_X12_gridIcing (a k : Nat) : Prop := True
abbrev Nf_X12_gridUneven (a k : Nat) : Prop := True
abbrev Nf_X12_grid (a k : Nat) : Prop := True
abbrev Nf_X12_ways (a k : Nat) : Prop := True
abbrev Nf_X12_most (a k : Nat) : Prop := True
abbrev Nf_X12_room (a k : Nat) : Prop := ¬ a = 200 ∧ ¬ (a = 172 ∧ k = 55) ∧ ¬ a = 201 ∧ ¬ (a = 172 ∧ k = 56) ∧ ¬ a = 198
abbrev Nf_X12_best (a k : Nat) : Prop := ¬ a = 184 ∧ ¬ a = 182 ∧ ¬ a = 202 ∧ ¬ a = 198
abbrev Nf_X12_hasCell (a k : Nat) : Prop := True
abbrev Nf_X12_where (a k : Nat) : Prop := ¬ a = 198
abbrev Nf_X12_hungry (a k : Nat) : Prop := ¬ a = 198
abbrev Nf_X12_law (a k : Nat) : Prop := ¬ a = 198 ∧ ¬ (a = 172 ∧ k = 57) ∧ ¬ a = 200 ∧ ¬ (a = 172 ∧ k = 55) ∧ ¬ a = 201 ∧ ¬ (a = 172 ∧ k = 56)
abbrev Nf_X12_left (a k : Nat) : Prop := ¬ a = 198
abbrev Nf_X12_iced (a k : Nat) : Prop := ¬ a = 198
abbrev Nf_X12_divisor (a k : Nat) : Prop := True
abbrev Nf_X12_come (a k : Nat) : Prop := True
abbrev Nf_X12_lies (a k : Nat) : Prop := True
abbrev Nf_X12_tell (a k : Nat) : Prop := ¬ a = 206 ∧ ¬ a = 207 ∧ ¬ a = 210 ∧ ¬ a = 208 ∧ ¬ a = 209 ∧ ¬ (a = 172 ∧ k = 71)
abbrev Nf_X12_sized (a k : Nat) : Prop := ¬ a = 206 ∧ ¬ a = 207 ∧ ¬ a = 210 ∧ ¬ a = 208 ∧ ¬ a = 209 ∧ ¬ (a = 172 ∧ k = 71)
abbrev Nf_X12_rimmed (a k : Nat) : Prop := ¬ a = 206 ∧ ¬ a = 207 ∧ ¬ a = 210 ∧ ¬ a = 208 ∧ ¬ a = 209 ∧ ¬ (a = 172 ∧ k = 71)
abbrev Nf_X12_untell (a k : Nat) : Prop := ¬ a = 209
abbrev Nf_X12_later (a k : Nat) : Prop := ¬ (a = 172 ∧ k = 72)
abbrev Nf_X12_hasIcing (a k : Nat) : Prop := True
abbrev Nf_X12_isSo (a k : Nat) : Prop := True
abbrev Nf_X12_isFit (a k : Nat) : Prop := True
abbrev Nf_X12_fits (a k : Nat) : Prop := True
abbrev Nf_X12_sure (a k : Nat) : Prop := True
abbrev Nf_X12_leftBy (a k : Nat) : Prop := True
abbrev Nf_X12_ask (a k : Nat) : Prop := True
abbrev Nf_X12_isBox (a k : Nat) : Prop := True
abbrev Nf_X12_image (a k : Nat) : Prop := ¬ a = 212 ∧ ¬ a = 211
abbrev Nf_X12_restore (a k : Nat) : Prop := ¬ (a = 172 ∧ k = 51) ∧ ¬ (a = 172 ∧ k = 52) ∧ ¬ a = 197
abbrev Nf_X12_brokenOnes (a k : Nat) : Prop := True
abbrev Nf_X12_about (a k : Nat) : Prop := True
theorem ff_X9_layWhole {a k : Nat} {p0 : Nat} {v1 : Int32} {v2 : Int32} {v3 : Int32} {z : St} {Rz : St} (hk0 : kd p0 = 9) (hf : Nf_X9_layWhole p0 a k) (h : fn_X9_layWhole  p0 v1 v2 v3 z = some Rz) : SA z Rz a k := by
  unfold fn_X9_layWhole at h
  obtain ⟨z1, e_z1, h⟩ := nm_s h
  refine SA.tr (sa_I e_z1 hf.1) ?_
  obtain ⟨z2, e_z2, h⟩ := nm_s h
  refine SA.tr (sa_I e_z2 hf.2.1) ?_
  obtain ⟨z3, e_z3, h⟩ := nm_s h
  refine SA.tr (sa_I e_z3 hf.2.2.1) ?_
  obtain ⟨z4, e_z4, h⟩ := nm_s h
  refine SA.tr (sa_I e_z4 hf.2.2.2.1) ?_
  obtain ⟨z5, e_z5, h⟩ := nm_s h
  refine SA.tr (sa_I e_z5 hf.2.2.2.2.1) ?_
  obtain ⟨z6, e_z6, h⟩ := nm_s h
  refine SA.tr (sa_I e_z6 hf.2.2.2.2.2.1) ?_
  obtain ⟨z7, e_z7, h⟩ := nm_s h
  refine SA.tr (sa_I e_z7 hf.2.2.2.2.2.2) ?_
  cases h
  exact SA.rf
theorem ff_X9_takeFrom {a k : Nat} {p0 : Nat} {p1 : Nat} {z : St} {Rz : St} (hk0 : kd p0 = 9) (hk1 : kd p1 = 9) (hf : Nf_X9_takeFrom p0 p1 a k) (h : fn_X9_takeFrom  p0 p1 z = some Rz) : SA z Rz a k := by
  unfold fn_X9_takeFrom at h
  obtain ⟨z1, e_z1, h⟩ := nm_s h
  refine SA.tr (sa_I e_z1 hf.1) ?_
  obtain ⟨z2, e_z2, h⟩ := nm_s h
  refine SA.tr (sa_I e_z2 hf.2.1) ?_
  obtain ⟨z3, e_z3, h⟩ := nm_s h
  refine SA.tr (sa_I e_z3 hf.2.2.1) ?_
  obtain ⟨z4, e_z4, h⟩ := nm_s h
  refine SA.tr (sa_I e_z4 hf.2.2.2.1) ?_
  obtain ⟨z5, e_z5, h⟩ := nm_s h
  refine SA.tr (sa_I e_z5 hf.2.2.2.2.1) ?_
  obtain ⟨g6, h⟩ := gd_s h
  obtain ⟨z7, e_z7, h⟩ := nm_s h
  refine SA.tr (sa_I e_z7 hf.2.2.2.2.2.1) ?_
  obtain ⟨z8, e_z8, h⟩ := nm_s h
  refine SA.tr (sa_I e_z8 hf.2.2.2.2.2.2) ?_
  cases h
  exact SA.rf
theorem ff_X9_extent {a k : Nat} {p0 : Nat} {v1 : Int32} {z : St} {Rz : Int32 × St} (hk0 : kd p0 = 9) (hf : Nf_X9_extent p0 a k) (h : fn_X9_extent  p0 v1 z = some Rz) : SA z Rz.2 a k := by
  unfold fn_X9_extent at h
  rcases Decidable.em (v1 = 0) with c1 | c1
  · rw [if_pos c1] at h
    cases h
    exact SA.rf
  · rw [if_neg c1] at h
    cases h
    exact SA.rf
theorem ff_X9_along {a k : Nat} {p0 : Nat} {v1 : Int32} {z : St} {Rz : Int32 × St} (hk0 : kd p0 = 9) (hf : Nf_X9_along p0 a k) (h : fn_X9_along  p0 v1 z = some Rz) : SA z Rz.2 a k := by
  unfold fn_X9_along at h
  rcases Decidable.em (v1 = 0) with c1 | c1
  · rw [if_pos c1] at h
    cases h
    exact SA.rf
  · rw [if_neg c1] at h
    cases h
    exact SA.rf
theorem ff_X9_keepAhead {a k : Nat} {p0 : Nat} {v1 : Int32} {v2 : Int32} {z : St} {Rz : St} (hk0 : kd p0 = 9) (hf : Nf_X9_keepAhead p0 a k) (h : fn_X9_keepAhead  p0 v1 v2 z = some Rz) : SA z Rz a k := by
  unfold fn_X9_keepAhead at h
  rcases Decidable.em (v1 = 0) with c1 | c1
  · rw [if_pos c1] at h
    obtain ⟨z3, e_z3, h⟩ := nm_s h
    refine SA.tr (sa_I e_z3 hf.2) ?_
    cases h
    exact SA.rf
  · rw [if_neg c1] at h
    obtain ⟨z2, e_z2, h⟩ := nm_s h
    refine SA.tr (sa_I e_z2 hf.1) ?_
    cases h
    exact SA.rf
theorem ff_X9_keepBehind {a k : Nat} {p0 : Nat} {v1 : Int32} {v2 : Int32} {z : St} {Rz : St} (hk0 : kd p0 = 9) (hf : Nf_X9_keepBehind p0 a k) (h : fn_X9_keepBehind  p0 v1 v2 z = some Rz) : SA z Rz a k := by
  unfold fn_X9_keepBehind at h
  rcases Decidable.em (v1 = 0) with c1 | c1
  · rw [if_pos c1] at h
    obtain ⟨z4, e_z4, h⟩ := nm_s h
    refine SA.tr (sa_I e_z4 hf.2.2.1) ?_
    obtain ⟨z5, e_z5, h⟩ := nm_s h
    refine SA.tr (sa_I e_z5 hf.2.2.2) ?_
    cases h
    exact SA.rf
  · rw [if_neg c1] at h
    obtain ⟨z2, e_z2, h⟩ := nm_s h
    refine SA.tr (sa_I e_z2 hf.1) ?_
    obtain ⟨z3, e_z3, h⟩ := nm_s h
    refine SA.tr (sa_I e_z3 hf.2.1) ?_
    cases h
    exact SA.rf
theorem ff_X9_growBy {a k : Nat} {p0 : Nat} {v1 : Int32} {v2 : Int32} {z : St} {Rz : St} (hk0 : kd p0 = 9) (hf : Nf_X9_growBy p0 a k) (h : fn_X9_growBy  p0 v1 v2 z = some Rz) : SA z Rz a k := by
  unfold fn_X9_growBy at h
  rcases Decidable.em (v1 = 0) with c1 | c1
  · rw [if_pos c1] at h
    obtain ⟨z3, e_z3, h⟩ := nm_s h
    refine SA.tr (sa_I e_z3 hf.2) ?_
    cases h
    exact SA.rf
  · rw [if_neg c1] at h
    obtain ⟨z2, e_z2, h⟩ := nm_s h
    refine SA.tr (sa_I e_z2 hf.1) ?_
    cases h
    exact SA.rf
theorem ff_X9_holds {a k : Nat} {p0 : Nat} {v1 : Int32} {v2 : Int32} {v3 : Int32} {z : St} {Rz : Int32 × St} (hk0 : kd p0 = 9) (hf : Nf_X9_holds p0 a k) (h : fn_X9_holds  p0 v1 v2 v3 z = some Rz) : SA z Rz.2 a k := by
  unfold fn_X9_holds at h
  rcases Decidable.em (v1 = (z.1 p0 0)) with c1 | c1
  · rw [if_pos c1] at h
    rcases Decidable.em (v2 < (z.1 p0 1)) with c2 | c2
    · rw [if_pos c2] at h
      cases h
      exact SA.rf
    · rw [if_neg c2] at h
      rcases Decidable.em (((z.1 p0 1) + (z.1 p0 3)) ≤ v2) with c3 | c3
      · rw [if_pos c3] at h
        cases h
        exact SA.rf
      · rw [if_neg c3] at h
        rcases Decidable.em (v3 < (z.1 p0 2)) with c4 | c4
        · rw [if_pos c4] at h
          cases h
          exact SA.rf
        · rw [if_neg c4] at h
          rcases Decidable.em (((z.1 p0 2) + (z.1 p0 4)) ≤ v3) with c5 | c5
          · rw [if_pos c5] at h
            cases h
            exact SA.rf
          · rw [if_neg c5] at h
            cases h
            exact SA.rf
  · rw [if_neg c1] at h
    cases h
    exact SA.rf
theorem ff_X2_add {a k : Nat} {p0 : Nat} {v1 : Int32} {v2 : Int32} {z : St} {Rz : St} (hk0 : kd p0 = 2) (hf : Nf_X2_add p0 a k) (h : fn_X2_add  p0 v1 v2 z = some Rz) : SA z Rz a k := by
  unfold fn_X2_add at h
  rcases Decidable.em (272 ≤ (z.1 p0 2)) with c1 | c1
  · rw [if_pos c1] at h
    cases h
    exact SA.rf
  · rw [if_neg c1] at h
    obtain ⟨g2, h⟩ := gd_s h
    obtain ⟨z3, e_z3, h⟩ := nm_s h
    refine SA.tr (sa_Ia e_z3 hf.1) ?_
    obtain ⟨z4, e_z4, h⟩ := nm_s h
    refine SA.tr (sa_I e_z4 hf.2) ?_
    cases h
    exact SA.rf
theorem ff_X2_clear {a k : Nat} {p0 : Nat} {v1 : Int32} {z : St} {Rz : St} (hk0 : kd p0 = 2) (hf : Nf_X2_clear p0 a k) (h : fn_X2_clear  p0 v1 z = some Rz) : SA z Rz a k := by
  unfold fn_X2_clear at h
  obtain ⟨z1, e_z1, h⟩ := nm_s h
  refine SA.tr (sa_I e_z1 hf.1) ?_
  obtain ⟨z2, e_z2, h⟩ := nm_s h
  refine SA.tr (sa_I e_z2 hf.2.1) ?_
  obtain ⟨z3, e_z3, h⟩ := nm_s h
  refine SA.tr (sa_I e_z3 hf.2.2.1) ?_
  obtain ⟨z5, h4, h⟩ := bv_s h
  refine SA.tr (ff_X2_add  hk0 ⟨hf.2.2.2, hf.1⟩ h4) ?_
  cases h
  exact SA.rf
theorem ff_X2_begin {a k : Nat} {p0 : Nat} {z : St} {Rz : St} (hk0 : kd p0 = 2) (hf : Nf_X2_begin p0 a k) (h : fn_X2_begin  p0 z = some Rz) : SA z Rz a k := by
  unfold fn_X2_begin at h
  obtain ⟨z1, e_z1, h⟩ := nm_s h
  refine SA.tr (sa_I e_z1 hf.1) ?_
  obtain ⟨z2, e_z2, h⟩ := nm_s h
  refine SA.tr (sa_I e_z2 hf.2) ?_
  cases h
  exact SA.rf
theorem ff_X2_takeFrom_2 {a k : Nat} (p0 : Nat) (p1 : Nat) (hk0 : kd p0 = 2) (hk1 : kd p1 = 2) (hf : Nf_X2_takeFrom p0 p1 a k) : ∀ (n : Nat) (v2 : Int32) (z : St)  (Rz : St), fn_X2_takeFrom_2   n p0 p1 v2 z = some Rz → SA z Rz a k := by
  intro n
  induction n with
  | zero => intro v2 z  Rz h; cases h
  | succ n ih =>
    intro v2 z  Rz h
    rw [fn_X2_takeFrom_2] at h
    rcases Decidable.em ((z.1 p1 2) ≤ v2) with c1 | c1
    · rw [if_pos c1] at h
      obtain ⟨z2, e_z2, h⟩ := nm_s h
      refine SA.tr (sa_I e_z2 hf.1) ?_
      obtain ⟨z3, e_z3, h⟩ := nm_s h
      refine SA.tr (sa_I e_z3 hf.2.1) ?_
      obtain ⟨g4, h⟩ := gd_s h
      obtain ⟨z5, e_z5, h⟩ := nm_s h
      refine SA.tr (sa_I e_z5 hf.2.2.1) ?_
      cases h
      exact SA.rf
    · rw [if_neg c1] at h
      obtain ⟨g6, h⟩ := gd_s h
      obtain ⟨g7, h⟩ := gd_s h
      obtain ⟨z8, e_z8, h⟩ := nm_s h
      refine SA.tr (sa_Ia e_z8 hf.2.2.2) ?_
      exact ih (v2 + 1) z8  _ h
theorem ff_X2_takeFrom {a k : Nat} {p0 : Nat} {p1 : Nat} {z : St} {Rz : St} (hk0 : kd p0 = 2) (hk1 : kd p1 = 2) (hf : Nf_X2_takeFrom p0 p1 a k) (h : fn_X2_takeFrom  p0 p1 z = some Rz) : SA z Rz a k := by
  unfold fn_X2_takeFrom at h
  exact ff_X2_takeFrom_2 p0 p1 hk0 hk1 hf   fu 0 z  _ h
theorem ff_X2_countUnit {a k : Nat} {p0 : Nat} {z : St} {Rz : Int32 × St} (hk0 : kd p0 = 2) (hf : Nf_X2_countUnit p0 a k) (h : fn_X2_countUnit  p0 z = some Rz) : SA z Rz.2 a k := by
  unfold fn_X2_countUnit at h
  rcases Decidable.em ((z.1 p0 3) < 30) with c1 | c1
  · rw [if_pos c1] at h
    obtain ⟨z2, e_z2, h⟩ := nm_s h
    refine SA.tr (sa_I e_z2 hf) ?_
    cases h
    exact SA.rf
  · rw [if_neg c1] at h
    cases h
    exact SA.rf
theorem ff_X2_truth {a k : Nat} {v0 : Int32} {z : St} {Rz : Int32 × St}  (hf : Nf_X2_truth  a k) (h : fn_X2_truth  v0 z = some Rz) : SA z Rz.2 a k := by
  unfold fn_X2_truth at h
  rcases Decidable.em (v0 = 0) with c1 | c1
  · rw [if_pos c1] at h
    cases h
    exact SA.rf
  · rw [if_neg c1] at h
    cases h
    exact SA.rf
theorem ff_X2_joined_69 {a k : Nat} (hf : Nf_X2_joined  a k) (tv0 : Int32) (z : St)  {Rz : Int32 × St} (h : fn_X2_joined_69   tv0 z = some Rz) : SA z Rz.2 a k := by
  unfold fn_X2_joined_69 at h
  obtain ⟨r2, z3, h1, h⟩ := bd_s h
  refine SA.tr (ff_X2_truth   trivial h1) ?_
  cases h
  exact SA.rf
theorem ff_X2_joined_64 {a k : Nat} (hf : Nf_X2_joined  a k)  (z : St)  {Rz : Int32 × St} (h : fn_X2_joined_64    z = some Rz) : SA z Rz.2 a k := by
  unfold fn_X2_joined_64 at h
  exact ff_X2_joined_69  hf   1 z  h
theorem ff_X2_joined_86 {a k : Nat} (hf : Nf_X2_joined  a k) (tv0 : Int32) (z : St)  {Rz : Int32 × St} (h : fn_X2_joined_86   tv0 z = some Rz) : SA z Rz.2 a k := by
  unfold fn_X2_joined_86 at h
  obtain ⟨r2, z3, h1, h⟩ := bd_s h
  refine SA.tr (ff_X2_truth   trivial h1) ?_
  cases h
  exact SA.rf
theorem ff_X2_joined_85 {a k : Nat} (hf : Nf_X2_joined  a k)  (z : St)  {Rz : Int32 × St} (h : fn_X2_joined_85    z = some Rz) : SA z Rz.2 a k := by
  unfold fn_X2_joined_85 at h
  exact ff_X2_joined_86  hf   0 z  h
theorem ff_X2_joined_100 {a k : Nat} (hf : Nf_X2_joined  a k) (tv0 : Int32) (z : St)  {Rz : Int32 × St} (h : fn_X2_joined_100   tv0 z = some Rz) : SA z Rz.2 a k := by
  unfold fn_X2_joined_100 at h
  obtain ⟨r2, z3, h1, h⟩ := bd_s h
  refine SA.tr (ff_X2_truth   trivial h1) ?_
  cases h
  exact SA.rf
theorem ff_X2_joined_114 {a k : Nat} (hf : Nf_X2_joined  a k) (tv0 : Int32) (z : St)  {Rz : Int32 × St} (h : fn_X2_joined_114   tv0 z = some Rz) : SA z Rz.2 a k := by
  unfold fn_X2_joined_114 at h
  obtain ⟨r2, z3, h1, h⟩ := bd_s h
  refine SA.tr (ff_X2_truth   trivial h1) ?_
  cases h
  exact SA.rf
theorem ff_X2_joined_128 {a k : Nat} (hf : Nf_X2_joined  a k) (tv0 : Int32) (z : St)  {Rz : Int32 × St} (h : fn_X2_joined_128   tv0 z = some Rz) : SA z Rz.2 a k := by
  unfold fn_X2_joined_128 at h
  obtain ⟨r2, z3, h1, h⟩ := bd_s h
  refine SA.tr (ff_X2_truth   trivial h1) ?_
  cases h
  exact SA.rf
theorem ff_X2_joined {a k : Nat} {v0 : Int32} {v1 : Int32} {v2 : Int32} {z : St} {Rz : Int32 × St}  (hf : Nf_X2_joined  a k) (h : fn_X2_joined  v0 v1 v2 z = some Rz) : SA z Rz.2 a k := by
  unfold fn_X2_joined at h
  by_cases c1 : v0 = 8
  · rw [if_pos c1] at h
    rcases Decidable.em (v1 = 0) with c2 | c2
    · rw [if_pos c2] at h
      rcases Decidable.em (v2 = 0) with c3 | c3
      · rw [if_pos c3] at h
        exact ff_X2_joined_69  hf   0 z  h
      · rw [if_neg c3] at h
        exact ff_X2_joined_64  hf    z  h
    · rw [if_neg c2] at h
      exact ff_X2_joined_64  hf    z  h
  rw [if_neg c1] at h
  by_cases c4 : v0 = 9
  · rw [if_pos c4] at h
    rcases Decidable.em (v1 = 0) with c5 | c5
    · rw [if_pos c5] at h
      exact ff_X2_joined_85  hf    z  h
    · rw [if_neg c5] at h
      rcases Decidable.em (v2 = 0) with c6 | c6
      · rw [if_pos c6] at h
        exact ff_X2_joined_85  hf    z  h
      · rw [if_neg c6] at h
        exact ff_X2_joined_86  hf   1 z  h
  rw [if_neg c4] at h
  by_cases c7 : v0 = 10
  · rw [if_pos c7] at h
    rcases Decidable.em (v2 ≤ v1) with c8 | c8
    · rw [if_pos c8] at h
      exact ff_X2_joined_100  hf   0 z  h
    · rw [if_neg c8] at h
      exact ff_X2_joined_100  hf   1 z  h
  rw [if_neg c7] at h
  by_cases c9 : v0 = 11
  · rw [if_pos c9] at h
    rcases Decidable.em (v1 ≤ v2) with c10 | c10
    · rw [if_pos c10] at h
      exact ff_X2_joined_114  hf   0 z  h
    · rw [if_neg c10] at h
      exact ff_X2_joined_114  hf   1 z  h
  rw [if_neg c9] at h
  by_cases c11 : v0 = 12
  · rw [if_pos c11] at h
    rcases Decidable.em (v1 = v2) with c12 | c12
    · rw [if_pos c12] at h
      exact ff_X2_joined_128  hf   1 z  h
    · rw [if_neg c12] at h
      exact ff_X2_joined_128  hf   0 z  h
  rw [if_neg c11] at h
  by_cases c13 : v0 = 13
  · rw [if_pos c13] at h
    cases h
    exact SA.rf
  rw [if_neg c13] at h
  by_cases c14 : v0 = 14
  · rw [if_pos c14] at h
    cases h
    exact SA.rf
  rw [if_neg c14] at h
  by_cases c15 : v0 = 15
  · rw [if_pos c15] at h
    cases h
    exact SA.rf
  rw [if_neg c15] at h
  by_cases c16 : v0 = 16
  · rw [if_pos c16] at h
    rcases Decidable.em (v2 = 0) with c17 | c17
    · rw [if_pos c17] at h
      cases h
      exact SA.rf
    · rw [if_neg c17] at h
      obtain ⟨g18, h⟩ := gd_s h
      cases h
      exact SA.rf
  rw [if_neg c16] at h
  by_cases c19 : v0 = 17
  · rw [if_pos c19] at h
    rcases Decidable.em (v2 = 0) with c20 | c20
    · rw [if_pos c20] at h
      cases h
      exact SA.rf
    · rw [if_neg c20] at h
      obtain ⟨g21, h⟩ := gd_s h
      cases h
      exact SA.rf
  rw [if_neg c19] at h
  cases h
  exact SA.rf
theorem ff_X2_outcome_154 {a k : Nat} (p0 : Nat) (p1 : Nat) (hk0 : kd p0 = 2) (hk1 : kd p1 = 14) (hf : Nf_X2_outcome p0 p1 a k) {k4 : Nat → Nat → Int32 → Int32 → St → Option (Int32 × St)} (hk_4 : ∀ (v2 : Int32) (v3 : Int32) (z : St)  (Rz : Int32 × St), k4 p0 p1 v2 v3 z = some Rz → SA z Rz.2 a k) (v2 : Int32) (v3 : Int32) (z : St)  {Rz : Int32 × St} (h : fn_X2_outcome_154  k4 p0 p1 v2 v3 z = some Rz) : SA z Rz.2 a k := by
  unfold fn_X2_outcome_154 at h
  exact hk_4 v2 (v3 + 1) z  _ h
theorem ff_X2_outcome_71 {a k : Nat} (p0 : Nat) (p1 : Nat) (hk0 : kd p0 = 2) (hk1 : kd p1 = 14) (hf : Nf_X2_outcome p0 p1 a k) {k4 : Nat → Nat → Int32 → Int32 → St → Option (Int32 × St)} (hk_4 : ∀ (v2 : Int32) (v3 : Int32) (z : St)  (Rz : Int32 × St), k4 p0 p1 v2 v3 z = some Rz → SA z Rz.2 a k) (v2 : Int32) (v3 : Int32) (tv1 : Int32) (tv2 : Int32) (z : St)  {Rz : Int32 × St} (h : fn_X2_outcome_71  k4 p0 p1 v2 v3 tv1 tv2 z = some Rz) : SA z Rz.2 a k := by
  unfold fn_X2_outcome_71 at h
  obtain ⟨g1, h⟩ := gd_s h
  obtain ⟨z2, e_z2, h⟩ := nm_s h
  refine SA.tr (sa_Ia e_z2 hf) ?_
  exact ff_X2_outcome_154 p0 p1 hk0 hk1 hf  hk_4 (v2 + 1) v3 z2  h
theorem ff_X2_outcome_112 {a k : Nat} (p0 : Nat) (p1 : Nat) (hk0 : kd p0 = 2) (hk1 : kd p1 = 14) (hf : Nf_X2_outcome p0 p1 a k) {k4 : Nat → Nat → Int32 → Int32 → St → Option (Int32 × St)} (hk_4 : ∀ (v2 : Int32) (v3 : Int32) (z : St)  (Rz : Int32 × St), k4 p0 p1 v2 v3 z = some Rz → SA z Rz.2 a k) (v2 : Int32) (v3 : Int32) (tv1 : Int32) (tv2 : Int32) (z : St)  {Rz : Int32 × St} (h : fn_X2_outcome_112  k4 p0 p1 v2 v3 tv1 tv2 z = some Rz) : SA z Rz.2 a k := by
  unfold fn_X2_outcome_112 at h
  obtain ⟨r2, z3, h1, h⟩ := bd_s h
  refine SA.tr (ff_X2_truth   trivial h1) ?_
  obtain ⟨g4, h⟩ := gd_s h
  obtain ⟨z5, e_z5, h⟩ := nm_s h
  refine SA.tr (sa_Ia e_z5 hf) ?_
  exact ff_X2_outcome_154 p0 p1 hk0 hk1 hf  hk_4 v2 v3 z5  h
theorem ff_X2_outcome_4 {a k : Nat} (p0 : Nat) (p1 : Nat) (hk0 : kd p0 = 2) (hk1 : kd p1 = 14) (hf : Nf_X2_outcome p0 p1 a k) : ∀ (n : Nat) (v2 : Int32) (v3 : Int32) (z : St)  (Rz : Int32 × St), fn_X2_outcome_4   n p0 p1 v2 v3 z = some Rz → SA z Rz.2 a k := by
  intro n
  induction n with
  | zero => intro v2 v3 z  Rz h; cases h
  | succ n ih =>
    intro v2 v3 z  Rz h
    rw [fn_X2_outcome_4] at h
    rcases Decidable.em ((z.1 p0 2) ≤ v3) with c1 | c1
    · rw [if_pos c1] at h
      rcases Decidable.em (v2 ≤ 0) with c2 | c2
      · rw [if_pos c2] at h
        cases h
        exact SA.rf
      · rw [if_neg c2] at h
        cases h
        exact SA.rf
    · rw [if_neg c1] at h
      obtain ⟨g3, h⟩ := gd_s h
      obtain ⟨v4_4, e_v4_4, h⟩ := nm_s h
      rcases Decidable.em (7 ≤ v4_4) with c5 | c5
      · rw [if_pos c5] at h
        rcases Decidable.em (v4_4 = 7) with c6 | c6
        · rw [if_pos c6] at h
          rcases Decidable.em (v2 ≤ 0) with c15 | c15
          · rw [if_pos c15] at h
            exact ff_X2_outcome_154 p0 p1 hk0 hk1 hf  ih v2 v3 z  h
          · rw [if_neg c15] at h
            obtain ⟨g16, h⟩ := gd_s h
            rcases Decidable.em ((z.1 (p0 + 2) (Int32.toNatClampNeg (v2 - 1))) = 0) with c17 | c17
            · rw [if_pos c17] at h
              exact ff_X2_outcome_112 p0 p1 hk0 hk1 hf  ih v2 v3 (v2 - 1) 1 z  h
            · rw [if_neg c17] at h
              exact ff_X2_outcome_112 p0 p1 hk0 hk1 hf  ih v2 v3 (v2 - 1) 0 z  h
        · rw [if_neg c6] at h
          rcases Decidable.em (v2 ≤ 1) with c7 | c7
          · rw [if_pos c7] at h
            exact ff_X2_outcome_154 p0 p1 hk0 hk1 hf  ih v2 v3 z  h
          · rw [if_neg c7] at h
            obtain ⟨g8, h⟩ := gd_s h
            obtain ⟨g9, h⟩ := gd_s h
            obtain ⟨r11, z12, h10, h⟩ := bd_s h
            refine SA.tr (ff_X2_joined   trivial h10) ?_
            obtain ⟨g13, h⟩ := gd_s h
            obtain ⟨z14, e_z14, h⟩ := nm_s h
            refine SA.tr (sa_Ia e_z14 hf) ?_
            exact ff_X2_outcome_154 p0 p1 hk0 hk1 hf  ih (v2 + (-1)) v3 z14  h
      · rw [if_neg c5] at h
        rcases Decidable.em (32 ≤ v2) with c18 | c18
        · rw [if_pos c18] at h
          exact ff_X2_outcome_154 p0 p1 hk0 hk1 hf  ih v2 v3 z  h
        · rw [if_neg c18] at h
          rcases Decidable.em ((Int32.ofNat (ln p1)) ≤ v4_4) with c19 | c19
          · rw [if_pos c19] at h
            exact ff_X2_outcome_154 p0 p1 hk0 hk1 hf  ih v2 v3 z  h
          · rw [if_neg c19] at h
            rcases Decidable.em (v4_4 = 0) with c20 | c20
            · rw [if_pos c20] at h
              obtain ⟨g22, h⟩ := gd_s h
              exact ff_X2_outcome_71 p0 p1 hk0 hk1 hf  ih v2 v3 v2 ((z.1 (p0 + 1) (Int32.toNatClampNeg v3)) >>> (5 &&& 31)) z  h
            · rw [if_neg c20] at h
              obtain ⟨g21, h⟩ := gd_s h
              exact ff_X2_outcome_71 p0 p1 hk0 hk1 hf  ih v2 v3 v2 (z.1 p1 (Int32.toNatClampNeg v4_4)) z  h
theorem ff_X2_outcome {a k : Nat} {p0 : Nat} {p1 : Nat} {z : St} {Rz : Int32 × St} (hk0 : kd p0 = 2) (hk1 : kd p1 = 14) (hf : Nf_X2_outcome p0 p1 a k) (h : fn_X2_outcome  p0 p1 z = some Rz) : SA z Rz.2 a k := by
  unfold fn_X2_outcome at h
  exact ff_X2_outcome_4 p0 p1 hk0 hk1 hf   fu 0 0 z  _ h
theorem ff_X3_canBe {a k : Nat} {v1 : Int32} {v2 : Int32} {v3 : Int32} {v4 : Int32} {z : St} {Rz : Int32 × St}  (hf : Nf_X3_canBe  a k) (h : fn_X3_canBe  v1 v2 v3 v4 z = some Rz) : SA z Rz.2 a k := by
  unfold fn_X3_canBe at h
  rcases Decidable.em (v3 < 1) with c1 | c1
  · rw [if_pos c1] at h
    cases h
    exact SA.rf
  · rw [if_neg c1] at h
    rcases Decidable.em (v4 < 1) with c2 | c2
    · rw [if_pos c2] at h
      cases h
      exact SA.rf
    · rw [if_neg c2] at h
      rcases Decidable.em (v1 < v3) with c3 | c3
      · rw [if_pos c3] at h
        cases h
        exact SA.rf
      · rw [if_neg c3] at h
        rcases Decidable.em (v2 < v4) with c4 | c4
        · rw [if_pos c4] at h
          cases h
          exact SA.rf
        · rw [if_neg c4] at h
          obtain ⟨g5, h⟩ := gd_s h
          rcases Decidable.em ((v1 - v1 / v3 * v3) = 0) with c6 | c6
          · rw [if_pos c6] at h
            obtain ⟨g7, h⟩ := gd_s h
            rcases Decidable.em ((v2 - v2 / v4 * v4) = 0) with c8 | c8
            · rw [if_pos c8] at h
              cases h
              exact SA.rf
            · rw [if_neg c8] at h
              cases h
              exact SA.rf
          · rw [if_neg c6] at h
            cases h
            exact SA.rf
theorem ff_X3_icingSet_105 {a k : Nat} (hf : Nf_X3_icingSet  a k) {k32 : Int32 → Int32 → Int64 → Int32 → Int32 → Int32 → St → Option (Int64 × St)} (hk_32 : ∀ (v3 : Int32) (v4 : Int32) (v5 : Int64) (v7 : Int32) (v8 : Int32) (v9 : Int32) (z : St)  (Rz : Int64 × St), k32 v3 v4 v5 v7 v8 v9 z = some Rz → SA z Rz.2 a k) {k69 : Int32 → Int32 → Int64 → Int32 → Int32 → Int32 → Int32 → Int32 → St → Option (Int64 × St)} (hk_69 : ∀ (v3 : Int32) (v4 : Int32) (v5 : Int64) (v7 : Int32) (v8 : Int32) (v9 : Int32) (v10 : Int32) (v11 : Int32) (z : St)  (Rz : Int64 × St), k69 v3 v4 v5 v7 v8 v9 v10 v11 z = some Rz → SA z Rz.2 a k) (v3 : Int32) (v4 : Int32) (v5 : Int64) (v7 : Int32) (v8 : Int32) (v9 : Int32) (v10 : Int32) (v11 : Int32) (tv0 : Int32) (tv1 : Int32) (z : St)  {Rz : Int64 × St} (h : fn_X3_icingSet_105  k32 k69 v3 v4 v5 v7 v8 v9 v10 v11 tv0 tv1 z = some Rz) : SA z Rz.2 a k := by
  unfold fn_X3_icingSet_105 at h
  obtain ⟨v12_1, e_v12_1, h⟩ := nm_s h
  obtain ⟨v5_2, e_v5_2, h⟩ := nm_s h
  exact hk_69 v3 v4 v5_2 v7 v8 v9 v10 (v11 + 1) z  _ h
theorem ff_X3_icingSet_89 {a k : Nat} (hf : Nf_X3_icingSet  a k) {k32 : Int32 → Int32 → Int64 → Int32 → Int32 → Int32 → St → Option (Int64 × St)} (hk_32 : ∀ (v3 : Int32) (v4 : Int32) (v5 : Int64) (v7 : Int32) (v8 : Int32) (v9 : Int32) (z : St)  (Rz : Int64 × St), k32 v3 v4 v5 v7 v8 v9 z = some Rz → SA z Rz.2 a k) {k69 : Int32 → Int32 → Int64 → Int32 → Int32 → Int32 → Int32 → Int32 → St → Option (Int64 × St)} (hk_69 : ∀ (v3 : Int32) (v4 : Int32) (v5 : Int64) (v7 : Int32) (v8 : Int32) (v9 : Int32) (v10 : Int32) (v11 : Int32) (z : St)  (Rz : Int64 × St), k69 v3 v4 v5 v7 v8 v9 v10 v11 z = some Rz → SA z Rz.2 a k) (v3 : Int32) (v4 : Int32) (v5 : Int64) (v7 : Int32) (v8 : Int32) (v9 : Int32) (v10 : Int32) (v11 : Int32) (tv0 : Int32) (tv1 : Int32) (z : St)  {Rz : Int64 × St} (h : fn_X3_icingSet_89  k32 k69 v3 v4 v5 v7 v8 v9 v10 v11 tv0 tv1 z = some Rz) : SA z Rz.2 a k := by
  unfold fn_X3_icingSet_89 at h
  rcases Decidable.em (v11 = (v4 - 1)) with c1 | c1
  · rw [if_pos c1] at h
    exact ff_X3_icingSet_105  hf  hk_32 hk_69 v3 v4 v5 v7 v8 v9 v10 v11 (tv0 + tv1) v7 z  h
  · rw [if_neg c1] at h
    exact ff_X3_icingSet_105  hf  hk_32 hk_69 v3 v4 v5 v7 v8 v9 v10 v11 (tv0 + tv1) 0 z  h
theorem ff_X3_icingSet_69 {a k : Nat} (hf : Nf_X3_icingSet  a k) {k32 : Int32 → Int32 → Int64 → Int32 → Int32 → Int32 → St → Option (Int64 × St)} (hk_32 : ∀ (v3 : Int32) (v4 : Int32) (v5 : Int64) (v7 : Int32) (v8 : Int32) (v9 : Int32) (z : St)  (Rz : Int64 × St), k32 v3 v4 v5 v7 v8 v9 z = some Rz → SA z Rz.2 a k) : ∀ (n : Nat) (v3 : Int32) (v4 : Int32) (v5 : Int64) (v7 : Int32) (v8 : Int32) (v9 : Int32) (v10 : Int32) (v11 : Int32) (z : St)  (Rz : Int64 × St), fn_X3_icingSet_69  k32 n v3 v4 v5 v7 v8 v9 v10 v11 z = some Rz → SA z Rz.2 a k := by
  intro n
  induction n with
  | zero => intro v3 v4 v5 v7 v8 v9 v10 v11 z  Rz h; cases h
  | succ n ih =>
    intro v3 v4 v5 v7 v8 v9 v10 v11 z  Rz h
    rw [fn_X3_icingSet_69] at h
    rcases Decidable.em (v4 ≤ v11) with c1 | c1
    · rw [if_pos c1] at h
      exact hk_32 v3 v4 v5 v7 v8 (v9 + 1) z  _ h
    · rw [if_neg c1] at h
      rcases Decidable.em (v11 = 0) with c2 | c2
      · rw [if_pos c2] at h
        exact ff_X3_icingSet_89  hf  hk_32 ih v3 v4 v5 v7 v8 v9 v10 v11 v10 v7 z  h
      · rw [if_neg c2] at h
        exact ff_X3_icingSet_89  hf  hk_32 ih v3 v4 v5 v7 v8 v9 v10 v11 v10 0 z  h
theorem ff_X3_icingSet_63 {a k : Nat} (hf : Nf_X3_icingSet  a k) {k32 : Int32 → Int32 → Int64 → Int32 → Int32 → Int32 → St → Option (Int64 × St)} (hk_32 : ∀ (v3 : Int32) (v4 : Int32) (v5 : Int64) (v7 : Int32) (v8 : Int32) (v9 : Int32) (z : St)  (Rz : Int64 × St), k32 v3 v4 v5 v7 v8 v9 z = some Rz → SA z Rz.2 a k) (v3 : Int32) (v4 : Int32) (v5 : Int64) (v7 : Int32) (v8 : Int32) (v9 : Int32) (tv0 : Int32) (tv1 : Int32) (z : St)  {Rz : Int64 × St} (h : fn_X3_icingSet_63  k32 v3 v4 v5 v7 v8 v9 tv0 tv1 z = some Rz) : SA z Rz.2 a k := by
  unfold fn_X3_icingSet_63 at h
  obtain ⟨v10_1, e_v10_1, h⟩ := nm_s h
  exact ff_X3_icingSet_69  hf  hk_32 fu v3 v4 v5 v7 v8 v9 v10_1 0 z  _ h
theorem ff_X3_icingSet_49 {a k : Nat} (hf : Nf_X3_icingSet  a k) {k32 : Int32 → Int32 → Int64 → Int32 → Int32 → Int32 → St → Option (Int64 × St)} (hk_32 : ∀ (v3 : Int32) (v4 : Int32) (v5 : Int64) (v7 : Int32) (v8 : Int32) (v9 : Int32) (z : St)  (Rz : Int64 × St), k32 v3 v4 v5 v7 v8 v9 z = some Rz → SA z Rz.2 a k) (v3 : Int32) (v4 : Int32) (v5 : Int64) (v7 : Int32) (v8 : Int32) (v9 : Int32) (tv0 : Int32) (z : St)  {Rz : Int64 × St} (h : fn_X3_icingSet_49  k32 v3 v4 v5 v7 v8 v9 tv0 z = some Rz) : SA z Rz.2 a k := by
  unfold fn_X3_icingSet_49 at h
  rcases Decidable.em (v9 = (v3 - 1)) with c1 | c1
  · rw [if_pos c1] at h
    exact ff_X3_icingSet_63  hf  hk_32 v3 v4 v5 v7 v8 v9 tv0 v8 z  h
  · rw [if_neg c1] at h
    exact ff_X3_icingSet_63  hf  hk_32 v3 v4 v5 v7 v8 v9 tv0 0 z  h
theorem ff_X3_icingSet_32 {a k : Nat} (hf : Nf_X3_icingSet  a k) : ∀ (n : Nat) (v3 : Int32) (v4 : Int32) (v5 : Int64) (v7 : Int32) (v8 : Int32) (v9 : Int32) (z : St)  (Rz : Int64 × St), fn_X3_icingSet_32   n v3 v4 v5 v7 v8 v9 z = some Rz → SA z Rz.2 a k := by
  intro n
  induction n with
  | zero => intro v3 v4 v5 v7 v8 v9 z  Rz h; cases h
  | succ n ih =>
    intro v3 v4 v5 v7 v8 v9 z  Rz h
    rw [fn_X3_icingSet_32] at h
    rcases Decidable.em (v3 ≤ v9) with c1 | c1
    · rw [if_pos c1] at h
      cases h
      exact SA.rf
    · rw [if_neg c1] at h
      rcases Decidable.em (v9 = 0) with c2 | c2
      · rw [if_pos c2] at h
        exact ff_X3_icingSet_49  hf  ih v3 v4 v5 v7 v8 v9 v8 z  h
      · rw [if_neg c2] at h
        exact ff_X3_icingSet_49  hf  ih v3 v4 v5 v7 v8 v9 0 z  h
theorem ff_X3_icingSet {a k : Nat} {v1 : Int32} {v2 : Int32} {v3 : Int32} {v4 : Int32} {z : St} {Rz : Int64 × St}  (hf : Nf_X3_icingSet  a k) (h : fn_X3_icingSet  v1 v2 v3 v4 z = some Rz) : SA z Rz.2 a k := by
  unfold fn_X3_icingSet at h
  obtain ⟨r2, z3, h1, h⟩ := bd_s h
  refine SA.tr (ff_X3_canBe   trivial h1) ?_
  rcases Decidable.em (r2 = 0) with c4 | c4
  · rw [if_pos c4] at h
    cases h
    exact SA.rf
  · rw [if_neg c4] at h
    obtain ⟨g5, h⟩ := gd_s h
    obtain ⟨v7_6, e_v7_6, h⟩ := nm_s h
    obtain ⟨g7, h⟩ := gd_s h
    obtain ⟨v8_8, e_v8_8, h⟩ := nm_s h
    exact ff_X3_icingSet_32  hf   fu v3 v4 0 v7_6 v8_8 0 z3  _ h
theorem ff_X3_spreadOf_40 {a k : Nat} (hf : Nf_X3_spreadOf  a k) {k7 : Int64 → Int32 → Int32 → Int32 → St → Option (Int32 × St)} (hk_7 : ∀ (v0 : Int64) (v2 : Int32) (v3 : Int32) (v4 : Int32) (z : St)  (Rz : Int32 × St), k7 v0 v2 v3 v4 z = some Rz → SA z Rz.2 a k) (v0 : Int64) (v2 : Int32) (v3 : Int32) (v4 : Int32) (z : St)  {Rz : Int32 × St} (h : fn_X3_spreadOf_40  k7 v0 v2 v3 v4 z = some Rz) : SA z Rz.2 a k := by
  unfold fn_X3_spreadOf_40 at h
  exact hk_7 v0 v2 v3 (v4 + 1) z  _ h
theorem ff_X3_spreadOf_39 {a k : Nat} (hf : Nf_X3_spreadOf  a k) {k7 : Int64 → Int32 → Int32 → Int32 → St → Option (Int32 × St)} (hk_7 : ∀ (v0 : Int64) (v2 : Int32) (v3 : Int32) (v4 : Int32) (z : St)  (Rz : Int32 × St), k7 v0 v2 v3 v4 z = some Rz → SA z Rz.2 a k) (v0 : Int64) (v3 : Int32) (v4 : Int32) (tv0 : Int32) (z : St)  {Rz : Int32 × St} (h : fn_X3_spreadOf_39  k7 v0 v3 v4 tv0 z = some Rz) : SA z Rz.2 a k := by
  unfold fn_X3_spreadOf_39 at h
  exact ff_X3_spreadOf_40  hf  hk_7 v0 tv0 v3 v4 z  h
theorem ff_X3_spreadOf_7 {a k : Nat} (hf : Nf_X3_spreadOf  a k) : ∀ (n : Nat) (v0 : Int64) (v2 : Int32) (v3 : Int32) (v4 : Int32) (z : St)  (Rz : Int32 × St), fn_X3_spreadOf_7   n v0 v2 v3 v4 z = some Rz → SA z Rz.2 a k := by
  intro n
  induction n with
  | zero => intro v0 v2 v3 v4 z  Rz h; cases h
  | succ n ih =>
    intro v0 v2 v3 v4 z  Rz h
    rw [fn_X3_spreadOf_7] at h
    rcases Decidable.em (32 < v4) with c1 | c1
    · rw [if_pos c1] at h
      cases h
      exact SA.rf
    · rw [if_neg c1] at h
      rcases Decidable.em ((lg_cmp ((v0 >>> (Int32.toInt64 v4 &&& 63)) &&& 1) 1) = 0) with c2 | c2
      · rw [if_pos c2] at h
        rcases Decidable.em (v2 = (-1)) with c3 | c3
        · rw [if_pos c3] at h
          exact ff_X3_spreadOf_39  hf  ih v0 v4 v4 v4 z  h
        · rw [if_neg c3] at h
          exact ff_X3_spreadOf_39  hf  ih v0 v4 v4 v2 z  h
      · rw [if_neg c2] at h
        exact ff_X3_spreadOf_40  hf  ih v0 v2 v3 v4 z  h
theorem ff_X3_spreadOf {a k : Nat} {v0 : Int64} {z : St} {Rz : Int32 × St}  (hf : Nf_X3_spreadOf  a k) (h : fn_X3_spreadOf  v0 z = some Rz) : SA z Rz.2 a k := by
  unfold fn_X3_spreadOf at h
  exact ff_X3_spreadOf_7  hf   fu v0 (-1) (-1) 0 z  _ h
theorem ff_X3_search_129 {a k : Nat} (hf : Nf_X3_search  a k) {k6 : Int32 → Int32 → Int32 → Int32 → Int32 → St → Option (Int32 × St)} (hk_6 : ∀ (v1 : Int32) (v2 : Int32) (v3 : Int32) (v4 : Int32) (v5 : Int32) (z : St)  (Rz : Int32 × St), k6 v1 v2 v3 v4 v5 z = some Rz → SA z Rz.2 a k) (v1 : Int32) (v2 : Int32) (v3 : Int32) (v4 : Int32) (v5 : Int32) (z : St)  {Rz : Int32 × St} (h : fn_X3_search_129  k6 v1 v2 v3 v4 v5 z = some Rz) : SA z Rz.2 a k := by
  unfold fn_X3_search_129 at h
  exact hk_6 v1 v2 v3 v4 (v5 + 1) z  _ h
theorem ff_X3_search_126 {a k : Nat} (hf : Nf_X3_search  a k) {k6 : Int32 → Int32 → Int32 → Int32 → Int32 → St → Option (Int32 × St)} (hk_6 : ∀ (v1 : Int32) (v2 : Int32) (v3 : Int32) (v4 : Int32) (v5 : Int32) (z : St)  (Rz : Int32 × St), k6 v1 v2 v3 v4 v5 z = some Rz → SA z Rz.2 a k) (v1 : Int32) (v2 : Int32) (v3 : Int32) (v4 : Int32) (v5 : Int32) (z : St)  {Rz : Int32 × St} (h : fn_X3_search_126  k6 v1 v2 v3 v4 v5 z = some Rz) : SA z Rz.2 a k := by
  unfold fn_X3_search_126 at h
  exact ff_X3_search_129  hf  hk_6 v1 v2 v3 (v4 + 1) v5 z  h
theorem ff_X3_search_102 {a k : Nat} (hf : Nf_X3_search  a k) {k6 : Int32 → Int32 → Int32 → Int32 → Int32 → St → Option (Int32 × St)} (hk_6 : ∀ (v1 : Int32) (v2 : Int32) (v3 : Int32) (v4 : Int32) (v5 : Int32) (z : St)  (Rz : Int32 × St), k6 v1 v2 v3 v4 v5 z = some Rz → SA z Rz.2 a k) (v1 : Int32) (v2 : Int32) (v3 : Int32) (v4 : Int32) (v5 : Int32) (v6 : Int32) (v7 : Int32) (v8 : Int32) (z : St)  {Rz : Int32 × St} (h : fn_X3_search_102  k6 v1 v2 v3 v4 v5 v6 v7 v8 z = some Rz) : SA z Rz.2 a k := by
  unfold fn_X3_search_102 at h
  obtain ⟨z1, e_z1, h⟩ := nm_s h
  refine SA.tr (sa_I e_z1 hf.1) ?_
  obtain ⟨z2, e_z2, h⟩ := nm_s h
  refine SA.tr (sa_I e_z2 hf.2.1) ?_
  obtain ⟨z3, e_z3, h⟩ := nm_s h
  refine SA.tr (sa_I e_z3 hf.2.2.1) ?_
  obtain ⟨z4, e_z4, h⟩ := nm_s h
  refine SA.tr (sa_I e_z4 hf.2.2.2) ?_
  exact ff_X3_search_126  hf  hk_6 v1 v2 v3 v4 v5 z4  h
theorem ff_X3_search_6 {a k : Nat} (hf : Nf_X3_search  a k) : ∀ (n : Nat) (v1 : Int32) (v2 : Int32) (v3 : Int32) (v4 : Int32) (v5 : Int32) (z : St)  (Rz : Int32 × St), fn_X3_search_6   n v1 v2 v3 v4 v5 z = some Rz → SA z Rz.2 a k := by
  intro n
  induction n with
  | zero => intro v1 v2 v3 v4 v5 z  Rz h; cases h
  | succ n ih =>
    intro v1 v2 v3 v4 v5 z  Rz h
    rw [fn_X3_search_6] at h
    rcases Decidable.em (v1 < v5) with c1 | c1
    · rw [if_pos c1] at h
      cases h
      exact SA.rf
    · rw [if_neg c1] at h
      rcases Decidable.em (v3 < v5) with c2 | c2
      · rw [if_pos c2] at h
        cases h
        exact SA.rf
      · rw [if_neg c2] at h
        obtain ⟨g3, h⟩ := gd_s h
        obtain ⟨v6_4, e_v6_4, h⟩ := nm_s h
        rcases Decidable.em ((v5 * v6_4) = v3) with c5 | c5
        · rw [if_pos c5] at h
          obtain ⟨r7, z8, h6, h⟩ := bd_s h
          refine SA.tr (ff_X3_canBe   trivial h6) ?_
          rcases Decidable.em (r7 = 0) with c9 | c9
          · rw [if_pos c9] at h
            exact ff_X3_search_129  hf  ih v1 v2 v3 v4 v5 z8  h
          · rw [if_neg c9] at h
            obtain ⟨r11, z12, h10, h⟩ := bd_s h
            refine SA.tr (ff_X3_icingSet   trivial h10) ?_
            obtain ⟨r14, z15, h13, h⟩ := bd_s h
            refine SA.tr (ff_X3_spreadOf   trivial h13) ?_
            obtain ⟨v8_16, e_v8_16, h⟩ := nm_s h
            rcases Decidable.em (v4 = 0) with c17 | c17
            · rw [if_pos c17] at h
              exact ff_X3_search_102  hf  ih v1 v2 v3 v4 v5 v6_4 r14 v8_16 z15  h
            · rw [if_neg c17] at h
              rcases Decidable.em (v8_16 < (z15.1 161 2)) with c18 | c18
              · rw [if_pos c18] at h
                exact ff_X3_search_102  hf  ih v1 v2 v3 v4 v5 v6_4 r14 v8_16 z15  h
              · rw [if_neg c18] at h
                rcases Decidable.em (v8_16 = (z15.1 161 2)) with c19 | c19
                · rw [if_pos c19] at h
                  rcases Decidable.em ((z15.1 161 3) ≤ r14) with c20 | c20
                  · rw [if_pos c20] at h
                    exact ff_X3_search_126  hf  ih v1 v2 v3 v4 v5 z15  h
                  · rw [if_neg c20] at h
                    exact ff_X3_search_102  hf  ih v1 v2 v3 v4 v5 v6_4 r14 v8_16 z15  h
                · rw [if_neg c19] at h
                  exact ff_X3_search_126  hf  ih v1 v2 v3 v4 v5 z15  h
        · rw [if_neg c5] at h
          exact ff_X3_search_129  hf  ih v1 v2 v3 v4 v5 z  h
theorem ff_X3_search {a k : Nat} {v1 : Int32} {v2 : Int32} {v3 : Int32} {z : St} {Rz : Int32 × St}  (hf : Nf_X3_search  a k) (h : fn_X3_search  v1 v2 v3 z = some Rz) : SA z Rz.2 a k := by
  unfold fn_X3_search at h
  exact ff_X3_search_6  hf   fu v1 v2 v3 0 1 z  _ h
theorem ff_J6_bitCount_0f7a4 {a k : Nat} {v0 : Int32} {z : St} {Rz : Int32 × St}  (hf : Nf_J6_bitCount_0f7a4  a k) (h : fn_J6_bitCount_0f7a4  v0 z = some Rz) : SA z Rz.2 a k := by
  unfold fn_J6_bitCount_0f7a4 at h
  obtain ⟨v0_1, e_v0_1, h⟩ := nm_s h
  obtain ⟨v0_2, e_v0_2, h⟩ := nm_s h
  obtain ⟨v0_3, e_v0_3, h⟩ := nm_s h
  obtain ⟨v0_4, e_v0_4, h⟩ := nm_s h
  obtain ⟨v0_5, e_v0_5, h⟩ := nm_s h
  cases h
  exact SA.rf
theorem ff_X7_clear {a k : Nat} {p0 : Nat} {z : St} {Rz : St} (hk0 : kd p0 = 7) (hf : Nf_X7_clear p0 a k) (h : fn_X7_clear  p0 z = some Rz) : SA z Rz a k := by
  unfold fn_X7_clear at h
  obtain ⟨z1, e_z1, h⟩ := nm_s h
  refine SA.tr (sa_I e_z1 hf.1) ?_
  obtain ⟨z2, e_z2, h⟩ := nm_s h
  refine SA.tr (sa_I e_z2 hf.2.1) ?_
  obtain ⟨z4, h3, h⟩ := bv_s h
  refine SA.tr (ff_X2_clear  (kf_7_10 hk0) ⟨hf.2.2.1, hf.2.2.2.1, hf.2.2.2.2.1, (fun q => hf.2.2.2.2.2.1 (by rw [q]; exact (kf_2_0 (kf_7_10 hk0))))⟩ h3) ?_
  obtain ⟨z6, h5, h⟩ := bv_s h
  refine SA.tr (ff_X2_clear  (kf_7_11 hk0) ⟨hf.2.2.2.2.2.2.1, hf.2.2.2.2.2.2.2.1, hf.2.2.2.2.2.2.2.2.1, (fun q => hf.2.2.2.2.2.1 (by rw [q]; exact (kf_2_0 (kf_7_11 hk0))))⟩ h5) ?_
  obtain ⟨z7, e_z7, h⟩ := nm_s h
  refine SA.tr (sa_I e_z7 hf.2.2.2.2.2.2.2.2.2.1) ?_
  obtain ⟨z8, e_z8, h⟩ := nm_s h
  refine SA.tr (sa_I e_z8 hf.2.2.2.2.2.2.2.2.2.2.1) ?_
  obtain ⟨z9, e_z9, h⟩ := nm_s h
  refine SA.tr (sa_I e_z9 hf.2.2.2.2.2.2.2.2.2.2.2.1) ?_
  obtain ⟨z10, e_z10, h⟩ := nm_s h
  refine SA.tr (sa_I e_z10 hf.2.2.2.2.2.2.2.2.2.2.2.2) ?_
  cases h
  exact SA.rf
theorem ff_X7_takeFrom_67 {a k : Nat} (p0 : Nat) (p1 : Nat) (hk0 : kd p0 = 7) (hk1 : kd p1 = 7) (hf : Nf_X7_takeFrom p0 p1 a k) : ∀ (n : Nat) (v2 : Int32) (z : St)  (Rz : St), fn_X7_takeFrom_67   n p0 p1 v2 z = some Rz → SA z Rz a k := by
  intro n
  induction n with
  | zero => intro v2 z  Rz h; cases h
  | succ n ih =>
    intro v2 z  Rz h
    rw [fn_X7_takeFrom_67] at h
    rcases Decidable.em (6 ≤ v2) with c1 | c1
    · rw [if_pos c1] at h
      obtain ⟨z3, h2, h⟩ := bv_s h
      refine SA.tr (ff_X2_takeFrom  (kf_7_10 hk0) (kf_7_10 hk1) ⟨hf.1, hf.2.1, hf.2.2.1, (fun q => hf.2.2.2.1 (by rw [q]; exact (kf_2_0 (kf_7_10 hk0))))⟩ h2) ?_
      obtain ⟨z5, h4, h⟩ := bv_s h
      refine SA.tr (ff_X2_takeFrom  (kf_7_11 hk0) (kf_7_11 hk1) ⟨hf.2.2.2.2.1, hf.2.2.2.2.2.1, hf.2.2.2.2.2.2.1, (fun q => hf.2.2.2.1 (by rw [q]; exact (kf_2_0 (kf_7_11 hk0))))⟩ h4) ?_
      obtain ⟨z6, e_z6, h⟩ := nm_s h
      refine SA.tr (sa_I e_z6 hf.2.2.2.2.2.2.2.1) ?_
      obtain ⟨z7, e_z7, h⟩ := nm_s h
      refine SA.tr (sa_I e_z7 hf.2.2.2.2.2.2.2.2.1) ?_
      cases h
      exact SA.rf
    · rw [if_neg c1] at h
      obtain ⟨g8, h⟩ := gd_s h
      obtain ⟨g9, h⟩ := gd_s h
      obtain ⟨z10, e_z10, h⟩ := nm_s h
      refine SA.tr (sa_Ia e_z10 hf.2.2.2.2.2.2.2.2.2.1) ?_
      obtain ⟨g11, h⟩ := gd_s h
      obtain ⟨g12, h⟩ := gd_s h
      obtain ⟨z13, e_z13, h⟩ := nm_s h
      refine SA.tr (sa_Ia e_z13 hf.2.2.2.2.2.2.2.2.2.2.1) ?_
      obtain ⟨g14, h⟩ := gd_s h
      obtain ⟨g15, h⟩ := gd_s h
      obtain ⟨z16, e_z16, h⟩ := nm_s h
      refine SA.tr (sa_Ia e_z16 hf.2.2.2.2.2.2.2.2.2.2.2.1) ?_
      exact ih (v2 + 1) z16  _ h
theorem ff_X7_takeFrom_10 {a k : Nat} (p0 : Nat) (p1 : Nat) (hk0 : kd p0 = 7) (hk1 : kd p1 = 7) (hf : Nf_X7_takeFrom p0 p1 a k) : ∀ (n : Nat) (v2 : Int32) (z : St)  (Rz : St), fn_X7_takeFrom_10   n p0 p1 v2 z = some Rz → SA z Rz a k := by
  intro n
  induction n with
  | zero => intro v2 z  Rz h; cases h
  | succ n ih =>
    intro v2 z  Rz h
    rw [fn_X7_takeFrom_10] at h
    rcases Decidable.em (3 ≤ v2) with c1 | c1
    · rw [if_pos c1] at h
      obtain ⟨z2, e_z2, h⟩ := nm_s h
      refine SA.tr (sa_I e_z2 hf.2.2.2.2.2.2.2.2.2.2.2.2.1) ?_
      exact ff_X7_takeFrom_67 p0 p1 hk0 hk1 hf   fu 0 z2  _ h
    · rw [if_neg c1] at h
      obtain ⟨g3, h⟩ := gd_s h
      obtain ⟨g4, h⟩ := gd_s h
      obtain ⟨z5, e_z5, h⟩ := nm_s h
      refine SA.tr (sa_Ia e_z5 hf.2.2.2.2.2.2.2.2.2.2.2.2.2.1) ?_
      obtain ⟨g6, h⟩ := gd_s h
      obtain ⟨g7, h⟩ := gd_s h
      obtain ⟨z8, e_z8, h⟩ := nm_s h
      refine SA.tr (sa_Ia e_z8 hf.2.2.2.2.2.2.2.2.2.2.2.2.2.2.1) ?_
      obtain ⟨g9, h⟩ := gd_s h
      obtain ⟨g10, h⟩ := gd_s h
      obtain ⟨z11, e_z11, h⟩ := nm_s h
      refine SA.tr (sa_Ia e_z11 hf.2.2.2.2.2.2.2.2.2.2.2.2.2.2.2.1) ?_
      exact ih (v2 + 1) z11  _ h
theorem ff_X7_takeFrom {a k : Nat} {p0 : Nat} {p1 : Nat} {z : St} {Rz : St} (hk0 : kd p0 = 7) (hk1 : kd p1 = 7) (hf : Nf_X7_takeFrom p0 p1 a k) (h : fn_X7_takeFrom  p0 p1 z = some Rz) : SA z Rz a k := by
  unfold fn_X7_takeFrom at h
  obtain ⟨z1, e_z1, h⟩ := nm_s h
  refine SA.tr (sa_I e_z1 hf.2.2.2.2.2.2.2.2.2.2.2.2.2.2.2.2) ?_
  exact ff_X7_takeFrom_10 p0 p1 hk0 hk1 hf   fu 0 z1  _ h
theorem ff_X7_addTier {a k : Nat} {p0 : Nat} {v1 : Int32} {v2 : Int32} {v3 : Int32} {z : St} {Rz : St} (hk0 : kd p0 = 7) (hf : Nf_X7_addTier p0 a k) (h : fn_X7_addTier  p0 v1 v2 v3 z = some Rz) : SA z Rz a k := by
  unfold fn_X7_addTier at h
  rcases Decidable.em (3 ≤ (z.1 p0 0)) with c1 | c1
  · rw [if_pos c1] at h
    cases h
    exact SA.rf
  · rw [if_neg c1] at h
    obtain ⟨g2, h⟩ := gd_s h
    obtain ⟨z3, e_z3, h⟩ := nm_s h
    refine SA.tr (sa_Ia e_z3 hf.1) ?_
    obtain ⟨g4, h⟩ := gd_s h
    obtain ⟨z5, e_z5, h⟩ := nm_s h
    refine SA.tr (sa_Ia e_z5 hf.2.1) ?_
    obtain ⟨g6, h⟩ := gd_s h
    obtain ⟨z7, e_z7, h⟩ := nm_s h
    refine SA.tr (sa_Ia e_z7 hf.2.2.1) ?_
    obtain ⟨z8, e_z8, h⟩ := nm_s h
    refine SA.tr (sa_I e_z8 hf.2.2.2) ?_
    cases h
    exact SA.rf
theorem ff_X7_addGuest {a k : Nat} {p0 : Nat} {v1 : Int32} {v2 : Int32} {v3 : Int32} {z : St} {Rz : St} (hk0 : kd p0 = 7) (hf : Nf_X7_addGuest p0 a k) (h : fn_X7_addGuest  p0 v1 v2 v3 z = some Rz) : SA z Rz a k := by
  unfold fn_X7_addGuest at h
  rcases Decidable.em (6 ≤ (z.1 p0 5)) with c1 | c1
  · rw [if_pos c1] at h
    cases h
    exact SA.rf
  · rw [if_neg c1] at h
    obtain ⟨g2, h⟩ := gd_s h
    obtain ⟨z3, e_z3, h⟩ := nm_s h
    refine SA.tr (sa_Ia e_z3 hf.1) ?_
    obtain ⟨g4, h⟩ := gd_s h
    obtain ⟨z5, e_z5, h⟩ := nm_s h
    refine SA.tr (sa_Ia e_z5 hf.2.1) ?_
    obtain ⟨g6, h⟩ := gd_s h
    obtain ⟨z7, e_z7, h⟩ := nm_s h
    refine SA.tr (sa_Ia e_z7 hf.2.2.1) ?_
    obtain ⟨z8, e_z8, h⟩ := nm_s h
    refine SA.tr (sa_I e_z8 hf.2.2.2) ?_
    cases h
    exact SA.rf
theorem ff_X7_isTier {a k : Nat} {p0 : Nat} {v1 : Int32} {z : St} {Rz : Int32 × St} (hk0 : kd p0 = 7) (hf : Nf_X7_isTier p0 a k) (h : fn_X7_isTier  p0 v1 z = some Rz) : SA z Rz.2 a k := by
  unfold fn_X7_isTier at h
  rcases Decidable.em (v1 < 0) with c1 | c1
  · rw [if_pos c1] at h
    cases h
    exact SA.rf
  · rw [if_neg c1] at h
    rcases Decidable.em ((z.1 p0 0) ≤ v1) with c2 | c2
    · rw [if_pos c2] at h
      cases h
      exact SA.rf
    · rw [if_neg c2] at h
      cases h
      exact SA.rf
theorem ff_X7_isGuest {a k : Nat} {p0 : Nat} {v1 : Int32} {z : St} {Rz : Int32 × St} (hk0 : kd p0 = 7) (hf : Nf_X7_isGuest p0 a k) (h : fn_X7_isGuest  p0 v1 z = some Rz) : SA z Rz.2 a k := by
  unfold fn_X7_isGuest at h
  rcases Decidable.em (v1 < 0) with c1 | c1
  · rw [if_pos c1] at h
    cases h
    exact SA.rf
  · rw [if_neg c1] at h
    rcases Decidable.em ((z.1 p0 5) ≤ v1) with c2 | c2
    · rw [if_pos c2] at h
      cases h
      exact SA.rf
    · rw [if_neg c2] at h
      cases h
      exact SA.rf
theorem ff_X7_areaOf {a k : Nat} {p0 : Nat} {p1 : Nat} {z : St} {Rz : Int32 × St} (hk0 : kd p0 = 7) (hk1 : kd p1 = 9) (hf : Nf_X7_areaOf p0 p1 a k) (h : fn_X7_areaOf  p0 p1 z = some Rz) : SA z Rz.2 a k := by
  unfold fn_X7_areaOf at h
  obtain ⟨r2, z3, h1, h⟩ := bd_s h
  refine SA.tr (ff_X7_isTier  hk0 trivial h1) ?_
  rcases Decidable.em (r2 = 0) with c4 | c4
  · rw [if_pos c4] at h
    cases h
    exact SA.rf
  · rw [if_neg c4] at h
    obtain ⟨g5, h⟩ := gd_s h
    cases h
    exact SA.rf
theorem ff_X7_icingOf_71 {a k : Nat} (p0 : Nat) (p1 : Nat) (hk0 : kd p0 = 7) (hk1 : kd p1 = 9) (hf : Nf_X7_icingOf p0 p1 a k) (v2 : Int32) (z : St)  {Rz : Int32 × St} (h : fn_X7_icingOf_71   p0 p1 v2 z = some Rz) : SA z Rz.2 a k := by
  unfold fn_X7_icingOf_71 at h
  obtain ⟨g1, h⟩ := gd_s h
  rcases Decidable.em (((z.1 p1 2) + (z.1 p1 4)) = (z.1 (p0 + 3) (Int32.toNatClampNeg (z.1 p1 0)))) with c2 | c2
  · rw [if_pos c2] at h
    obtain ⟨v2_3, e_v2_3, h⟩ := nm_s h
    cases h
    exact SA.rf
  · rw [if_neg c2] at h
    cases h
    exact SA.rf
theorem ff_X7_icingOf_57 {a k : Nat} (p0 : Nat) (p1 : Nat) (hk0 : kd p0 = 7) (hk1 : kd p1 = 9) (hf : Nf_X7_icingOf p0 p1 a k) (v2 : Int32) (z : St)  {Rz : Int32 × St} (h : fn_X7_icingOf_57   p0 p1 v2 z = some Rz) : SA z Rz.2 a k := by
  unfold fn_X7_icingOf_57 at h
  rcases Decidable.em ((z.1 p1 2) = 0) with c1 | c1
  · rw [if_pos c1] at h
    obtain ⟨v2_2, e_v2_2, h⟩ := nm_s h
    exact ff_X7_icingOf_71 p0 p1 hk0 hk1 hf   v2_2 z  h
  · rw [if_neg c1] at h
    exact ff_X7_icingOf_71 p0 p1 hk0 hk1 hf   v2 z  h
theorem ff_X7_icingOf_28 {a k : Nat} (p0 : Nat) (p1 : Nat) (hk0 : kd p0 = 7) (hk1 : kd p1 = 9) (hf : Nf_X7_icingOf p0 p1 a k) (tv0 : Int32) (z : St)  {Rz : Int32 × St} (h : fn_X7_icingOf_28   p0 p1 tv0 z = some Rz) : SA z Rz.2 a k := by
  unfold fn_X7_icingOf_28 at h
  obtain ⟨g1, h⟩ := gd_s h
  rcases Decidable.em (((z.1 p1 1) + (z.1 p1 3)) = (z.1 (p0 + 2) (Int32.toNatClampNeg (z.1 p1 0)))) with c2 | c2
  · rw [if_pos c2] at h
    obtain ⟨v2_3, e_v2_3, h⟩ := nm_s h
    exact ff_X7_icingOf_57 p0 p1 hk0 hk1 hf   v2_3 z  h
  · rw [if_neg c2] at h
    exact ff_X7_icingOf_57 p0 p1 hk0 hk1 hf   tv0 z  h
theorem ff_X7_icingOf {a k : Nat} {p0 : Nat} {p1 : Nat} {z : St} {Rz : Int32 × St} (hk0 : kd p0 = 7) (hk1 : kd p1 = 9) (hf : Nf_X7_icingOf p0 p1 a k) (h : fn_X7_icingOf  p0 p1 z = some Rz) : SA z Rz.2 a k := by
  unfold fn_X7_icingOf at h
  obtain ⟨r2, z3, h1, h⟩ := bd_s h
  refine SA.tr (ff_X7_isTier  hk0 trivial h1) ?_
  rcases Decidable.em (r2 = 0) with c4 | c4
  · rw [if_pos c4] at h
    cases h
    exact SA.rf
  · rw [if_neg c4] at h
    rcases Decidable.em ((z3.1 p1 1) = 0) with c5 | c5
    · rw [if_pos c5] at h
      exact ff_X7_icingOf_28 p0 p1 hk0 hk1 hf   (z3.1 p1 4) z3  h
    · rw [if_neg c5] at h
      exact ff_X7_icingOf_28 p0 p1 hk0 hk1 hf   0 z3  h
theorem ff_X1_lay_48 {a k : Nat} (p0 : Nat) (p1 : Nat) (hk0 : kd p0 = 1) (hk1 : kd p1 = 7) (hf : Nf_X1_lay p0 p1 a k) : ∀ (n : Nat) (v2 : Int32) (z : St)  (Rz : St), fn_X1_lay_48   n p0 p1 v2 z = some Rz → SA z Rz a k := by
  intro n
  induction n with
  | zero => intro v2 z  Rz h; cases h
  | succ n ih =>
    intro v2 z  Rz h
    rw [fn_X1_lay_48] at h
    rcases Decidable.em (6 ≤ v2) with c1 | c1
    · rw [if_pos c1] at h
      obtain ⟨z2, e_z2, h⟩ := nm_s h
      refine SA.tr (sa_I e_z2 hf.1) ?_
      obtain ⟨z3, e_z3, h⟩ := nm_s h
      refine SA.tr (sa_I e_z3 hf.2.1) ?_
      cases h
      exact SA.rf
    · rw [if_neg c1] at h
      obtain ⟨g4, h⟩ := gd_s h
      obtain ⟨z5, e_z5, h⟩ := nm_s h
      refine SA.tr (sa_Ia e_z5 hf.2.2.1) ?_
      exact ih (v2 + 1) z5  _ h
theorem ff_X1_lay_2 {a k : Nat} (p0 : Nat) (p1 : Nat) (hk0 : kd p0 = 1) (hk1 : kd p1 = 7) (hf : Nf_X1_lay p0 p1 a k) : ∀ (n : Nat) (v2 : Int32) (z : St)  (Rz : St), fn_X1_lay_2   n p0 p1 v2 z = some Rz → SA z Rz a k := by
  intro n
  induction n with
  | zero => intro v2 z  Rz h; cases h
  | succ n ih =>
    intro v2 z  Rz h
    rw [fn_X1_lay_2] at h
    rcases Decidable.em ((z.1 p1 0) ≤ v2) with c1 | c1
    · rw [if_pos c1] at h
      obtain ⟨z2, e_z2, h⟩ := nm_s h
      refine SA.tr (sa_I e_z2 hf.2.2.2.1) ?_
      exact ff_X1_lay_48 p0 p1 hk0 hk1 hf   fu 0 z2  _ h
    · rw [if_neg c1] at h
      obtain ⟨g3, h⟩ := gd_s h
      obtain ⟨g4, h⟩ := gd_s h
      obtain ⟨g5, h⟩ := gd_s h
      obtain ⟨z7, h6, h⟩ := bv_s h
      refine SA.tr (ff_X9_layWhole  (ke_18 (kf_1_0 hk0) (ix_lt g3)) ⟨(fun q => hf.2.2.2.2.1 ⟨by rw [q.1]; exact (ke_18 (kf_1_0 hk0) (ix_lt g3)), q.2⟩), (fun q => hf.2.2.2.2.2.1 ⟨by rw [q.1]; exact (ke_18 (kf_1_0 hk0) (ix_lt g3)), q.2⟩), (fun q => hf.2.2.2.2.2.2.1 ⟨by rw [q.1]; exact (ke_18 (kf_1_0 hk0) (ix_lt g3)), q.2⟩), (fun q => hf.2.2.2.2.2.2.2.1 ⟨by rw [q.1]; exact (ke_18 (kf_1_0 hk0) (ix_lt g3)), q.2⟩), (fun q => hf.2.2.2.2.2.2.2.2.1 ⟨by rw [q.1]; exact (ke_18 (kf_1_0 hk0) (ix_lt g3)), q.2⟩), (fun q => hf.2.2.2.2.2.2.2.2.2.1 ⟨by rw [q.1]; exact (ke_18 (kf_1_0 hk0) (ix_lt g3)), q.2⟩), (fun q => hf.2.2.2.2.2.2.2.2.2.2 ⟨by rw [q.1]; exact (ke_18 (kf_1_0 hk0) (ix_lt g3)), q.2⟩)⟩ h6) ?_
      exact ih (v2 + 1) z7  _ h
theorem ff_X1_lay {a k : Nat} {p0 : Nat} {p1 : Nat} {z : St} {Rz : St} (hk0 : kd p0 = 1) (hk1 : kd p1 = 7) (hf : Nf_X1_lay p0 p1 a k) (h : fn_X1_lay  p0 p1 z = some Rz) : SA z Rz a k := by
  unfold fn_X1_lay at h
  exact ff_X1_lay_2 p0 p1 hk0 hk1 hf   fu 0 z  _ h
theorem ff_X1_takeFrom_33 {a k : Nat} (p0 : Nat) (p1 : Nat) (hk0 : kd p0 = 1) (hk1 : kd p1 = 1) (hf : Nf_X1_takeFrom p0 p1 a k) : ∀ (n : Nat) (v2 : Int32) (z : St)  (Rz : St), fn_X1_takeFrom_33   n p0 p1 v2 z = some Rz → SA z Rz a k := by
  intro n
  induction n with
  | zero => intro v2 z  Rz h; cases h
  | succ n ih =>
    intro v2 z  Rz h
    rw [fn_X1_takeFrom_33] at h
    rcases Decidable.em (6 ≤ v2) with c1 | c1
    · rw [if_pos c1] at h
      obtain ⟨z2, e_z2, h⟩ := nm_s h
      refine SA.tr (sa_I e_z2 hf.1) ?_
      obtain ⟨z3, e_z3, h⟩ := nm_s h
      refine SA.tr (sa_I e_z3 hf.2.1) ?_
      obtain ⟨z4, e_z4, h⟩ := nm_s h
      refine SA.tr (sa_I e_z4 hf.2.2.1) ?_
      cases h
      exact SA.rf
    · rw [if_neg c1] at h
      obtain ⟨g5, h⟩ := gd_s h
      obtain ⟨g6, h⟩ := gd_s h
      obtain ⟨z7, e_z7, h⟩ := nm_s h
      refine SA.tr (sa_Ia e_z7 hf.2.2.2.1) ?_
      exact ih (v2 + 1) z7  _ h
theorem ff_X1_takeFrom_2 {a k : Nat} (p0 : Nat) (p1 : Nat) (hk0 : kd p0 = 1) (hk1 : kd p1 = 1) (hf : Nf_X1_takeFrom p0 p1 a k) : ∀ (n : Nat) (v2 : Int32) (z : St)  (Rz : St), fn_X1_takeFrom_2   n p0 p1 v2 z = some Rz → SA z Rz a k := by
  intro n
  induction n with
  | zero => intro v2 z  Rz h; cases h
  | succ n ih =>
    intro v2 z  Rz h
    rw [fn_X1_takeFrom_2] at h
    rcases Decidable.em ((z.1 p1 2) ≤ v2) with c1 | c1
    · rw [if_pos c1] at h
      exact ff_X1_takeFrom_33 p0 p1 hk0 hk1 hf   fu 0 z  _ h
    · rw [if_neg c1] at h
      obtain ⟨g2, h⟩ := gd_s h
      obtain ⟨g3, h⟩ := gd_s h
      obtain ⟨z5, h4, h⟩ := bv_s h
      refine SA.tr (ff_X9_takeFrom  (ke_18 (kf_1_0 hk0) (ix_lt g2)) (ke_18 (kf_1_0 hk1) (ix_lt g3)) ⟨(fun q => hf.2.2.2.2.1 ⟨by rw [q.1]; exact (ke_18 (kf_1_0 hk0) (ix_lt g2)), q.2⟩), (fun q => hf.2.2.2.2.2.1 ⟨by rw [q.1]; exact (ke_18 (kf_1_0 hk0) (ix_lt g2)), q.2⟩), (fun q => hf.2.2.2.2.2.2.1 ⟨by rw [q.1]; exact (ke_18 (kf_1_0 hk0) (ix_lt g2)), q.2⟩), (fun q => hf.2.2.2.2.2.2.2.1 ⟨by rw [q.1]; exact (ke_18 (kf_1_0 hk0) (ix_lt g2)), q.2⟩), (fun q => hf.2.2.2.2.2.2.2.2.1 ⟨by rw [q.1]; exact (ke_18 (kf_1_0 hk0) (ix_lt g2)), q.2⟩), (fun q => hf.2.2.2.2.2.2.2.2.2.1 ⟨by rw [q.1]; exact (ke_18 (kf_1_0 hk0) (ix_lt g2)), q.2⟩), (fun q => hf.2.2.2.2.2.2.2.2.2.2 ⟨by rw [q.1]; exact (ke_18 (kf_1_0 hk0) (ix_lt g2)), q.2⟩)⟩ h4) ?_
      exact ih (v2 + 1) z5  _ h
theorem ff_X1_takeFrom {a k : Nat} {p0 : Nat} {p1 : Nat} {z : St} {Rz : St} (hk0 : kd p0 = 1) (hk1 : kd p1 = 1) (hf : Nf_X1_takeFrom p0 p1 a k) (h : fn_X1_takeFrom  p0 p1 z = some Rz) : SA z Rz a k := by
  unfold fn_X1_takeFrom at h
  exact ff_X1_takeFrom_2 p0 p1 hk0 hk1 hf   fu 0 z  _ h
theorem ff_X1_isPiece {a k : Nat} {p0 : Nat} {v1 : Int32} {z : St} {Rz : Int32 × St} (hk0 : kd p0 = 1) (hf : Nf_X1_isPiece p0 a k) (h : fn_X1_isPiece  p0 v1 z = some Rz) : SA z Rz.2 a k := by
  unfold fn_X1_isPiece at h
  rcases Decidable.em (v1 < 0) with c1 | c1
  · rw [if_pos c1] at h
    cases h
    exact SA.rf
  · rw [if_neg c1] at h
    rcases Decidable.em ((z.1 p0 2) ≤ v1) with c2 | c2
    · rw [if_pos c2] at h
      cases h
      exact SA.rf
    · rw [if_neg c2] at h
      cases h
      exact SA.rf
theorem ff_X1_isFree {a k : Nat} {p0 : Nat} {v1 : Int32} {z : St} {Rz : Int32 × St} (hk0 : kd p0 = 1) (hf : Nf_X1_isFree p0 a k) (h : fn_X1_isFree  p0 v1 z = some Rz) : SA z Rz.2 a k := by
  unfold fn_X1_isFree at h
  obtain ⟨r2, z3, h1, h⟩ := bd_s h
  refine SA.tr (ff_X1_isPiece  hk0 trivial h1) ?_
  rcases Decidable.em (r2 = 0) with c4 | c4
  · rw [if_pos c4] at h
    cases h
    exact SA.rf
  · rw [if_neg c4] at h
    obtain ⟨g5, h⟩ := gd_s h
    rcases Decidable.em ((z3.1 ((p0 + 1) + 1 + (Int32.toNatClampNeg v1)) 6) = (-1)) with c6 | c6
    · rw [if_pos c6] at h
      cases h
      exact SA.rf
    · rw [if_neg c6] at h
      cases h
      exact SA.rf
theorem ff_X1_isCuttable {a k : Nat} {p0 : Nat} {v1 : Int32} {z : St} {Rz : Int32 × St} (hk0 : kd p0 = 1) (hf : Nf_X1_isCuttable p0 a k) (h : fn_X1_isCuttable  p0 v1 z = some Rz) : SA z Rz.2 a k := by
  unfold fn_X1_isCuttable at h
  obtain ⟨r2, z3, h1, h⟩ := bd_s h
  refine SA.tr (ff_X1_isFree  hk0 trivial h1) ?_
  rcases Decidable.em (r2 = 0) with c4 | c4
  · rw [if_pos c4] at h
    cases h
    exact SA.rf
  · rw [if_neg c4] at h
    rcases Decidable.em (24 ≤ (z3.1 p0 2)) with c5 | c5
    · rw [if_pos c5] at h
      cases h
      exact SA.rf
    · rw [if_neg c5] at h
      cases h
      exact SA.rf
theorem ff_X1_canSplit_17 {a k : Nat} (p0 : Nat) (hk0 : kd p0 = 1) (hf : Nf_X1_canSplit p0 a k) (v1 : Int32) (v2 : Int32) (v3 : Int32) (z : St)  {Rz : Int32 × St} (h : fn_X1_canSplit_17   p0 v1 v2 v3 z = some Rz) : SA z Rz.2 a k := by
  unfold fn_X1_canSplit_17 at h
  rcases Decidable.em (v3 < 1) with c1 | c1
  · rw [if_pos c1] at h
    cases h
    exact SA.rf
  · rw [if_neg c1] at h
    obtain ⟨g2, h⟩ := gd_s h
    obtain ⟨r4, z5, h3, h⟩ := bd_s h
    refine SA.tr (ff_X9_extent  (ke_18 (kf_1_0 hk0) (ix_lt g2)) trivial h3) ?_
    rcases Decidable.em (r4 ≤ v3) with c6 | c6
    · rw [if_pos c6] at h
      cases h
      exact SA.rf
    · rw [if_neg c6] at h
      cases h
      exact SA.rf
theorem ff_X1_canSplit {a k : Nat} {p0 : Nat} {v1 : Int32} {v2 : Int32} {v3 : Int32} {z : St} {Rz : Int32 × St} (hk0 : kd p0 = 1) (hf : Nf_X1_canSplit p0 a k) (h : fn_X1_canSplit  p0 v1 v2 v3 z = some Rz) : SA z Rz.2 a k := by
  unfold fn_X1_canSplit at h
  obtain ⟨r2, z3, h1, h⟩ := bd_s h
  refine SA.tr (ff_X1_isCuttable  hk0 trivial h1) ?_
  rcases Decidable.em (r2 = 0) with c4 | c4
  · rw [if_pos c4] at h
    cases h
    exact SA.rf
  · rw [if_neg c4] at h
    rcases Decidable.em (v2 = 0) with c5 | c5
    · rw [if_pos c5] at h
      exact ff_X1_canSplit_17 p0 hk0 hf   v1 v2 v3 z3  h
    · rw [if_neg c5] at h
      rcases Decidable.em (v2 = 1) with c6 | c6
      · rw [if_pos c6] at h
        exact ff_X1_canSplit_17 p0 hk0 hf   v1 v2 v3 z3  h
      · rw [if_neg c6] at h
        cases h
        exact SA.rf
theorem ff_X1_split_98 {a k : Nat} (p0 : Nat) (hk0 : kd p0 = 1) (hf : Nf_X1_split p0 a k) (v5 : Int32) (z : St)  {Rz : St} (h : fn_X1_split_98   p0 v5 z = some Rz) : SA z Rz a k := by
  unfold fn_X1_split_98 at h
  obtain ⟨z1, e_z1, h⟩ := nm_s h
  refine SA.tr (sa_I e_z1 hf.1) ?_
  cases h
  exact SA.rf
theorem ff_X1_split {a k : Nat} {p0 : Nat} {v1 : Int32} {v2 : Int32} {v3 : Int32} {v4 : Int32} {v5 : Int32} {z : St} {Rz : St} (hk0 : kd p0 = 1) (hf : Nf_X1_split p0 a k) (h : fn_X1_split  p0 v1 v2 v3 v4 v5 z = some Rz) : SA z Rz a k := by
  unfold fn_X1_split at h
  obtain ⟨r2, z3, h1, h⟩ := bd_s h
  refine SA.tr (ff_X1_canSplit  hk0 trivial h1) ?_
  rcases Decidable.em (r2 = 0) with c4 | c4
  · rw [if_pos c4] at h
    cases h
    exact SA.rf
  · rw [if_neg c4] at h
    obtain ⟨g5, h⟩ := gd_s h
    obtain ⟨g6, h⟩ := gd_s h
    obtain ⟨z8, h7, h⟩ := bv_s h
    refine SA.tr (ff_X9_takeFrom  (ke_18 (kf_1_0 hk0) (ix_lt g6)) (ke_18 (kf_1_0 hk0) (ix_lt g5)) ⟨(fun q => hf.2.1 ⟨by rw [q.1]; exact (ke_18 (kf_1_0 hk0) (ix_lt g6)), q.2⟩), (fun q => hf.2.2.1 ⟨by rw [q.1]; exact (ke_18 (kf_1_0 hk0) (ix_lt g6)), q.2⟩), (fun q => hf.2.2.2.1 ⟨by rw [q.1]; exact (ke_18 (kf_1_0 hk0) (ix_lt g6)), q.2⟩), (fun q => hf.2.2.2.2.1 ⟨by rw [q.1]; exact (ke_18 (kf_1_0 hk0) (ix_lt g6)), q.2⟩), (fun q => hf.2.2.2.2.2.1 ⟨by rw [q.1]; exact (ke_18 (kf_1_0 hk0) (ix_lt g6)), q.2⟩), (fun q => hf.2.2.2.2.2.2.1 ⟨by rw [q.1]; exact (ke_18 (kf_1_0 hk0) (ix_lt g6)), q.2⟩), (fun q => hf.2.2.2.2.2.2.2.1 ⟨by rw [q.1]; exact (ke_18 (kf_1_0 hk0) (ix_lt g6)), q.2⟩)⟩ h7) ?_
    obtain ⟨z10, h9, h⟩ := bv_s h
    refine SA.tr (ff_X9_keepBehind  (ke_18 (kf_1_0 hk0) (ix_lt g6)) ⟨(fun q => hf.2.2.2.1 ⟨by rw [q.1]; exact (ke_18 (kf_1_0 hk0) (ix_lt g6)), q.2⟩), (fun q => hf.2.2.2.2.2.1 ⟨by rw [q.1]; exact (ke_18 (kf_1_0 hk0) (ix_lt g6)), q.2⟩), (fun q => hf.2.2.1 ⟨by rw [q.1]; exact (ke_18 (kf_1_0 hk0) (ix_lt g6)), q.2⟩), (fun q => hf.2.2.2.2.1 ⟨by rw [q.1]; exact (ke_18 (kf_1_0 hk0) (ix_lt g6)), q.2⟩)⟩ h9) ?_
    obtain ⟨z12, h11, h⟩ := bv_s h
    refine SA.tr (ff_X9_keepAhead  (ke_18 (kf_1_0 hk0) (ix_lt g5)) ⟨(fun q => hf.2.2.2.2.2.1 ⟨by rw [q.1]; exact (ke_18 (kf_1_0 hk0) (ix_lt g5)), q.2⟩), (fun q => hf.2.2.2.2.1 ⟨by rw [q.1]; exact (ke_18 (kf_1_0 hk0) (ix_lt g5)), q.2⟩)⟩ h11) ?_
    obtain ⟨z13, e_z13, h⟩ := nm_s h
    refine SA.tr (sa_I e_z13 hf.2.2.2.2.2.2.2.2.1) ?_
    obtain ⟨z14, e_z14, h⟩ := nm_s h
    refine SA.tr (sa_I e_z14 hf.2.2.2.2.2.2.2.2.2) ?_
    rcases Decidable.em (v4 ≤ ((z14.1 p0 4) - (z14.1 p0 4) / 100 * 100)) with c15 | c15
    · rw [if_pos c15] at h
      exact ff_X1_split_98 p0 hk0 hf   v5 z14  h
    · rw [if_neg c15] at h
      obtain ⟨z16, e_z16, h⟩ := nm_s h
      refine SA.tr (sa_I e_z16 (fun q => hf.2.2.2.2.2.2.1 ⟨by rw [q.1]; exact (ke_18 (kf_1_0 hk0) (ix_lt g6)), q.2⟩)) ?_
      exact ff_X1_split_98 p0 hk0 hf   v5 z16  h
theorem ff_X1_rejoin {a k : Nat} {p0 : Nat} {v1 : Int32} {v2 : Int32} {z : St} {Rz : St} (hk0 : kd p0 = 1) (hf : Nf_X1_rejoin p0 a k) (h : fn_X1_rejoin  p0 v1 v2 z = some Rz) : SA z Rz a k := by
  unfold fn_X1_rejoin at h
  obtain ⟨r2, z3, h1, h⟩ := bd_s h
  refine SA.tr (ff_X1_isPiece  hk0 trivial h1) ?_
  rcases Decidable.em (r2 = 0) with c4 | c4
  · rw [if_pos c4] at h
    cases h
    exact SA.rf
  · rw [if_neg c4] at h
    rcases Decidable.em (((z3.1 p0 2) - 1) ≤ v1) with c5 | c5
    · rw [if_pos c5] at h
      cases h
      exact SA.rf
    · rw [if_neg c5] at h
      obtain ⟨z6, e_z6, h⟩ := nm_s h
      refine SA.tr (sa_I e_z6 hf.1) ?_
      obtain ⟨g7, h⟩ := gd_s h
      obtain ⟨g8, h⟩ := gd_s h
      obtain ⟨r10, z11, h9, h⟩ := bd_s h
      refine SA.tr (ff_X9_extent  (ke_18 (kf_1_0 hk0) (ix_lt g8)) trivial h9) ?_
      obtain ⟨z13, h12, h⟩ := bv_s h
      refine SA.tr (ff_X9_growBy  (ke_18 (kf_1_0 hk0) (ix_lt g7)) ⟨(fun q => hf.2.1 ⟨by rw [q.1]; exact (ke_18 (kf_1_0 hk0) (ix_lt g7)), q.2⟩), (fun q => hf.2.2 ⟨by rw [q.1]; exact (ke_18 (kf_1_0 hk0) (ix_lt g7)), q.2⟩)⟩ h12) ?_
      cases h
      exact SA.rf
theorem ff_X1_put {a k : Nat} {p0 : Nat} {v1 : Int32} {v2 : Int32} {z : St} {Rz : St} (hk0 : kd p0 = 1) (hf : Nf_X1_put p0 a k) (h : fn_X1_put  p0 v1 v2 z = some Rz) : SA z Rz a k := by
  unfold fn_X1_put at h
  obtain ⟨r2, z3, h1, h⟩ := bd_s h
  refine SA.tr (ff_X1_isPiece  hk0 trivial h1) ?_
  rcases Decidable.em (r2 = 0) with c4 | c4
  · rw [if_pos c4] at h
    cases h
    exact SA.rf
  · rw [if_neg c4] at h
    rcases Decidable.em (v2 < 0) with c5 | c5
    · rw [if_pos c5] at h
      cases h
      exact SA.rf
    · rw [if_neg c5] at h
      rcases Decidable.em (6 ≤ v2) with c6 | c6
      · rw [if_pos c6] at h
        cases h
        exact SA.rf
      · rw [if_neg c6] at h
        obtain ⟨g7, h⟩ := gd_s h
        obtain ⟨z8, e_z8, h⟩ := nm_s h
        refine SA.tr (sa_I e_z8 (fun q => hf.1 ⟨by rw [q.1]; exact (ke_18 (kf_1_0 hk0) (ix_lt g7)), q.2⟩)) ?_
        obtain ⟨g9, h⟩ := gd_s h
        obtain ⟨z10, e_z10, h⟩ := nm_s h
        refine SA.tr (sa_Ia e_z10 hf.2) ?_
        cases h
        exact SA.rf
theorem ff_X1_lift {a k : Nat} {p0 : Nat} {v1 : Int32} {v2 : Int32} {z : St} {Rz : St} (hk0 : kd p0 = 1) (hf : Nf_X1_lift p0 a k) (h : fn_X1_lift  p0 v1 v2 z = some Rz) : SA z Rz a k := by
  unfold fn_X1_lift at h
  obtain ⟨r2, z3, h1, h⟩ := bd_s h
  refine SA.tr (ff_X1_isPiece  hk0 trivial h1) ?_
  rcases Decidable.em (r2 = 0) with c4 | c4
  · rw [if_pos c4] at h
    cases h
    exact SA.rf
  · rw [if_neg c4] at h
    rcases Decidable.em (v2 < 0) with c5 | c5
    · rw [if_pos c5] at h
      cases h
      exact SA.rf
    · rw [if_neg c5] at h
      rcases Decidable.em (6 ≤ v2) with c6 | c6
      · rw [if_pos c6] at h
        cases h
        exact SA.rf
      · rw [if_neg c6] at h
        obtain ⟨g7, h⟩ := gd_s h
        obtain ⟨z8, e_z8, h⟩ := nm_s h
        refine SA.tr (sa_I e_z8 (fun q => hf.1 ⟨by rw [q.1]; exact (ke_18 (kf_1_0 hk0) (ix_lt g7)), q.2⟩)) ?_
        obtain ⟨g9, h⟩ := gd_s h
        obtain ⟨z10, e_z10, h⟩ := nm_s h
        refine SA.tr (sa_Ia e_z10 hf.2) ?_
        cases h
        exact SA.rf
theorem ff_X1_trade {a k : Nat} {p0 : Nat} {v1 : Int32} {v2 : Int32} {z : St} {Rz : St} (hk0 : kd p0 = 1) (hf : Nf_X1_trade p0 a k) (h : fn_X1_trade  p0 v1 v2 z = some Rz) : SA z Rz a k := by
  unfold fn_X1_trade at h
  rcases Decidable.em (v1 < 0) with c1 | c1
  · rw [if_pos c1] at h
    cases h
    exact SA.rf
  · rw [if_neg c1] at h
    rcases Decidable.em (6 ≤ v1) with c2 | c2
    · rw [if_pos c2] at h
      cases h
      exact SA.rf
    · rw [if_neg c2] at h
      rcases Decidable.em (v2 < 0) with c3 | c3
      · rw [if_pos c3] at h
        cases h
        exact SA.rf
      · rw [if_neg c3] at h
        rcases Decidable.em (v2 < 6) with c4 | c4
        · rw [if_pos c4] at h
          obtain ⟨g5, h⟩ := gd_s h
          obtain ⟨v3_6, e_v3_6, h⟩ := nm_s h
          obtain ⟨g7, h⟩ := gd_s h
          obtain ⟨z9, h8, h⟩ := bv_s h
          refine SA.tr (ff_X1_put  hk0 ⟨hf.1, hf.2⟩ h8) ?_
          obtain ⟨z11, h10, h⟩ := bv_s h
          refine SA.tr (ff_X1_put  hk0 ⟨hf.1, hf.2⟩ h10) ?_
          cases h
          exact SA.rf
        · rw [if_neg c4] at h
          cases h
          exact SA.rf
theorem ff_X1_platesFilled_23 {a k : Nat} (p0 : Nat) (hk0 : kd p0 = 1) (hf : Nf_X1_platesFilled p0 a k) {k4 : Nat → Int32 → Int32 → St → Option (Int32 × St)} (hk_4 : ∀ (v1 : Int32) (v2 : Int32) (z : St)  (Rz : Int32 × St), k4 p0 v1 v2 z = some Rz → SA z Rz.2 a k) (v1 : Int32) (v2 : Int32) (z : St)  {Rz : Int32 × St} (h : fn_X1_platesFilled_23  k4 p0 v1 v2 z = some Rz) : SA z Rz.2 a k := by
  unfold fn_X1_platesFilled_23 at h
  exact hk_4 v1 (v2 + 1) z  _ h
theorem ff_X1_platesFilled_4 {a k : Nat} (p0 : Nat) (hk0 : kd p0 = 1) (hf : Nf_X1_platesFilled p0 a k) : ∀ (n : Nat) (v1 : Int32) (v2 : Int32) (z : St)  (Rz : Int32 × St), fn_X1_platesFilled_4   n p0 v1 v2 z = some Rz → SA z Rz.2 a k := by
  intro n
  induction n with
  | zero => intro v1 v2 z  Rz h; cases h
  | succ n ih =>
    intro v1 v2 z  Rz h
    rw [fn_X1_platesFilled_4] at h
    rcases Decidable.em (6 ≤ v2) with c1 | c1
    · rw [if_pos c1] at h
      cases h
      exact SA.rf
    · rw [if_neg c1] at h
      obtain ⟨g2, h⟩ := gd_s h
      rcases Decidable.em ((z.1 (p0 + 26) (Int32.toNatClampNeg v2)) = (-1)) with c3 | c3
      · rw [if_pos c3] at h
        exact ff_X1_platesFilled_23 p0 hk0 hf  ih v1 v2 z  h
      · rw [if_neg c3] at h
        exact ff_X1_platesFilled_23 p0 hk0 hf  ih (v1 + 1) v2 z  h
theorem ff_X1_platesFilled {a k : Nat} {p0 : Nat} {z : St} {Rz : Int32 × St} (hk0 : kd p0 = 1) (hf : Nf_X1_platesFilled p0 a k) (h : fn_X1_platesFilled  p0 z = some Rz) : SA z Rz.2 a k := by
  unfold fn_X1_platesFilled at h
  exact ff_X1_platesFilled_4 p0 hk0 hf   fu 0 0 z  _ h
theorem ff_X1_brokenSet_30 {a k : Nat} (p0 : Nat) (hk0 : kd p0 = 1) (hf : Nf_X1_brokenSet p0 a k) {k4 : Nat → Int32 → Int32 → St → Option (Int32 × St)} (hk_4 : ∀ (v1 : Int32) (v2 : Int32) (z : St)  (Rz : Int32 × St), k4 p0 v1 v2 z = some Rz → SA z Rz.2 a k) (v1 : Int32) (v2 : Int32) (z : St)  {Rz : Int32 × St} (h : fn_X1_brokenSet_30  k4 p0 v1 v2 z = some Rz) : SA z Rz.2 a k := by
  unfold fn_X1_brokenSet_30 at h
  exact hk_4 v1 (v2 + 1) z  _ h
theorem ff_X1_brokenSet_4 {a k : Nat} (p0 : Nat) (hk0 : kd p0 = 1) (hf : Nf_X1_brokenSet p0 a k) : ∀ (n : Nat) (v1 : Int32) (v2 : Int32) (z : St)  (Rz : Int32 × St), fn_X1_brokenSet_4   n p0 v1 v2 z = some Rz → SA z Rz.2 a k := by
  intro n
  induction n with
  | zero => intro v1 v2 z  Rz h; cases h
  | succ n ih =>
    intro v1 v2 z  Rz h
    rw [fn_X1_brokenSet_4] at h
    rcases Decidable.em ((z.1 p0 2) ≤ v2) with c1 | c1
    · rw [if_pos c1] at h
      cases h
      exact SA.rf
    · rw [if_neg c1] at h
      obtain ⟨g2, h⟩ := gd_s h
      rcases Decidable.em ((z.1 ((p0 + 1) + 1 + (Int32.toNatClampNeg v2)) 5) = 0) with c3 | c3
      · rw [if_pos c3] at h
        exact ff_X1_brokenSet_30 p0 hk0 hf  ih v1 v2 z  h
      · rw [if_neg c3] at h
        obtain ⟨v1_4, e_v1_4, h⟩ := nm_s h
        exact ff_X1_brokenSet_30 p0 hk0 hf  ih v1_4 v2 z  h
theorem ff_X1_brokenSet {a k : Nat} {p0 : Nat} {z : St} {Rz : Int32 × St} (hk0 : kd p0 = 1) (hf : Nf_X1_brokenSet p0 a k) (h : fn_X1_brokenSet  p0 z = some Rz) : SA z Rz.2 a k := by
  unfold fn_X1_brokenSet at h
  exact ff_X1_brokenSet_4 p0 hk0 hf   fu 0 0 z  _ h
theorem ff_X10_measure_52 {a k : Nat} (p1 : Nat) (hk1 : kd p1 = 9) (hf : Nf_X10_measure p1 a k) (tv1 : Int32) (tv2 : Int32) (z : St)  {Rz : St} (h : fn_X10_measure_52   tv1 tv2 z = some Rz) : SA z Rz a k := by
  unfold fn_X10_measure_52 at h
  obtain ⟨g1, h⟩ := gd_s h
  obtain ⟨z2, e_z2, h⟩ := nm_s h
  refine SA.tr (sa_Ia e_z2 hf) ?_
  obtain ⟨z3, e_z3, h⟩ := nm_s h
  refine SA.tr (sa_Ia e_z3 hf) ?_
  obtain ⟨z4, e_z4, h⟩ := nm_s h
  refine SA.tr (sa_Ia e_z4 hf) ?_
  cases h
  exact SA.rf
theorem ff_X10_measure {a k : Nat} {p1 : Nat} {z : St} {Rz : St} (hk1 : kd p1 = 9) (hf : Nf_X10_measure p1 a k) (h : fn_X10_measure  p1 z = some Rz) : SA z Rz a k := by
  unfold fn_X10_measure at h
  obtain ⟨r2, z3, h1, h⟩ := bd_s h
  refine SA.tr (ff_X7_areaOf  k_2 hk1 trivial h1) ?_
  obtain ⟨z4, e_z4, h⟩ := nm_s h
  refine SA.tr (sa_Ia e_z4 hf) ?_
  obtain ⟨r6, z7, h5, h⟩ := bd_s h
  refine SA.tr (ff_X7_icingOf  k_2 hk1 trivial h5) ?_
  obtain ⟨z8, e_z8, h⟩ := nm_s h
  refine SA.tr (sa_Ia e_z8 hf) ?_
  obtain ⟨z9, e_z9, h⟩ := nm_s h
  refine SA.tr (sa_Ia e_z9 hf) ?_
  rcases Decidable.em ((z9.1 p1 5) = 0) with c10 | c10
  · rw [if_pos c10] at h
    exact ff_X10_measure_52 p1 hk1 hf   4 0 z9  h
  · rw [if_neg c10] at h
    exact ff_X10_measure_52 p1 hk1 hf   4 1 z9  h
theorem ff_X10_ofSlab_34 {a k : Nat} (p2 : Nat) (hk2 : kd p2 = 9) (hf : Nf_X10_ofSlab p2 a k) (tv1 : Int32) (tv2 : Int32) (z : St)  {Rz : Int32 × St} (h : fn_X10_ofSlab_34   tv1 tv2 z = some Rz) : SA z Rz.2 a k := by
  unfold fn_X10_ofSlab_34 at h
  obtain ⟨g1, h⟩ := gd_s h
  obtain ⟨z2, e_z2, h⟩ := nm_s h
  refine SA.tr (sa_Ia e_z2 hf.1) ?_
  obtain ⟨r4, z5, h3, h⟩ := bd_s h
  refine SA.tr (ff_X2_outcome  k_11 k_144 hf.2 h3) ?_
  cases h
  exact SA.rf
theorem ff_X10_ofSlab {a k : Nat} {v1 : Int32} {p2 : Nat} {z : St} {Rz : Int32 × St} (hk2 : kd p2 = 9) (hf : Nf_X10_ofSlab p2 a k) (h : fn_X10_ofSlab  v1 p2 z = some Rz) : SA z Rz.2 a k := by
  unfold fn_X10_ofSlab at h
  obtain ⟨z2, h1, h⟩ := bv_s h
  refine SA.tr (ff_X10_measure  hk2 hf.1 h1) ?_
  obtain ⟨r4, z5, h3, h⟩ := bd_s h
  refine SA.tr (ff_X7_isGuest  k_2 trivial h3) ?_
  rcases Decidable.em (r4 = 0) with c6 | c6
  · rw [if_pos c6] at h
    exact ff_X10_ofSlab_34 p2 hk2 hf   3 0 z5  h
  · rw [if_neg c6] at h
    obtain ⟨g7, h⟩ := gd_s h
    exact ff_X10_ofSlab_34 p2 hk2 hf   3 (z5.1 9 (Int32.toNatClampNeg v1)) z5  h
theorem ff_X10_ofPiece {a k : Nat} {v1 : Int32} {v2 : Int32} {v3 : Int32} {z : St} {Rz : Int32 × St}  (hf : Nf_X10_ofPiece  a k) (h : fn_X10_ofPiece  v1 v2 v3 z = some Rz) : SA z Rz.2 a k := by
  unfold fn_X10_ofPiece at h
  obtain ⟨r2, z3, h1, h⟩ := bd_s h
  refine SA.tr (ff_X1_isPiece  k_34 trivial h1) ?_
  rcases Decidable.em (r2 = 0) with c4 | c4
  · rw [if_pos c4] at h
    cases h
    exact SA.rf
  · rw [if_neg c4] at h
    obtain ⟨g5, h⟩ := gd_s h
    obtain ⟨r7, z8, h6, h⟩ := bd_s h
    refine SA.tr (ff_X10_ofSlab  (ke_18 k_35 (ix_lt g5)) ⟨hf.1, hf.2⟩ h6) ?_
    cases h
    exact SA.rf
theorem ff_X10_slipOf {a k : Nat} {v1 : Int32} {v2 : Int32} {z : St} {Rz : Int32 × St}  (hf : Nf_X10_slipOf  a k) (h : fn_X10_slipOf  v1 v2 z = some Rz) : SA z Rz.2 a k := by
  unfold fn_X10_slipOf at h
  obtain ⟨r2, z3, h1, h⟩ := bd_s h
  refine SA.tr (ff_X1_isPiece  k_34 trivial h1) ?_
  rcases Decidable.em (r2 = 0) with c4 | c4
  · rw [if_pos c4] at h
    cases h
    exact SA.rf
  · rw [if_neg c4] at h
    obtain ⟨g5, h⟩ := gd_s h
    obtain ⟨z7, h6, h⟩ := bv_s h
    refine SA.tr (ff_X10_measure  (ke_18 k_35 (ix_lt g5)) hf.1 h6) ?_
    obtain ⟨g8, h⟩ := gd_s h
    obtain ⟨r10, z11, h9, h⟩ := bd_s h
    refine SA.tr (ff_X9_along  (ke_18 k_35 (ix_lt g8)) trivial h9) ?_
    obtain ⟨z12, e_z12, h⟩ := nm_s h
    refine SA.tr (sa_Ia e_z12 hf.1) ?_
    obtain ⟨r14, z15, h13, h⟩ := bd_s h
    refine SA.tr (ff_X2_outcome  k_14 k_144 hf.2 h13) ?_
    cases h
    exact SA.rf
theorem ff_X10_enviedBy_105 {a k : Nat} (hf : Nf_X10_enviedBy  a k) {k34 : Int32 → Int32 → Int32 → Int32 → St → Option (Int32 × St)} (hk_34 : ∀ (v1 : Int32) (v2 : Int32) (v3 : Int32) (v4 : Int32) (z : St)  (Rz : Int32 × St), k34 v1 v2 v3 v4 z = some Rz → SA z Rz.2 a k) (v1 : Int32) (v2 : Int32) (v3 : Int32) (v4 : Int32) (z : St)  {Rz : Int32 × St} (h : fn_X10_enviedBy_105  k34 v1 v2 v3 v4 z = some Rz) : SA z Rz.2 a k := by
  unfold fn_X10_enviedBy_105 at h
  exact hk_34 v1 v2 v3 (v4 + 1) z  _ h
theorem ff_X10_enviedBy_71 {a k : Nat} (hf : Nf_X10_enviedBy  a k) {k34 : Int32 → Int32 → Int32 → Int32 → St → Option (Int32 × St)} (hk_34 : ∀ (v1 : Int32) (v2 : Int32) (v3 : Int32) (v4 : Int32) (z : St)  (Rz : Int32 × St), k34 v1 v2 v3 v4 z = some Rz → SA z Rz.2 a k) (v1 : Int32) (v2 : Int32) (v3 : Int32) (v4 : Int32) (tv0 : Int32) (z : St)  {Rz : Int32 × St} (h : fn_X10_enviedBy_71  k34 v1 v2 v3 v4 tv0 z = some Rz) : SA z Rz.2 a k := by
  unfold fn_X10_enviedBy_71 at h
  rcases Decidable.em (tv0 = 0) with c1 | c1
  · rw [if_pos c1] at h
    exact ff_X10_enviedBy_105  hf  hk_34 v1 v2 v3 v4 z  h
  · rw [if_neg c1] at h
    obtain ⟨g2, h⟩ := gd_s h
    obtain ⟨r4, z5, h3, h⟩ := bd_s h
    refine SA.tr (ff_X10_ofPiece   ⟨hf.1, hf.2⟩ h3) ?_
    rcases Decidable.em (r4 ≤ v2) with c6 | c6
    · rw [if_pos c6] at h
      exact ff_X10_enviedBy_105  hf  hk_34 v1 v2 v3 v4 z5  h
    · rw [if_neg c6] at h
      obtain ⟨v3_7, e_v3_7, h⟩ := nm_s h
      exact ff_X10_enviedBy_105  hf  hk_34 v1 v2 v3_7 v4 z5  h
theorem ff_X10_enviedBy_70 {a k : Nat} (hf : Nf_X10_enviedBy  a k) {k34 : Int32 → Int32 → Int32 → Int32 → St → Option (Int32 × St)} (hk_34 : ∀ (v1 : Int32) (v2 : Int32) (v3 : Int32) (v4 : Int32) (z : St)  (Rz : Int32 × St), k34 v1 v2 v3 v4 z = some Rz → SA z Rz.2 a k) (v1 : Int32) (v2 : Int32) (v3 : Int32) (v4 : Int32) (z : St)  {Rz : Int32 × St} (h : fn_X10_enviedBy_70  k34 v1 v2 v3 v4 z = some Rz) : SA z Rz.2 a k := by
  unfold fn_X10_enviedBy_70 at h
  exact ff_X10_enviedBy_71  hf  hk_34 v1 v2 v3 v4 0 z  h
theorem ff_X10_enviedBy_34 {a k : Nat} (hf : Nf_X10_enviedBy  a k) : ∀ (n : Nat) (v1 : Int32) (v2 : Int32) (v3 : Int32) (v4 : Int32) (z : St)  (Rz : Int32 × St), fn_X10_enviedBy_34   n v1 v2 v3 v4 z = some Rz → SA z Rz.2 a k := by
  intro n
  induction n with
  | zero => intro v1 v2 v3 v4 z  Rz h; cases h
  | succ n ih =>
    intro v1 v2 v3 v4 z  Rz h
    rw [fn_X10_enviedBy_34] at h
    rcases Decidable.em ((z.1 2 5) ≤ v4) with c1 | c1
    · rw [if_pos c1] at h
      cases h
      exact SA.rf
    · rw [if_neg c1] at h
      rcases Decidable.em (v4 = v1) with c2 | c2
      · rw [if_pos c2] at h
        exact ff_X10_enviedBy_70  hf  ih v1 v2 v3 v4 z  h
      · rw [if_neg c2] at h
        obtain ⟨g3, h⟩ := gd_s h
        rcases Decidable.em ((z.1 60 (Int32.toNatClampNeg v4)) = (-1)) with c4 | c4
        · rw [if_pos c4] at h
          exact ff_X10_enviedBy_70  hf  ih v1 v2 v3 v4 z  h
        · rw [if_neg c4] at h
          exact ff_X10_enviedBy_71  hf  ih v1 v2 v3 v4 1 z  h
theorem ff_X10_enviedBy {a k : Nat} {v1 : Int32} {z : St} {Rz : Int32 × St}  (hf : Nf_X10_enviedBy  a k) (h : fn_X10_enviedBy  v1 z = some Rz) : SA z Rz.2 a k := by
  unfold fn_X10_enviedBy at h
  obtain ⟨r2, z3, h1, h⟩ := bd_s h
  refine SA.tr (ff_X7_isGuest  k_2 trivial h1) ?_
  rcases Decidable.em (r2 = 0) with c4 | c4
  · rw [if_pos c4] at h
    cases h
    exact SA.rf
  · rw [if_neg c4] at h
    obtain ⟨g5, h⟩ := gd_s h
    obtain ⟨r7, z8, h6, h⟩ := bd_s h
    refine SA.tr (ff_X10_ofPiece   ⟨hf.1, hf.2⟩ h6) ?_
    exact ff_X10_enviedBy_34  hf   fu v1 r7 0 0 z8  _ h
theorem ff_X10_exchanged {a k : Nat} {v0 : Int32} {v1 : Int32} {v2 : Int32} {z : St} {Rz : Int32 × St}  (hf : Nf_X10_exchanged  a k) (h : fn_X10_exchanged  v0 v1 v2 z = some Rz) : SA z Rz.2 a k := by
  unfold fn_X10_exchanged at h
  rcases Decidable.em (v0 = v1) with c1 | c1
  · rw [if_pos c1] at h
    cases h
    exact SA.rf
  · rw [if_neg c1] at h
    rcases Decidable.em (v0 = v2) with c2 | c2
    · rw [if_pos c2] at h
      cases h
      exact SA.rf
    · rw [if_neg c2] at h
      cases h
      exact SA.rf
theorem ff_X10_enviesAfter_112 {a k : Nat} (hf : Nf_X10_enviesAfter  a k) {k5 : Int32 → Int32 → Int32 → Int32 → St → Option (Int32 × St)} (hk_5 : ∀ (v1 : Int32) (v2 : Int32) (v3 : Int32) (v4 : Int32) (z : St)  (Rz : Int32 × St), k5 v1 v2 v3 v4 z = some Rz → SA z Rz.2 a k) {k44 : Int32 → Int32 → Int32 → Int32 → Int32 → Int32 → Int32 → St → Option (Int32 × St)} (hk_44 : ∀ (v1 : Int32) (v2 : Int32) (v3 : Int32) (v4 : Int32) (v5 : Int32) (v6 : Int32) (v7 : Int32) (z : St)  (Rz : Int32 × St), k44 v1 v2 v3 v4 v5 v6 v7 z = some Rz → SA z Rz.2 a k) (v1 : Int32) (v2 : Int32) (v3 : Int32) (v4 : Int32) (v5 : Int32) (v6 : Int32) (v7 : Int32) (z : St)  {Rz : Int32 × St} (h : fn_X10_enviesAfter_112  k5 k44 v1 v2 v3 v4 v5 v6 v7 z = some Rz) : SA z Rz.2 a k := by
  unfold fn_X10_enviesAfter_112 at h
  exact hk_44 v1 v2 v3 v4 v5 v6 (v7 + 1) z  _ h
theorem ff_X10_enviesAfter_82 {a k : Nat} (hf : Nf_X10_enviesAfter  a k) {k5 : Int32 → Int32 → Int32 → Int32 → St → Option (Int32 × St)} (hk_5 : ∀ (v1 : Int32) (v2 : Int32) (v3 : Int32) (v4 : Int32) (z : St)  (Rz : Int32 × St), k5 v1 v2 v3 v4 z = some Rz → SA z Rz.2 a k) {k44 : Int32 → Int32 → Int32 → Int32 → Int32 → Int32 → Int32 → St → Option (Int32 × St)} (hk_44 : ∀ (v1 : Int32) (v2 : Int32) (v3 : Int32) (v4 : Int32) (v5 : Int32) (v6 : Int32) (v7 : Int32) (z : St)  (Rz : Int32 × St), k44 v1 v2 v3 v4 v5 v6 v7 z = some Rz → SA z Rz.2 a k) (v1 : Int32) (v2 : Int32) (v3 : Int32) (v4 : Int32) (v5 : Int32) (v6 : Int32) (v7 : Int32) (tv0 : Int32) (z : St)  {Rz : Int32 × St} (h : fn_X10_enviesAfter_82  k5 k44 v1 v2 v3 v4 v5 v6 v7 tv0 z = some Rz) : SA z Rz.2 a k := by
  unfold fn_X10_enviesAfter_82 at h
  rcases Decidable.em (tv0 = 0) with c1 | c1
  · rw [if_pos c1] at h
    exact ff_X10_enviesAfter_112  hf  hk_5 hk_44 v1 v2 v3 v4 v5 v6 v7 z  h
  · rw [if_neg c1] at h
    obtain ⟨r3, z4, h2, h⟩ := bd_s h
    refine SA.tr (ff_X10_exchanged   trivial h2) ?_
    obtain ⟨g5, h⟩ := gd_s h
    rcases Decidable.em ((z4.1 145 (Int32.toNatClampNeg (v5 + r3))) ≤ v6) with c6 | c6
    · rw [if_pos c6] at h
      exact ff_X10_enviesAfter_112  hf  hk_5 hk_44 v1 v2 v3 v4 v5 v6 v7 z4  h
    · rw [if_neg c6] at h
      exact ff_X10_enviesAfter_112  hf  hk_5 hk_44 v1 v2 (v3 + 1) v4 v5 v6 v7 z4  h
theorem ff_X10_enviesAfter_81 {a k : Nat} (hf : Nf_X10_enviesAfter  a k) {k5 : Int32 → Int32 → Int32 → Int32 → St → Option (Int32 × St)} (hk_5 : ∀ (v1 : Int32) (v2 : Int32) (v3 : Int32) (v4 : Int32) (z : St)  (Rz : Int32 × St), k5 v1 v2 v3 v4 z = some Rz → SA z Rz.2 a k) {k44 : Int32 → Int32 → Int32 → Int32 → Int32 → Int32 → Int32 → St → Option (Int32 × St)} (hk_44 : ∀ (v1 : Int32) (v2 : Int32) (v3 : Int32) (v4 : Int32) (v5 : Int32) (v6 : Int32) (v7 : Int32) (z : St)  (Rz : Int32 × St), k44 v1 v2 v3 v4 v5 v6 v7 z = some Rz → SA z Rz.2 a k) (v1 : Int32) (v2 : Int32) (v3 : Int32) (v4 : Int32) (v5 : Int32) (v6 : Int32) (v7 : Int32) (z : St)  {Rz : Int32 × St} (h : fn_X10_enviesAfter_81  k5 k44 v1 v2 v3 v4 v5 v6 v7 z = some Rz) : SA z Rz.2 a k := by
  unfold fn_X10_enviesAfter_81 at h
  exact ff_X10_enviesAfter_82  hf  hk_5 hk_44 v1 v2 v3 v4 v5 v6 v7 0 z  h
theorem ff_X10_enviesAfter_44 {a k : Nat} (hf : Nf_X10_enviesAfter  a k) {k5 : Int32 → Int32 → Int32 → Int32 → St → Option (Int32 × St)} (hk_5 : ∀ (v1 : Int32) (v2 : Int32) (v3 : Int32) (v4 : Int32) (z : St)  (Rz : Int32 × St), k5 v1 v2 v3 v4 z = some Rz → SA z Rz.2 a k) : ∀ (n : Nat) (v1 : Int32) (v2 : Int32) (v3 : Int32) (v4 : Int32) (v5 : Int32) (v6 : Int32) (v7 : Int32) (z : St)  (Rz : Int32 × St), fn_X10_enviesAfter_44  k5 n v1 v2 v3 v4 v5 v6 v7 z = some Rz → SA z Rz.2 a k := by
  intro n
  induction n with
  | zero => intro v1 v2 v3 v4 v5 v6 v7 z  Rz h; cases h
  | succ n ih =>
    intro v1 v2 v3 v4 v5 v6 v7 z  Rz h
    rw [fn_X10_enviesAfter_44] at h
    rcases Decidable.em ((z.1 2 5) ≤ v7) with c1 | c1
    · rw [if_pos c1] at h
      exact hk_5 v1 v2 v3 (v4 + 1) z  _ h
    · rw [if_neg c1] at h
      rcases Decidable.em (v7 = v4) with c2 | c2
      · rw [if_pos c2] at h
        exact ff_X10_enviesAfter_81  hf  hk_5 ih v1 v2 v3 v4 v5 v6 v7 z  h
      · rw [if_neg c2] at h
        obtain ⟨g3, h⟩ := gd_s h
        rcases Decidable.em ((z.1 60 (Int32.toNatClampNeg v7)) = (-1)) with c4 | c4
        · rw [if_pos c4] at h
          exact ff_X10_enviesAfter_81  hf  hk_5 ih v1 v2 v3 v4 v5 v6 v7 z  h
        · rw [if_neg c4] at h
          exact ff_X10_enviesAfter_82  hf  hk_5 ih v1 v2 v3 v4 v5 v6 v7 1 z  h
theorem ff_X10_enviesAfter_5 {a k : Nat} (hf : Nf_X10_enviesAfter  a k) : ∀ (n : Nat) (v1 : Int32) (v2 : Int32) (v3 : Int32) (v4 : Int32) (z : St)  (Rz : Int32 × St), fn_X10_enviesAfter_5   n v1 v2 v3 v4 z = some Rz → SA z Rz.2 a k := by
  intro n
  induction n with
  | zero => intro v1 v2 v3 v4 z  Rz h; cases h
  | succ n ih =>
    intro v1 v2 v3 v4 z  Rz h
    rw [fn_X10_enviesAfter_5] at h
    rcases Decidable.em ((z.1 2 5) ≤ v4) with c1 | c1
    · rw [if_pos c1] at h
      cases h
      exact SA.rf
    · rw [if_neg c1] at h
      obtain ⟨v5_2, e_v5_2, h⟩ := nm_s h
      obtain ⟨r4, z5, h3, h⟩ := bd_s h
      refine SA.tr (ff_X10_exchanged   trivial h3) ?_
      obtain ⟨g6, h⟩ := gd_s h
      obtain ⟨v6_7, e_v6_7, h⟩ := nm_s h
      exact ff_X10_enviesAfter_44  hf  ih fu v1 v2 v3 v4 v5_2 v6_7 0 z5  _ h
theorem ff_X10_enviesAfter {a k : Nat} {v1 : Int32} {v2 : Int32} {z : St} {Rz : Int32 × St}  (hf : Nf_X10_enviesAfter  a k) (h : fn_X10_enviesAfter  v1 v2 z = some Rz) : SA z Rz.2 a k := by
  unfold fn_X10_enviesAfter at h
  exact ff_X10_enviesAfter_5  hf   fu v1 v2 0 0 z  _ h
theorem ff_X10_findCalm_15 {a k : Nat} (hf : Nf_X10_findCalm  a k) {k2 : Int32 → St → Option (Int32 × St)} (hk_2 : ∀ (v1 : Int32) (z : St)  (Rz : Int32 × St), k2 v1 z = some Rz → SA z Rz.2 a k) : ∀ (n : Nat) (v1 : Int32) (v2 : Int32) (z : St)  (Rz : Int32 × St), fn_X10_findCalm_15  k2 n v1 v2 z = some Rz → SA z Rz.2 a k := by
  intro n
  induction n with
  | zero => intro v1 v2 z  Rz h; cases h
  | succ n ih =>
    intro v1 v2 z  Rz h
    rw [fn_X10_findCalm_15] at h
    rcases Decidable.em ((z.1 2 5) ≤ v2) with c1 | c1
    · rw [if_pos c1] at h
      exact hk_2 (v1 + 1) z  _ h
    · rw [if_neg c1] at h
      obtain ⟨g2, h⟩ := gd_s h
      obtain ⟨r4, z5, h3, h⟩ := bd_s h
      refine SA.tr (ff_X10_ofPiece   ⟨hf.1, hf.2.1⟩ h3) ?_
      obtain ⟨g6, h⟩ := gd_s h
      obtain ⟨z7, e_z7, h⟩ := nm_s h
      refine SA.tr (sa_Ia e_z7 hf.2.2.1) ?_
      exact ih v1 (v2 + 1) z7  _ h
theorem ff_X10_findCalm_165 {a k : Nat} (hf : Nf_X10_findCalm  a k) {k78 : Int32 → Int32 → St → Option (Int32 × St)} (hk_78 : ∀ (v1 : Int32) (v2 : Int32) (z : St)  (Rz : Int32 × St), k78 v1 v2 z = some Rz → SA z Rz.2 a k) {k93 : Int32 → Int32 → Int32 → St → Option (Int32 × St)} (hk_93 : ∀ (v1 : Int32) (v2 : Int32) (v3 : Int32) (z : St)  (Rz : Int32 × St), k93 v1 v2 v3 z = some Rz → SA z Rz.2 a k) (v1 : Int32) (v2 : Int32) (v3 : Int32) (z : St)  {Rz : Int32 × St} (h : fn_X10_findCalm_165  k78 k93 v1 v2 v3 z = some Rz) : SA z Rz.2 a k := by
  unfold fn_X10_findCalm_165 at h
  exact hk_93 v1 v2 (v3 + 1) z  _ h
theorem ff_X10_findCalm_93 {a k : Nat} (hf : Nf_X10_findCalm  a k) {k78 : Int32 → Int32 → St → Option (Int32 × St)} (hk_78 : ∀ (v1 : Int32) (v2 : Int32) (z : St)  (Rz : Int32 × St), k78 v1 v2 z = some Rz → SA z Rz.2 a k) : ∀ (n : Nat) (v1 : Int32) (v2 : Int32) (v3 : Int32) (z : St)  (Rz : Int32 × St), fn_X10_findCalm_93  k78 n v1 v2 v3 z = some Rz → SA z Rz.2 a k := by
  intro n
  induction n with
  | zero => intro v1 v2 v3 z  Rz h; cases h
  | succ n ih =>
    intro v1 v2 v3 z  Rz h
    rw [fn_X10_findCalm_93] at h
    rcases Decidable.em ((z.1 2 5) ≤ v3) with c1 | c1
    · rw [if_pos c1] at h
      exact hk_78 v1 (v2 + 1) z  _ h
    · rw [if_neg c1] at h
      obtain ⟨g2, h⟩ := gd_s h
      rcases Decidable.em ((z.1 60 (Int32.toNatClampNeg v2)) = (-1)) with c3 | c3
      · rw [if_pos c3] at h
        exact ff_X10_findCalm_165  hf  hk_78 ih v1 v2 v3 z  h
      · rw [if_neg c3] at h
        obtain ⟨g4, h⟩ := gd_s h
        rcases Decidable.em ((z.1 60 (Int32.toNatClampNeg v3)) = (-1)) with c5 | c5
        · rw [if_pos c5] at h
          exact ff_X10_findCalm_165  hf  hk_78 ih v1 v2 v3 z  h
        · rw [if_neg c5] at h
          obtain ⟨r7, z8, h6, h⟩ := bd_s h
          refine SA.tr (ff_X10_enviesAfter   trivial h6) ?_
          rcases Decidable.em ((z8.1 143 6) ≤ r7) with c9 | c9
          · rw [if_pos c9] at h
            exact ff_X10_findCalm_165  hf  hk_78 ih v1 v2 v3 z8  h
          · rw [if_neg c9] at h
            obtain ⟨z10, e_z10, h⟩ := nm_s h
            refine SA.tr (sa_I e_z10 hf.2.2.2.1) ?_
            obtain ⟨z11, e_z11, h⟩ := nm_s h
            refine SA.tr (sa_I e_z11 hf.2.2.2.2.1) ?_
            obtain ⟨z12, e_z12, h⟩ := nm_s h
            refine SA.tr (sa_I e_z12 hf.2.2.2.2.2) ?_
            exact ff_X10_findCalm_165  hf  hk_78 ih 1 v2 v3 z12  h
theorem ff_X10_findCalm_78 {a k : Nat} (hf : Nf_X10_findCalm  a k) : ∀ (n : Nat) (v1 : Int32) (v2 : Int32) (z : St)  (Rz : Int32 × St), fn_X10_findCalm_78   n v1 v2 z = some Rz → SA z Rz.2 a k := by
  intro n
  induction n with
  | zero => intro v1 v2 z  Rz h; cases h
  | succ n ih =>
    intro v1 v2 z  Rz h
    rw [fn_X10_findCalm_78] at h
    rcases Decidable.em ((z.1 2 5) ≤ v2) with c1 | c1
    · rw [if_pos c1] at h
      obtain ⟨g2, h⟩ := gd_s h
      cases h
      exact SA.rf
    · rw [if_neg c1] at h
      obtain ⟨v3_3, e_v3_3, h⟩ := nm_s h
      exact ff_X10_findCalm_93  hf  ih fu v1 v2 v3_3 z  _ h
theorem ff_X10_findCalm_2 {a k : Nat} (hf : Nf_X10_findCalm  a k) : ∀ (n : Nat) (v1 : Int32) (z : St)  (Rz : Int32 × St), fn_X10_findCalm_2   n v1 z = some Rz → SA z Rz.2 a k := by
  intro n
  induction n with
  | zero => intro v1 z  Rz h; cases h
  | succ n ih =>
    intro v1 z  Rz h
    rw [fn_X10_findCalm_2] at h
    rcases Decidable.em ((z.1 2 5) ≤ v1) with c1 | c1
    · rw [if_pos c1] at h
      obtain ⟨r3, z4, h2, h⟩ := bd_s h
      refine SA.tr (ff_X10_enviesAfter   trivial h2) ?_
      obtain ⟨z5, e_z5, h⟩ := nm_s h
      refine SA.tr (sa_I e_z5 hf.2.2.2.2.2) ?_
      exact ff_X10_findCalm_78  hf   fu 0 0 z5  _ h
    · rw [if_neg c1] at h
      exact ff_X10_findCalm_15  hf  ih fu v1 0 z  _ h
theorem ff_X10_findCalm {a k : Nat}  {z : St} {Rz : Int32 × St}  (hf : Nf_X10_findCalm  a k) (h : fn_X10_findCalm   z = some Rz) : SA z Rz.2 a k := by
  unfold fn_X10_findCalm at h
  exact ff_X10_findCalm_2  hf   fu 0 z  _ h
theorem ff_X0_forget {a k : Nat}  {z : St} {Rz : St}  (hf : Nf_X0_forget  a k) (h : fn_X0_forget   z = some Rz) : SA z Rz a k := by
  unfold fn_X0_forget at h
  obtain ⟨z1, e_z1, h⟩ := nm_s h
  refine SA.tr (sa_I e_z1 hf.1) ?_
  obtain ⟨z2, e_z2, h⟩ := nm_s h
  refine SA.tr (sa_I e_z2 hf.2) ?_
  cases h
  exact SA.rf
theorem ff_X0_carryOut {a k : Nat} {v1 : Int32} {z : St} {Rz : St}  (hf : Nf_X0_carryOut  a k) (h : fn_X0_carryOut  v1 z = some Rz) : SA z Rz a k := by
  unfold fn_X0_carryOut at h
  obtain ⟨g1, h⟩ := gd_s h
  by_cases c2 : (z.1 147 (Int32.toNatClampNeg v1)) = 0
  · rw [if_pos c2] at h
    obtain ⟨g3, h⟩ := gd_s h
    obtain ⟨g4, h⟩ := gd_s h
    obtain ⟨g5, h⟩ := gd_s h
    obtain ⟨g6, h⟩ := gd_s h
    obtain ⟨g7, h⟩ := gd_s h
    obtain ⟨r9, z10, h8, h⟩ := bd_s h
    refine SA.tr (ff_X10_slipOf   ⟨hf.1, hf.2.1⟩ h8) ?_
    obtain ⟨z12, h11, h⟩ := bv_s h
    refine SA.tr (ff_X1_split  k_34 ⟨hf.2.2.1, hf.2.2.2.1, hf.2.2.2.2.1, hf.2.2.2.2.2.1, hf.2.2.2.2.2.2.1, hf.2.2.2.2.2.2.2.1, hf.2.2.2.2.2.2.2.2.1, hf.2.2.2.2.2.2.2.2.2.1, hf.2.2.2.2.2.2.2.2.2.2.1, hf.2.2.2.2.2.2.2.2.2.2.2.1⟩ h11) ?_
    cases h
    exact SA.rf
  rw [if_neg c2] at h
  by_cases c13 : (z.1 147 (Int32.toNatClampNeg v1)) = 1
  · rw [if_pos c13] at h
    obtain ⟨g14, h⟩ := gd_s h
    obtain ⟨g15, h⟩ := gd_s h
    obtain ⟨z17, h16, h⟩ := bv_s h
    refine SA.tr (ff_X1_put  k_34 ⟨hf.2.2.2.2.2.2.2.2.2.1, hf.2.2.2.2.2.2.2.2.2.2.2.2⟩ h16) ?_
    cases h
    exact SA.rf
  rw [if_neg c13] at h
  by_cases c18 : (z.1 147 (Int32.toNatClampNeg v1)) = 2
  · rw [if_pos c18] at h
    obtain ⟨g19, h⟩ := gd_s h
    obtain ⟨g20, h⟩ := gd_s h
    obtain ⟨z22, h21, h⟩ := bv_s h
    refine SA.tr (ff_X1_lift  k_34 ⟨hf.2.2.2.2.2.2.2.2.2.1, hf.2.2.2.2.2.2.2.2.2.2.2.2⟩ h21) ?_
    cases h
    exact SA.rf
  rw [if_neg c18] at h
  obtain ⟨g23, h⟩ := gd_s h
  obtain ⟨g24, h⟩ := gd_s h
  obtain ⟨z26, h25, h⟩ := bv_s h
  refine SA.tr (ff_X1_trade  k_34 ⟨hf.2.2.2.2.2.2.2.2.2.1, hf.2.2.2.2.2.2.2.2.2.2.2.2⟩ h25) ?_
  cases h
  exact SA.rf
theorem ff_X0_dropOldest_2 {a k : Nat} (hf : Nf_X0_dropOldest  a k) : ∀ (n : Nat) (v1 : Int32) (z : St)  (Rz : St), fn_X0_dropOldest_2   n v1 z = some Rz → SA z Rz a k := by
  intro n
  induction n with
  | zero => intro v1 z  Rz h; cases h
  | succ n ih =>
    intro v1 z  Rz h
    rw [fn_X0_dropOldest_2] at h
    rcases Decidable.em (40 ≤ v1) with c1 | c1
    · rw [if_pos c1] at h
      obtain ⟨z2, e_z2, h⟩ := nm_s h
      refine SA.tr (sa_I e_z2 hf.1) ?_
      cases h
      exact SA.rf
    · rw [if_neg c1] at h
      obtain ⟨g3, h⟩ := gd_s h
      obtain ⟨g4, h⟩ := gd_s h
      obtain ⟨z5, e_z5, h⟩ := nm_s h
      refine SA.tr (sa_Ia e_z5 hf.2.1) ?_
      obtain ⟨g6, h⟩ := gd_s h
      obtain ⟨g7, h⟩ := gd_s h
      obtain ⟨z8, e_z8, h⟩ := nm_s h
      refine SA.tr (sa_Ia e_z8 hf.2.2.1) ?_
      obtain ⟨g9, h⟩ := gd_s h
      obtain ⟨g10, h⟩ := gd_s h
      obtain ⟨z11, e_z11, h⟩ := nm_s h
      refine SA.tr (sa_Ia e_z11 hf.2.2.2.1) ?_
      obtain ⟨g12, h⟩ := gd_s h
      obtain ⟨g13, h⟩ := gd_s h
      obtain ⟨z14, e_z14, h⟩ := nm_s h
      refine SA.tr (sa_Ia e_z14 hf.2.2.2.2.1) ?_
      obtain ⟨g15, h⟩ := gd_s h
      obtain ⟨g16, h⟩ := gd_s h
      obtain ⟨z17, e_z17, h⟩ := nm_s h
      refine SA.tr (sa_Ia e_z17 hf.2.2.2.2.2.1) ?_
      obtain ⟨g18, h⟩ := gd_s h
      obtain ⟨g19, h⟩ := gd_s h
      obtain ⟨z20, e_z20, h⟩ := nm_s h
      refine SA.tr (sa_Ia e_z20 hf.2.2.2.2.2.2) ?_
      exact ih (v1 + 1) z20  _ h
theorem ff_X0_dropOldest {a k : Nat}  {z : St} {Rz : St}  (hf : Nf_X0_dropOldest  a k) (h : fn_X0_dropOldest   z = some Rz) : SA z Rz a k := by
  unfold fn_X0_dropOldest at h
  exact ff_X0_dropOldest_2  hf   fu 1 z  _ h
theorem ff_X0_perform_13 {a k : Nat} (hf : Nf_X0_perform  a k) (v1 : Int32) (v2 : Int32) (v3 : Int32) (v4 : Int32) (z : St)  {Rz : St} (h : fn_X0_perform_13   v1 v2 v3 v4 z = some Rz) : SA z Rz a k := by
  unfold fn_X0_perform_13 at h
  obtain ⟨g1, h⟩ := gd_s h
  obtain ⟨z2, e_z2, h⟩ := nm_s h
  refine SA.tr (sa_Ia e_z2 hf.1) ?_
  obtain ⟨g3, h⟩ := gd_s h
  obtain ⟨z4, e_z4, h⟩ := nm_s h
  refine SA.tr (sa_Ia e_z4 hf.2.1) ?_
  obtain ⟨g5, h⟩ := gd_s h
  obtain ⟨z6, e_z6, h⟩ := nm_s h
  refine SA.tr (sa_Ia e_z6 hf.2.2.1) ?_
  obtain ⟨g7, h⟩ := gd_s h
  obtain ⟨z8, e_z8, h⟩ := nm_s h
  refine SA.tr (sa_Ia e_z8 hf.2.2.2.1) ?_
  obtain ⟨g9, h⟩ := gd_s h
  obtain ⟨z10, e_z10, h⟩ := nm_s h
  refine SA.tr (sa_Ia e_z10 hf.2.2.2.2.1) ?_
  obtain ⟨g11, h⟩ := gd_s h
  obtain ⟨z12, e_z12, h⟩ := nm_s h
  refine SA.tr (sa_Ia e_z12 hf.2.2.2.2.2.1) ?_
  obtain ⟨z14, h13, h⟩ := bv_s h
  refine SA.tr (ff_X0_carryOut   ⟨hf.2.2.2.2.2.2.1, hf.2.2.2.2.2.2.2.1, hf.2.2.2.2.2.2.2.2.1, hf.2.2.2.2.2.2.2.2.2.1, hf.2.2.2.2.2.2.2.2.2.2.1, hf.2.2.2.2.2.2.2.2.2.2.2.1, hf.2.2.2.2.2.2.2.2.2.2.2.2.1, hf.2.2.2.2.2.2.2.2.2.2.2.2.2.1, hf.2.2.2.2.2.2.2.2.2.2.2.2.2.2.1, hf.2.2.2.2.2.2.2.2.2.2.2.2.2.2.2.1, hf.2.2.2.2.2.2.2.2.2.2.2.2.2.2.2.2.1, hf.2.2.2.2.2.2.2.2.2.2.2.2.2.2.2.2.2.1, hf.2.2.2.2.2.2.2.2.2.2.2.2.2.2.2.2.2.2.1⟩ h13) ?_
  obtain ⟨z15, e_z15, h⟩ := nm_s h
  refine SA.tr (sa_I e_z15 hf.2.2.2.2.2.2.2.2.2.2.2.2.2.2.2.2.2.2.2.1) ?_
  obtain ⟨z16, e_z16, h⟩ := nm_s h
  refine SA.tr (sa_I e_z16 hf.2.2.2.2.2.2.2.2.2.2.2.2.2.2.2.2.2.2.2.2) ?_
  cases h
  exact SA.rf
theorem ff_X0_perform {a k : Nat} {v1 : Int32} {v2 : Int32} {v3 : Int32} {v4 : Int32} {z : St} {Rz : St}  (hf : Nf_X0_perform  a k) (h : fn_X0_perform  v1 v2 v3 v4 z = some Rz) : SA z Rz a k := by
  unfold fn_X0_perform at h
  rcases Decidable.em ((z.1 146 9) < 40) with c1 | c1
  · rw [if_pos c1] at h
    exact ff_X0_perform_13  hf   v1 v2 v3 v4 z  h
  · rw [if_neg c1] at h
    obtain ⟨z3, h2, h⟩ := bv_s h
    refine SA.tr (ff_X0_dropOldest   ⟨hf.2.2.2.2.2.2.2.2.2.2.2.2.2.2.2.2.2.2.2.1, hf.1, hf.2.1, hf.2.2.1, hf.2.2.2.1, hf.2.2.2.2.1, hf.2.2.2.2.2.1⟩ h2) ?_
    exact ff_X0_perform_13  hf   v1 v2 v3 v4 z3  h
theorem ff_X0_reverse {a k : Nat} {v1 : Int32} {z : St} {Rz : St}  (hf : Nf_X0_reverse  a k) (h : fn_X0_reverse  v1 z = some Rz) : SA z Rz a k := by
  unfold fn_X0_reverse at h
  obtain ⟨g1, h⟩ := gd_s h
  by_cases c2 : (z.1 147 (Int32.toNatClampNeg v1)) = 0
  · rw [if_pos c2] at h
    obtain ⟨g3, h⟩ := gd_s h
    obtain ⟨g4, h⟩ := gd_s h
    obtain ⟨z6, h5, h⟩ := bv_s h
    refine SA.tr (ff_X1_rejoin  k_34 ⟨hf.1, hf.2.1, hf.2.2.1⟩ h5) ?_
    obtain ⟨g7, h⟩ := gd_s h
    obtain ⟨z8, e_z8, h⟩ := nm_s h
    refine SA.tr (sa_I e_z8 hf.2.2.2.1) ?_
    obtain ⟨g9, h⟩ := gd_s h
    obtain ⟨z10, e_z10, h⟩ := nm_s h
    refine SA.tr (sa_I e_z10 hf.2.2.2.2.1) ?_
    cases h
    exact SA.rf
  rw [if_neg c2] at h
  by_cases c11 : (z.1 147 (Int32.toNatClampNeg v1)) = 1
  · rw [if_pos c11] at h
    obtain ⟨g12, h⟩ := gd_s h
    obtain ⟨g13, h⟩ := gd_s h
    obtain ⟨z15, h14, h⟩ := bv_s h
    refine SA.tr (ff_X1_lift  k_34 ⟨hf.2.2.2.2.2.1, hf.2.2.2.2.2.2⟩ h14) ?_
    cases h
    exact SA.rf
  rw [if_neg c11] at h
  by_cases c16 : (z.1 147 (Int32.toNatClampNeg v1)) = 2
  · rw [if_pos c16] at h
    obtain ⟨g17, h⟩ := gd_s h
    obtain ⟨g18, h⟩ := gd_s h
    obtain ⟨z20, h19, h⟩ := bv_s h
    refine SA.tr (ff_X1_put  k_34 ⟨hf.2.2.2.2.2.1, hf.2.2.2.2.2.2⟩ h19) ?_
    cases h
    exact SA.rf
  rw [if_neg c16] at h
  obtain ⟨g21, h⟩ := gd_s h
  obtain ⟨g22, h⟩ := gd_s h
  obtain ⟨z24, h23, h⟩ := bv_s h
  refine SA.tr (ff_X1_trade  k_34 ⟨hf.2.2.2.2.2.1, hf.2.2.2.2.2.2⟩ h23) ?_
  cases h
  exact SA.rf
theorem ff_X0_takeBack {a k : Nat}  {z : St} {Rz : Int32 × St}  (hf : Nf_X0_takeBack  a k) (h : fn_X0_takeBack   z = some Rz) : SA z Rz.2 a k := by
  unfold fn_X0_takeBack at h
  rcases Decidable.em (0 < (z.1 146 9)) with c1 | c1
  · rw [if_pos c1] at h
    obtain ⟨z2, e_z2, h⟩ := nm_s h
    refine SA.tr (sa_I e_z2 hf.1) ?_
    obtain ⟨z4, h3, h⟩ := bv_s h
    refine SA.tr (ff_X0_reverse   ⟨hf.2.1, hf.2.2.1, hf.2.2.2.1, hf.2.2.2.2.1, hf.2.2.2.2.2.1, hf.2.2.2.2.2.2.1, hf.2.2.2.2.2.2.2⟩ h3) ?_
    cases h
    exact SA.rf
  · rw [if_neg c1] at h
    cases h
    exact SA.rf
theorem ff_X0_doAgain {a k : Nat}  {z : St} {Rz : Int32 × St}  (hf : Nf_X0_doAgain  a k) (h : fn_X0_doAgain   z = some Rz) : SA z Rz.2 a k := by
  unfold fn_X0_doAgain at h
  rcases Decidable.em ((z.1 146 10) ≤ (z.1 146 9)) with c1 | c1
  · rw [if_pos c1] at h
    cases h
    exact SA.rf
  · rw [if_neg c1] at h
    rcases Decidable.em ((z.1 146 9) < 40) with c2 | c2
    · rw [if_pos c2] at h
      obtain ⟨z4, h3, h⟩ := bv_s h
      refine SA.tr (ff_X0_carryOut   ⟨hf.1, hf.2.1, hf.2.2.1, hf.2.2.2.1, hf.2.2.2.2.1, hf.2.2.2.2.2.1, hf.2.2.2.2.2.2.1, hf.2.2.2.2.2.2.2.1, hf.2.2.2.2.2.2.2.2.1, hf.2.2.2.2.2.2.2.2.2.1, hf.2.2.2.2.2.2.2.2.2.2.1, hf.2.2.2.2.2.2.2.2.2.2.2.1, hf.2.2.2.2.2.2.2.2.2.2.2.2.1⟩ h3) ?_
      obtain ⟨z5, e_z5, h⟩ := nm_s h
      refine SA.tr (sa_I e_z5 hf.2.2.2.2.2.2.2.2.2.2.2.2.2) ?_
      cases h
      exact SA.rf
    · rw [if_neg c2] at h
      cases h
      exact SA.rf
theorem ff_X8_feeders_71 {a k : Nat} (hf : Nf_X8_feeders  a k) {k15 : Int32 → Int32 → Int32 → St → Option (Int32 × St)} (hk_15 : ∀ (v1 : Int32) (v2 : Int32) (v3 : Int32) (z : St)  (Rz : Int32 × St), k15 v1 v2 v3 z = some Rz → SA z Rz.2 a k) (v1 : Int32) (v2 : Int32) (v3 : Int32) (z : St)  {Rz : Int32 × St} (h : fn_X8_feeders_71  k15 v1 v2 v3 z = some Rz) : SA z Rz.2 a k := by
  unfold fn_X8_feeders_71 at h
  exact hk_15 v1 v2 (v3 + 1) z  _ h
theorem ff_X8_feeders_15 {a k : Nat} (hf : Nf_X8_feeders  a k) : ∀ (n : Nat) (v1 : Int32) (v2 : Int32) (v3 : Int32) (z : St)  (Rz : Int32 × St), fn_X8_feeders_15   n v1 v2 v3 z = some Rz → SA z Rz.2 a k := by
  intro n
  induction n with
  | zero => intro v1 v2 v3 z  Rz h; cases h
  | succ n ih =>
    intro v1 v2 v3 z  Rz h
    rw [fn_X8_feeders_15] at h
    rcases Decidable.em ((z.1 34 2) ≤ v3) with c1 | c1
    · rw [if_pos c1] at h
      cases h
      exact SA.rf
    · rw [if_neg c1] at h
      obtain ⟨r3, z4, h2, h⟩ := bd_s h
      refine SA.tr (ff_X1_isFree  k_34 trivial h2) ?_
      rcases Decidable.em (r3 = 0) with c5 | c5
      · rw [if_pos c5] at h
        exact ff_X8_feeders_71  hf  ih v1 v2 v3 z4  h
      · rw [if_neg c5] at h
        obtain ⟨g6, h⟩ := gd_s h
        obtain ⟨r8, z9, h7, h⟩ := bd_s h
        refine SA.tr (ff_X7_areaOf  k_2 (ke_18 k_35 (ix_lt g6)) trivial h7) ?_
        obtain ⟨g10, h⟩ := gd_s h
        rcases Decidable.em (r8 < (z9.1 8 (Int32.toNatClampNeg v1))) with c11 | c11
        · rw [if_pos c11] at h
          exact ff_X8_feeders_71  hf  ih v1 v2 v3 z9  h
        · rw [if_neg c11] at h
          obtain ⟨v2_12, e_v2_12, h⟩ := nm_s h
          exact ff_X8_feeders_71  hf  ih v1 v2_12 v3 z9  h
theorem ff_X8_feeders {a k : Nat} {v1 : Int32} {z : St} {Rz : Int32 × St}  (hf : Nf_X8_feeders  a k) (h : fn_X8_feeders  v1 z = some Rz) : SA z Rz.2 a k := by
  unfold fn_X8_feeders at h
  obtain ⟨r2, z3, h1, h⟩ := bd_s h
  refine SA.tr (ff_X7_isGuest  k_2 trivial h1) ?_
  rcases Decidable.em (r2 = 0) with c4 | c4
  · rw [if_pos c4] at h
    cases h
    exact SA.rf
  · rw [if_neg c4] at h
    exact ff_X8_feeders_15  hf   fu v1 0 0 z3  _ h
theorem ff_X8_matched_25 {a k : Nat} (hf : Nf_X8_matched  a k) {k4 : Int32 → Int32 → St → Option (Int32 × St)} (hk_4 : ∀ (v1 : Int32) (v2 : Int32) (z : St)  (Rz : Int32 × St), k4 v1 v2 z = some Rz → SA z Rz.2 a k) (v1 : Int32) (v2 : Int32) (z : St)  {Rz : Int32 × St} (h : fn_X8_matched_25  k4 v1 v2 z = some Rz) : SA z Rz.2 a k := by
  unfold fn_X8_matched_25 at h
  exact hk_4 v1 (v2 + 1) z  _ h
theorem ff_X8_matched_4 {a k : Nat} (hf : Nf_X8_matched  a k) : ∀ (n : Nat) (v1 : Int32) (v2 : Int32) (z : St)  (Rz : Int32 × St), fn_X8_matched_4   n v1 v2 z = some Rz → SA z Rz.2 a k := by
  intro n
  induction n with
  | zero => intro v1 v2 z  Rz h; cases h
  | succ n ih =>
    intro v1 v2 z  Rz h
    rw [fn_X8_matched_4] at h
    rcases Decidable.em ((z.1 153 4) ≤ v2) with c1 | c1
    · rw [if_pos c1] at h
      cases h
      exact SA.rf
    · rw [if_neg c1] at h
      obtain ⟨g2, h⟩ := gd_s h
      rcases Decidable.em ((z.1 155 (Int32.toNatClampNeg v2)) ≤ v1) with c3 | c3
      · rw [if_pos c3] at h
        exact ff_X8_matched_25  hf  ih v1 v2 z  h
      · rw [if_neg c3] at h
        exact ff_X8_matched_25  hf  ih (v1 + 1) v2 z  h
theorem ff_X8_matched {a k : Nat}  {z : St} {Rz : Int32 × St}  (hf : Nf_X8_matched  a k) (h : fn_X8_matched   z = some Rz) : SA z Rz.2 a k := by
  unfold fn_X8_matched at h
  exact ff_X8_matched_4  hf   fu 0 0 z  _ h
theorem ff_X8_addWanted_51 {a k : Nat} (hf : Nf_X8_addWanted  a k) (v1 : Int32) (v2 : Int32) (z : St)  {Rz : St} (h : fn_X8_addWanted_51   v1 v2 z = some Rz) : SA z Rz a k := by
  unfold fn_X8_addWanted_51 at h
  obtain ⟨g1, h⟩ := gd_s h
  obtain ⟨z2, e_z2, h⟩ := nm_s h
  refine SA.tr (sa_Ia e_z2 hf.1) ?_
  obtain ⟨z3, e_z3, h⟩ := nm_s h
  refine SA.tr (sa_I e_z3 hf.2) ?_
  cases h
  exact SA.rf
theorem ff_X8_addWanted_15 {a k : Nat} (hf : Nf_X8_addWanted  a k) : ∀ (n : Nat) (v1 : Int32) (v2 : Int32) (z : St)  (Rz : St), fn_X8_addWanted_15   n v1 v2 z = some Rz → SA z Rz a k := by
  intro n
  induction n with
  | zero => intro v1 v2 z  Rz h; cases h
  | succ n ih =>
    intro v1 v2 z  Rz h
    rw [fn_X8_addWanted_15] at h
    rcases Decidable.em (v2 ≤ 0) with c1 | c1
    · rw [if_pos c1] at h
      exact ff_X8_addWanted_51  hf   v1 v2 z  h
    · rw [if_neg c1] at h
      obtain ⟨g2, h⟩ := gd_s h
      rcases Decidable.em (v1 ≤ (z.1 154 (Int32.toNatClampNeg (v2 - 1)))) with c3 | c3
      · rw [if_pos c3] at h
        exact ff_X8_addWanted_51  hf   v1 v2 z  h
      · rw [if_neg c3] at h
        obtain ⟨g4, h⟩ := gd_s h
        obtain ⟨g5, h⟩ := gd_s h
        obtain ⟨z6, e_z6, h⟩ := nm_s h
        refine SA.tr (sa_Ia e_z6 hf.1) ?_
        exact ih v1 (v2 + (-1)) z6  _ h
theorem ff_X8_addWanted {a k : Nat} {v1 : Int32} {z : St} {Rz : St}  (hf : Nf_X8_addWanted  a k) (h : fn_X8_addWanted  v1 z = some Rz) : SA z Rz a k := by
  unfold fn_X8_addWanted at h
  rcases Decidable.em ((z.1 153 4) < 6) with c1 | c1
  · rw [if_pos c1] at h
    obtain ⟨v2_2, e_v2_2, h⟩ := nm_s h
    exact ff_X8_addWanted_15  hf   fu v1 v2_2 z  _ h
  · rw [if_neg c1] at h
    cases h
    exact SA.rf
theorem ff_X8_count_30 {a k : Nat} (hf : Nf_X8_count  a k) {k2 : Int32 → Int32 → Int32 → St → Option (St)} (hk_2 : ∀ (v1 : Int32) (v2 : Int32) (v3 : Int32) (z : St)  (Rz : St), k2 v1 v2 v3 z = some Rz → SA z Rz a k) (v1 : Int32) (v2 : Int32) (v3 : Int32) (z : St)  {Rz : St} (h : fn_X8_count_30  k2 v1 v2 v3 z = some Rz) : SA z Rz a k := by
  unfold fn_X8_count_30 at h
  exact hk_2 v1 v2 (v3 + 1) z  _ h
theorem ff_X8_count_2 {a k : Nat} (hf : Nf_X8_count  a k) : ∀ (n : Nat) (v1 : Int32) (v2 : Int32) (v3 : Int32) (z : St)  (Rz : St), fn_X8_count_2   n v1 v2 v3 z = some Rz → SA z Rz a k := by
  intro n
  induction n with
  | zero => intro v1 v2 v3 z  Rz h; cases h
  | succ n ih =>
    intro v1 v2 v3 z  Rz h
    rw [fn_X8_count_2] at h
    rcases Decidable.em ((z.1 153 4) ≤ v3) with c1 | c1
    · rw [if_pos c1] at h
      cases h
      exact SA.rf
    · rw [if_neg c1] at h
      obtain ⟨g2, h⟩ := gd_s h
      rcases Decidable.em (v1 < (z.1 154 (Int32.toNatClampNeg v3))) with c3 | c3
      · rw [if_pos c3] at h
        exact ff_X8_count_30  hf  ih v1 v2 v3 z  h
      · rw [if_neg c3] at h
        obtain ⟨g4, h⟩ := gd_s h
        obtain ⟨g5, h⟩ := gd_s h
        obtain ⟨z6, e_z6, h⟩ := nm_s h
        refine SA.tr (sa_Ia e_z6 hf) ?_
        exact ff_X8_count_30  hf  ih v1 v2 v3 z6  h
theorem ff_X8_count {a k : Nat} {v1 : Int32} {v2 : Int32} {z : St} {Rz : St}  (hf : Nf_X8_count  a k) (h : fn_X8_count  v1 v2 z = some Rz) : SA z Rz a k := by
  unfold fn_X8_count at h
  exact ff_X8_count_2  hf   fu v1 v2 0 z  _ h
theorem ff_X8_prepare_55 {a k : Nat} (hf : Nf_X8_prepare  a k) {k7 : Int32 → Int32 → Int32 → St → Option (St)} (hk_7 : ∀ (v1 : Int32) (v2 : Int32) (v3 : Int32) (z : St)  (Rz : St), k7 v1 v2 v3 z = some Rz → SA z Rz a k) (v1 : Int32) (v2 : Int32) (v3 : Int32) (z : St)  {Rz : St} (h : fn_X8_prepare_55  k7 v1 v2 v3 z = some Rz) : SA z Rz a k := by
  unfold fn_X8_prepare_55 at h
  exact hk_7 v1 v2 (v3 + 1) z  _ h
theorem ff_X8_prepare_129 {a k : Nat} (hf : Nf_X8_prepare  a k) {k86 : Int32 → St → Option (St)} (hk_86 : ∀ (v3 : Int32) (z : St)  (Rz : St), k86 v3 z = some Rz → SA z Rz a k) (v3 : Int32) (z : St)  {Rz : St} (h : fn_X8_prepare_129  k86 v3 z = some Rz) : SA z Rz a k := by
  unfold fn_X8_prepare_129 at h
  exact hk_86 (v3 + 1) z  _ h
theorem ff_X8_prepare_86 {a k : Nat} (hf : Nf_X8_prepare  a k) : ∀ (n : Nat) (v3 : Int32) (z : St)  (Rz : St), fn_X8_prepare_86   n v3 z = some Rz → SA z Rz a k := by
  intro n
  induction n with
  | zero => intro v3 z  Rz h; cases h
  | succ n ih =>
    intro v3 z  Rz h
    rw [fn_X8_prepare_86] at h
    rcases Decidable.em ((z.1 34 2) ≤ v3) with c1 | c1
    · rw [if_pos c1] at h
      cases h
      exact SA.rf
    · rw [if_neg c1] at h
      obtain ⟨r3, z4, h2, h⟩ := bd_s h
      refine SA.tr (ff_X1_isFree  k_34 trivial h2) ?_
      rcases Decidable.em (r3 = 0) with c5 | c5
      · rw [if_pos c5] at h
        exact ff_X8_prepare_129  hf  ih v3 z4  h
      · rw [if_neg c5] at h
        obtain ⟨g6, h⟩ := gd_s h
        obtain ⟨r8, z9, h7, h⟩ := bd_s h
        refine SA.tr (ff_X7_areaOf  k_2 (ke_18 k_35 (ix_lt g6)) trivial h7) ?_
        obtain ⟨z11, h10, h⟩ := bv_s h
        refine SA.tr (ff_X8_count   hf.1 h10) ?_
        exact ff_X8_prepare_129  hf  ih v3 z11  h
theorem ff_X8_prepare_63 {a k : Nat} (hf : Nf_X8_prepare  a k) : ∀ (n : Nat) (v3 : Int32) (z : St)  (Rz : St), fn_X8_prepare_63   n v3 z = some Rz → SA z Rz a k := by
  intro n
  induction n with
  | zero => intro v3 z  Rz h; cases h
  | succ n ih =>
    intro v3 z  Rz h
    rw [fn_X8_prepare_63] at h
    rcases Decidable.em ((z.1 153 4) ≤ v3) with c1 | c1
    · rw [if_pos c1] at h
      exact ff_X8_prepare_86  hf   fu 0 z  _ h
    · rw [if_neg c1] at h
      obtain ⟨g2, h⟩ := gd_s h
      obtain ⟨z3, e_z3, h⟩ := nm_s h
      refine SA.tr (sa_Ia e_z3 hf.1) ?_
      exact ih (v3 + 1) z3  _ h
theorem ff_X8_prepare_7 {a k : Nat} (hf : Nf_X8_prepare  a k) : ∀ (n : Nat) (v1 : Int32) (v2 : Int32) (v3 : Int32) (z : St)  (Rz : St), fn_X8_prepare_7   n v1 v2 v3 z = some Rz → SA z Rz a k := by
  intro n
  induction n with
  | zero => intro v1 v2 v3 z  Rz h; cases h
  | succ n ih =>
    intro v1 v2 v3 z  Rz h
    rw [fn_X8_prepare_7] at h
    rcases Decidable.em ((z.1 2 5) ≤ v3) with c1 | c1
    · rw [if_pos c1] at h
      exact ff_X8_prepare_63  hf   fu 0 z  _ h
    · rw [if_neg c1] at h
      rcases Decidable.em (v3 = v2) with c2 | c2
      · rw [if_pos c2] at h
        exact ff_X8_prepare_55  hf  ih v1 v2 v3 z  h
      · rw [if_neg c2] at h
        obtain ⟨g3, h⟩ := gd_s h
        rcases Decidable.em ((z.1 60 (Int32.toNatClampNeg v3)) = (-1)) with c4 | c4
        · rw [if_pos c4] at h
          obtain ⟨g5, h⟩ := gd_s h
          obtain ⟨z7, h6, h⟩ := bv_s h
          refine SA.tr (ff_X8_addWanted   ⟨hf.2.1, hf.2.2⟩ h6) ?_
          exact ff_X8_prepare_55  hf  ih v1 v2 v3 z7  h
        · rw [if_neg c4] at h
          exact ff_X8_prepare_55  hf  ih v1 v2 v3 z  h
theorem ff_X8_prepare {a k : Nat} {v1 : Int32} {v2 : Int32} {z : St} {Rz : St}  (hf : Nf_X8_prepare  a k) (h : fn_X8_prepare  v1 v2 z = some Rz) : SA z Rz a k := by
  unfold fn_X8_prepare at h
  obtain ⟨z1, e_z1, h⟩ := nm_s h
  refine SA.tr (sa_I e_z1 hf.2.2) ?_
  exact ff_X8_prepare_7  hf   fu v1 v2 0 z1  _ h
theorem ff_X8_servedIf {a k : Nat} {v1 : Int32} {z : St} {Rz : Int32 × St}  (hf : Nf_X8_servedIf  a k) (h : fn_X8_servedIf  v1 z = some Rz) : SA z Rz.2 a k := by
  unfold fn_X8_servedIf at h
  obtain ⟨z2, h1, h⟩ := bv_s h
  refine SA.tr (ff_X8_prepare   ⟨hf.1, hf.2.1, hf.2.2⟩ h1) ?_
  obtain ⟨r4, z5, h3, h⟩ := bd_s h
  refine SA.tr (ff_X8_matched   trivial h3) ?_
  cases h
  exact SA.rf
theorem ff_X8_tryCuts_127 {a k : Nat} (hf : Nf_X8_tryCuts  a k) {k31 : Int32 → Int32 → Int32 → Int32 → Int32 → Int32 → St → Option (St)} (hk_31 : ∀ (v1 : Int32) (v2 : Int32) (v3 : Int32) (v4 : Int32) (v5 : Int32) (v6 : Int32) (z : St)  (Rz : St), k31 v1 v2 v3 v4 v5 v6 z = some Rz → SA z Rz a k) (v1 : Int32) (v2 : Int32) (v3 : Int32) (v4 : Int32) (v5 : Int32) (v6 : Int32) (z : St)  {Rz : St} (h : fn_X8_tryCuts_127  k31 v1 v2 v3 v4 v5 v6 z = some Rz) : SA z Rz a k := by
  unfold fn_X8_tryCuts_127 at h
  exact hk_31 v1 v2 v3 v4 v5 (v6 + 1) z  _ h
theorem ff_X8_tryCuts_105 {a k : Nat} (hf : Nf_X8_tryCuts  a k) {k31 : Int32 → Int32 → Int32 → Int32 → Int32 → Int32 → St → Option (St)} (hk_31 : ∀ (v1 : Int32) (v2 : Int32) (v3 : Int32) (v4 : Int32) (v5 : Int32) (v6 : Int32) (z : St)  (Rz : St), k31 v1 v2 v3 v4 v5 v6 z = some Rz → SA z Rz a k) (v1 : Int32) (v2 : Int32) (v3 : Int32) (v4 : Int32) (v5 : Int32) (v6 : Int32) (v7 : Int32) (z : St)  {Rz : St} (h : fn_X8_tryCuts_105  k31 v1 v2 v3 v4 v5 v6 v7 z = some Rz) : SA z Rz a k := by
  unfold fn_X8_tryCuts_105 at h
  obtain ⟨z1, e_z1, h⟩ := nm_s h
  refine SA.tr (sa_I e_z1 hf.1) ?_
  obtain ⟨z2, e_z2, h⟩ := nm_s h
  refine SA.tr (sa_I e_z2 hf.2.1) ?_
  obtain ⟨z3, e_z3, h⟩ := nm_s h
  refine SA.tr (sa_I e_z3 hf.2.2.1) ?_
  obtain ⟨z4, e_z4, h⟩ := nm_s h
  refine SA.tr (sa_I e_z4 hf.2.2.2.1) ?_
  exact ff_X8_tryCuts_127  hf  hk_31 v1 v2 v3 v4 v5 v6 z4  h
theorem ff_X8_tryCuts_31 {a k : Nat} (hf : Nf_X8_tryCuts  a k) : ∀ (n : Nat) (v1 : Int32) (v2 : Int32) (v3 : Int32) (v4 : Int32) (v5 : Int32) (v6 : Int32) (z : St)  (Rz : St), fn_X8_tryCuts_31   n v1 v2 v3 v4 v5 v6 z = some Rz → SA z Rz a k := by
  intro n
  induction n with
  | zero => intro v1 v2 v3 v4 v5 v6 z  Rz h; cases h
  | succ n ih =>
    intro v1 v2 v3 v4 v5 v6 z  Rz h
    rw [fn_X8_tryCuts_31] at h
    rcases Decidable.em (v4 ≤ v6) with c1 | c1
    · rw [if_pos c1] at h
      cases h
      exact SA.rf
    · rw [if_neg c1] at h
      obtain ⟨z3, h2, h⟩ := bv_s h
      refine SA.tr (ff_X8_count   hf.2.2.2.2 h2) ?_
      obtain ⟨z5, h4, h⟩ := bv_s h
      refine SA.tr (ff_X8_count   hf.2.2.2.2 h4) ?_
      obtain ⟨r7, z8, h6, h⟩ := bd_s h
      refine SA.tr (ff_X8_matched   trivial h6) ?_
      obtain ⟨z10, h9, h⟩ := bv_s h
      refine SA.tr (ff_X8_count   hf.2.2.2.2 h9) ?_
      obtain ⟨z12, h11, h⟩ := bv_s h
      refine SA.tr (ff_X8_count   hf.2.2.2.2 h11) ?_
      rcases Decidable.em ((z12.1 153 5) = (-1)) with c13 | c13
      · rw [if_pos c13] at h
        exact ff_X8_tryCuts_105  hf  ih v1 v2 v3 v4 v5 v6 r7 z12  h
      · rw [if_neg c13] at h
        rcases Decidable.em (r7 ≤ (z12.1 153 8)) with c14 | c14
        · rw [if_pos c14] at h
          exact ff_X8_tryCuts_127  hf  ih v1 v2 v3 v4 v5 v6 z12  h
        · rw [if_neg c14] at h
          exact ff_X8_tryCuts_105  hf  ih v1 v2 v3 v4 v5 v6 r7 z12  h
theorem ff_X8_tryCuts {a k : Nat} {v1 : Int32} {v2 : Int32} {v3 : Int32} {z : St} {Rz : St}  (hf : Nf_X8_tryCuts  a k) (h : fn_X8_tryCuts  v1 v2 v3 z = some Rz) : SA z Rz a k := by
  unfold fn_X8_tryCuts at h
  obtain ⟨g1, h⟩ := gd_s h
  obtain ⟨r3, z4, h2, h⟩ := bd_s h
  refine SA.tr (ff_X9_extent  (ke_18 k_35 (ix_lt g1)) trivial h2) ?_
  rcases Decidable.em (1 ≤ r3) with c5 | c5
  · rw [if_pos c5] at h
    obtain ⟨g6, h⟩ := gd_s h
    obtain ⟨v5_7, e_v5_7, h⟩ := nm_s h
    exact ff_X8_tryCuts_31  hf   fu v1 v2 v3 r3 v5_7 1 z4  _ h
  · rw [if_neg c5] at h
    cases h
    exact SA.rf
theorem ff_X8_findCut_78 {a k : Nat} (hf : Nf_X8_findCut  a k) {k13 : Int32 → St → Option (Int32 × St)} (hk_13 : ∀ (v1 : Int32) (z : St)  (Rz : Int32 × St), k13 v1 z = some Rz → SA z Rz.2 a k) (v1 : Int32) (z : St)  {Rz : Int32 × St} (h : fn_X8_findCut_78  k13 v1 z = some Rz) : SA z Rz.2 a k := by
  unfold fn_X8_findCut_78 at h
  exact hk_13 (v1 + 1) z  _ h
theorem ff_X8_findCut_13 {a k : Nat} (hf : Nf_X8_findCut  a k) : ∀ (n : Nat) (v1 : Int32) (z : St)  (Rz : Int32 × St), fn_X8_findCut_13   n v1 z = some Rz → SA z Rz.2 a k := by
  intro n
  induction n with
  | zero => intro v1 z  Rz h; cases h
  | succ n ih =>
    intro v1 z  Rz h
    rw [fn_X8_findCut_13] at h
    rcases Decidable.em ((z.1 34 2) ≤ v1) with c1 | c1
    · rw [if_pos c1] at h
      rcases Decidable.em ((z.1 153 5) = (-1)) with c2 | c2
      · rw [if_pos c2] at h
        cases h
        exact SA.rf
      · rw [if_neg c2] at h
        cases h
        exact SA.rf
    · rw [if_neg c1] at h
      obtain ⟨r4, z5, h3, h⟩ := bd_s h
      refine SA.tr (ff_X1_isCuttable  k_34 trivial h3) ?_
      rcases Decidable.em (r4 = 0) with c6 | c6
      · rw [if_pos c6] at h
        exact ff_X8_findCut_78  hf  ih v1 z5  h
      · rw [if_neg c6] at h
        obtain ⟨g7, h⟩ := gd_s h
        obtain ⟨r9, z10, h8, h⟩ := bd_s h
        refine SA.tr (ff_X7_areaOf  k_2 (ke_18 k_35 (ix_lt g7)) trivial h8) ?_
        obtain ⟨z12, h11, h⟩ := bv_s h
        refine SA.tr (ff_X8_count   hf.1 h11) ?_
        obtain ⟨z14, h13, h⟩ := bv_s h
        refine SA.tr (ff_X8_tryCuts   ⟨hf.2.1, hf.2.2.1, hf.2.2.2.1, hf.2.2.2.2.1, hf.1⟩ h13) ?_
        obtain ⟨z16, h15, h⟩ := bv_s h
        refine SA.tr (ff_X8_tryCuts   ⟨hf.2.1, hf.2.2.1, hf.2.2.2.1, hf.2.2.2.2.1, hf.1⟩ h15) ?_
        obtain ⟨z18, h17, h⟩ := bv_s h
        refine SA.tr (ff_X8_count   hf.1 h17) ?_
        exact ff_X8_findCut_78  hf  ih v1 z18  h
theorem ff_X8_findCut {a k : Nat}  {z : St} {Rz : Int32 × St}  (hf : Nf_X8_findCut  a k) (h : fn_X8_findCut   z = some Rz) : SA z Rz.2 a k := by
  unfold fn_X8_findCut at h
  obtain ⟨z2, h1, h⟩ := bv_s h
  refine SA.tr (ff_X8_prepare   ⟨hf.1, hf.2.2.2.2.2.1, hf.2.2.2.2.2.2⟩ h1) ?_
  obtain ⟨z3, e_z3, h⟩ := nm_s h
  refine SA.tr (sa_I e_z3 hf.2.1) ?_
  exact ff_X8_findCut_13  hf   fu 0 z3  _ h
theorem ff_X8_roomOf_123 {a k : Nat} (hf : Nf_X8_roomOf  a k) {k41 : Int32 → Int32 → Int32 → Int32 → St → Option (Int32 × St)} (hk_41 : ∀ (v2 : Int32) (v3 : Int32) (v4 : Int32) (v5 : Int32) (z : St)  (Rz : Int32 × St), k41 v2 v3 v4 v5 z = some Rz → SA z Rz.2 a k) (v2 : Int32) (v3 : Int32) (v4 : Int32) (v5 : Int32) (z : St)  {Rz : Int32 × St} (h : fn_X8_roomOf_123  k41 v2 v3 v4 v5 z = some Rz) : SA z Rz.2 a k := by
  unfold fn_X8_roomOf_123 at h
  exact hk_41 v2 v3 v4 (v5 + 1) z  _ h
theorem ff_X8_roomOf_116 {a k : Nat} (hf : Nf_X8_roomOf  a k) {k41 : Int32 → Int32 → Int32 → Int32 → St → Option (Int32 × St)} (hk_41 : ∀ (v2 : Int32) (v3 : Int32) (v4 : Int32) (v5 : Int32) (z : St)  (Rz : Int32 × St), k41 v2 v3 v4 v5 z = some Rz → SA z Rz.2 a k) (v2 : Int32) (v3 : Int32) (v4 : Int32) (v5 : Int32) (v6 : Int32) (z : St)  {Rz : Int32 × St} (h : fn_X8_roomOf_116  k41 v2 v3 v4 v5 v6 z = some Rz) : SA z Rz.2 a k := by
  unfold fn_X8_roomOf_116 at h
  obtain ⟨z2, h1, h⟩ := bv_s h
  refine SA.tr (ff_X8_count   hf.1 h1) ?_
  exact ff_X8_roomOf_123  hf  hk_41 v2 v3 v4 v5 z2  h
theorem ff_X8_roomOf_41 {a k : Nat} (hf : Nf_X8_roomOf  a k) : ∀ (n : Nat) (v2 : Int32) (v3 : Int32) (v4 : Int32) (v5 : Int32) (z : St)  (Rz : Int32 × St), fn_X8_roomOf_41   n v2 v3 v4 v5 z = some Rz → SA z Rz.2 a k := by
  intro n
  induction n with
  | zero => intro v2 v3 v4 v5 z  Rz h; cases h
  | succ n ih =>
    intro v2 v3 v4 v5 z  Rz h
    rw [fn_X8_roomOf_41] at h
    rcases Decidable.em ((z.1 34 2) ≤ v5) with c1 | c1
    · rw [if_pos c1] at h
      cases h
      exact SA.rf
    · rw [if_neg c1] at h
      obtain ⟨g2, h⟩ := gd_s h
      obtain ⟨r4, z5, h3, h⟩ := bd_s h
      refine SA.tr (ff_X7_areaOf  k_2 (ke_18 k_35 (ix_lt g2)) trivial h3) ?_
      obtain ⟨r7, z8, h6, h⟩ := bd_s h
      refine SA.tr (ff_X1_isFree  k_34 trivial h6) ?_
      rcases Decidable.em (r7 = 0) with c9 | c9
      · rw [if_pos c9] at h
        exact ff_X8_roomOf_123  hf  ih v2 v3 v4 v5 z8  h
      · rw [if_neg c9] at h
        rcases Decidable.em ((r4 - v3) ≤ v4) with c10 | c10
        · rw [if_pos c10] at h
          exact ff_X8_roomOf_123  hf  ih v2 v3 v4 v5 z8  h
        · rw [if_neg c10] at h
          obtain ⟨z12, h11, h⟩ := bv_s h
          refine SA.tr (ff_X8_count   hf.1 h11) ?_
          obtain ⟨r14, z15, h13, h⟩ := bd_s h
          refine SA.tr (ff_X8_matched   trivial h13) ?_
          rcases Decidable.em ((r14 + 1) = v2) with c16 | c16
          · rw [if_pos c16] at h
            obtain ⟨v4_17, e_v4_17, h⟩ := nm_s h
            exact ff_X8_roomOf_116  hf  ih v2 v3 v4_17 v5 r4 z15  h
          · rw [if_neg c16] at h
            exact ff_X8_roomOf_116  hf  ih v2 v3 v4 v5 r4 z15  h
theorem ff_X8_roomOf {a k : Nat} {v1 : Int32} {z : St} {Rz : Int32 × St}  (hf : Nf_X8_roomOf  a k) (h : fn_X8_roomOf  v1 z = some Rz) : SA z Rz.2 a k := by
  unfold fn_X8_roomOf at h
  obtain ⟨r2, z3, h1, h⟩ := bd_s h
  refine SA.tr (ff_X7_isGuest  k_2 trivial h1) ?_
  rcases Decidable.em (r2 = 0) with c4 | c4
  · rw [if_pos c4] at h
    cases h
    exact SA.rf
  · rw [if_neg c4] at h
    obtain ⟨r6, z7, h5, h⟩ := bd_s h
    refine SA.tr (ff_X8_servedIf   ⟨hf.1, hf.2.1, hf.2.2⟩ h5) ?_
    obtain ⟨g8, h⟩ := gd_s h
    obtain ⟨v3_9, e_v3_9, h⟩ := nm_s h
    obtain ⟨z11, h10, h⟩ := bv_s h
    refine SA.tr (ff_X8_prepare   ⟨hf.1, hf.2.1, hf.2.2⟩ h10) ?_
    exact ff_X8_roomOf_41  hf   fu r6 v3_9 (-1) 0 z11  _ h
theorem ff_X4_forget {a k : Nat}  {z : St} {Rz : St}  (hf : Nf_X4_forget  a k) (h : fn_X4_forget   z = some Rz) : SA z Rz a k := by
  unfold fn_X4_forget at h
  obtain ⟨z1, e_z1, h⟩ := nm_s h
  refine SA.tr (sa_I e_z1 hf) ?_
  cases h
  exact SA.rf
theorem ff_X4_tell {a k : Nat} {v1 : Int32} {v2 : Int32} {v3 : Int32} {z : St} {Rz : Int32 × St}  (hf : Nf_X4_tell  a k) (h : fn_X4_tell  v1 v2 v3 z = some Rz) : SA z Rz.2 a k := by
  unfold fn_X4_tell at h
  rcases Decidable.em ((z.1 2 0) = 0) with c1 | c1
  · rw [if_pos c1] at h
    cases h
    exact SA.rf
  · rw [if_neg c1] at h
    rcases Decidable.em ((z.1 162 11) < 30) with c2 | c2
    · rw [if_pos c2] at h
      obtain ⟨g3, h⟩ := gd_s h
      obtain ⟨z4, e_z4, h⟩ := nm_s h
      refine SA.tr (sa_Ia e_z4 hf.1) ?_
      obtain ⟨g5, h⟩ := gd_s h
      obtain ⟨z6, e_z6, h⟩ := nm_s h
      refine SA.tr (sa_Ia e_z6 hf.2.1) ?_
      obtain ⟨g7, h⟩ := gd_s h
      obtain ⟨g8, h⟩ := gd_s h
      obtain ⟨z9, e_z9, h⟩ := nm_s h
      refine SA.tr (sa_Ia e_z9 hf.2.2.1) ?_
      obtain ⟨g10, h⟩ := gd_s h
      obtain ⟨z11, e_z11, h⟩ := nm_s h
      refine SA.tr (sa_Ia e_z11 hf.2.2.2.1) ?_
      obtain ⟨g12, h⟩ := gd_s h
      obtain ⟨z13, e_z13, h⟩ := nm_s h
      refine SA.tr (sa_Ia e_z13 hf.2.2.2.2.1) ?_
      obtain ⟨z14, e_z14, h⟩ := nm_s h
      refine SA.tr (sa_I e_z14 hf.2.2.2.2.2) ?_
      cases h
      exact SA.rf
    · rw [if_neg c2] at h
      cases h
      exact SA.rf
theorem ff_X4_takeAway {a k : Nat} {v1 : Int32} {z : St} {Rz : Int32 × St}  (hf : Nf_X4_takeAway  a k) (h : fn_X4_takeAway  v1 z = some Rz) : SA z Rz.2 a k := by
  unfold fn_X4_takeAway at h
  rcases Decidable.em (v1 < 0) with c1 | c1
  · rw [if_pos c1] at h
    cases h
    exact SA.rf
  · rw [if_neg c1] at h
    rcases Decidable.em ((z.1 162 11) ≤ v1) with c2 | c2
    · rw [if_pos c2] at h
      cases h
      exact SA.rf
    · rw [if_neg c2] at h
      obtain ⟨g3, h⟩ := gd_s h
      rcases Decidable.em ((z.1 167 (Int32.toNatClampNeg v1)) = (-1)) with c4 | c4
      · rw [if_pos c4] at h
        obtain ⟨g5, h⟩ := gd_s h
        obtain ⟨z6, e_z6, h⟩ := nm_s h
        refine SA.tr (sa_Ia e_z6 hf) ?_
        cases h
        exact SA.rf
      · rw [if_neg c4] at h
        cases h
        exact SA.rf
theorem ff_X4_goOn {a k : Nat} {v1 : Int32} {z : St} {Rz : Int32 × St}  (hf : Nf_X4_goOn  a k) (h : fn_X4_goOn  v1 z = some Rz) : SA z Rz.2 a k := by
  unfold fn_X4_goOn at h
  rcases Decidable.em (v1 < 0) with c1 | c1
  · rw [if_pos c1] at h
    cases h
    exact SA.rf
  · rw [if_neg c1] at h
    rcases Decidable.em (1000 < v1) with c2 | c2
    · rw [if_pos c2] at h
      cases h
      exact SA.rf
    · rw [if_neg c2] at h
      rcases Decidable.em (((z.1 162 12) + v1) ≤ 100000) with c3 | c3
      · rw [if_pos c3] at h
        obtain ⟨z4, e_z4, h⟩ := nm_s h
        refine SA.tr (sa_I e_z4 hf) ?_
        cases h
        exact SA.rf
      · rw [if_neg c3] at h
        cases h
        exact SA.rf
theorem ff_X4_counts {a k : Nat} {v1 : Int32} {v2 : Int32} {z : St} {Rz : Int32 × St}  (hf : Nf_X4_counts  a k) (h : fn_X4_counts  v1 v2 z = some Rz) : SA z Rz.2 a k := by
  unfold fn_X4_counts at h
  obtain ⟨g1, h⟩ := gd_s h
  rcases Decidable.em (v2 < (z.1 166 (Int32.toNatClampNeg v1))) with c2 | c2
  · rw [if_pos c2] at h
    cases h
    exact SA.rf
  · rw [if_neg c2] at h
    obtain ⟨g3, h⟩ := gd_s h
    rcases Decidable.em ((z.1 167 (Int32.toNatClampNeg v1)) = (-1)) with c4 | c4
    · rw [if_pos c4] at h
      cases h
      exact SA.rf
    · rw [if_neg c4] at h
      obtain ⟨g5, h⟩ := gd_s h
      rcases Decidable.em ((z.1 167 (Int32.toNatClampNeg v1)) ≤ v2) with c6 | c6
      · rw [if_pos c6] at h
        cases h
        exact SA.rf
      · rw [if_neg c6] at h
        cases h
        exact SA.rf
theorem ff_X4_agrees_89 {a k : Nat} (hf : Nf_X4_agrees  a k) {k3 : Int32 → Int64 → Int32 → Int32 → St → Option (Int32 × St)} (hk_3 : ∀ (v1 : Int32) (v2 : Int64) (v4 : Int32) (v5 : Int32) (z : St)  (Rz : Int32 × St), k3 v1 v2 v4 v5 z = some Rz → SA z Rz.2 a k) (v1 : Int32) (v2 : Int64) (v4 : Int32) (v5 : Int32) (z : St)  {Rz : Int32 × St} (h : fn_X4_agrees_89  k3 v1 v2 v4 v5 z = some Rz) : SA z Rz.2 a k := by
  unfold fn_X4_agrees_89 at h
  exact hk_3 v1 v2 v4 (v5 + 1) z  _ h
theorem ff_X4_agrees_73 {a k : Nat} (hf : Nf_X4_agrees  a k) {k3 : Int32 → Int64 → Int32 → Int32 → St → Option (Int32 × St)} (hk_3 : ∀ (v1 : Int32) (v2 : Int64) (v4 : Int32) (v5 : Int32) (z : St)  (Rz : Int32 × St), k3 v1 v2 v4 v5 z = some Rz → SA z Rz.2 a k) (v1 : Int32) (v2 : Int64) (v4 : Int32) (v5 : Int32) (tv0 : Int32) (z : St)  {Rz : Int32 × St} (h : fn_X4_agrees_73  k3 v1 v2 v4 v5 tv0 z = some Rz) : SA z Rz.2 a k := by
  unfold fn_X4_agrees_73 at h
  obtain ⟨g1, h⟩ := gd_s h
  rcases Decidable.em (tv0 = (z.1 165 (Int32.toNatClampNeg v5))) with c2 | c2
  · rw [if_pos c2] at h
    exact ff_X4_agrees_89  hf  hk_3 v1 v2 v4 v5 z  h
  · rw [if_neg c2] at h
    cases h
    exact SA.rf
theorem ff_X4_agrees_3 {a k : Nat} (hf : Nf_X4_agrees  a k) : ∀ (n : Nat) (v1 : Int32) (v2 : Int64) (v4 : Int32) (v5 : Int32) (z : St)  (Rz : Int32 × St), fn_X4_agrees_3   n v1 v2 v4 v5 z = some Rz → SA z Rz.2 a k := by
  intro n
  induction n with
  | zero => intro v1 v2 v4 v5 z  Rz h; cases h
  | succ n ih =>
    intro v1 v2 v4 v5 z  Rz h
    rw [fn_X4_agrees_3] at h
    rcases Decidable.em ((z.1 162 11) ≤ v5) with c1 | c1
    · rw [if_pos c1] at h
      cases h
      exact SA.rf
    · rw [if_neg c1] at h
      obtain ⟨r3, z4, h2, h⟩ := bd_s h
      refine SA.tr (ff_X4_counts   trivial h2) ?_
      rcases Decidable.em (r3 = 0) with c5 | c5
      · rw [if_pos c5] at h
        exact ff_X4_agrees_89  hf  ih v1 v2 v4 v5 z4  h
      · rw [if_neg c5] at h
        obtain ⟨g6, h⟩ := gd_s h
        rcases Decidable.em ((z4.1 163 (Int32.toNatClampNeg v5)) = 0) with c7 | c7
        · rw [if_pos c7] at h
          obtain ⟨g10, h⟩ := gd_s h
          rcases Decidable.em (v1 = (z4.1 164 (Int32.toNatClampNeg v5))) with c11 | c11
          · rw [if_pos c11] at h
            exact ff_X4_agrees_73  hf  ih v1 v2 v4 v5 1 z4  h
          · rw [if_neg c11] at h
            exact ff_X4_agrees_73  hf  ih v1 v2 v4 v5 0 z4  h
        · rw [if_neg c7] at h
          obtain ⟨g8, h⟩ := gd_s h
          rcases Decidable.em ((lg_cmp ((v2 >>> (Int32.toInt64 (z4.1 164 (Int32.toNatClampNeg v5)) &&& 63)) &&& 1) 1) = 0) with c9 | c9
          · rw [if_pos c9] at h
            exact ff_X4_agrees_73  hf  ih v1 v2 v4 v5 1 z4  h
          · rw [if_neg c9] at h
            exact ff_X4_agrees_73  hf  ih v1 v2 v4 v5 0 z4  h
theorem ff_X4_agrees {a k : Nat} {v1 : Int32} {v2 : Int64} {v4 : Int32} {z : St} {Rz : Int32 × St}  (hf : Nf_X4_agrees  a k) (h : fn_X4_agrees  v1 v2 v4 z = some Rz) : SA z Rz.2 a k := by
  unfold fn_X4_agrees at h
  exact ff_X4_agrees_3  hf   fu v1 v2 v4 0 z  _ h
theorem ff_X4_gather_164 {a k : Nat} (hf : Nf_X4_gather  a k) {k43 : Int32 → Int32 → Int32 → Int32 → St → Option (Int32 × St)} (hk_43 : ∀ (v1 : Int32) (v2 : Int32) (v3 : Int32) (v4 : Int32) (z : St)  (Rz : Int32 × St), k43 v1 v2 v3 v4 z = some Rz → SA z Rz.2 a k) {k52 : Int32 → Int32 → Int32 → Int32 → Int32 → St → Option (Int32 × St)} (hk_52 : ∀ (v1 : Int32) (v2 : Int32) (v3 : Int32) (v4 : Int32) (v5 : Int32) (z : St)  (Rz : Int32 × St), k52 v1 v2 v3 v4 v5 z = some Rz → SA z Rz.2 a k) (v1 : Int32) (v2 : Int32) (v3 : Int32) (v4 : Int32) (v5 : Int32) (z : St)  {Rz : Int32 × St} (h : fn_X4_gather_164  k43 k52 v1 v2 v3 v4 v5 z = some Rz) : SA z Rz.2 a k := by
  unfold fn_X4_gather_164 at h
  exact hk_52 v1 v2 v3 v4 (v5 + 1) z  _ h
theorem ff_X4_gather_52 {a k : Nat} (hf : Nf_X4_gather  a k) {k43 : Int32 → Int32 → Int32 → Int32 → St → Option (Int32 × St)} (hk_43 : ∀ (v1 : Int32) (v2 : Int32) (v3 : Int32) (v4 : Int32) (z : St)  (Rz : Int32 × St), k43 v1 v2 v3 v4 z = some Rz → SA z Rz.2 a k) : ∀ (n : Nat) (v1 : Int32) (v2 : Int32) (v3 : Int32) (v4 : Int32) (v5 : Int32) (z : St)  (Rz : Int32 × St), fn_X4_gather_52  k43 n v1 v2 v3 v4 v5 z = some Rz → SA z Rz.2 a k := by
  intro n
  induction n with
  | zero => intro v1 v2 v3 v4 v5 z  Rz h; cases h
  | succ n ih =>
    intro v1 v2 v3 v4 v5 z  Rz h
    rw [fn_X4_gather_52] at h
    rcases Decidable.em (v3 < v5) with c1 | c1
    · rw [if_pos c1] at h
      exact hk_43 v1 v2 v3 (v4 + 1) z  _ h
    · rw [if_neg c1] at h
      obtain ⟨r3, z4, h2, h⟩ := bd_s h
      refine SA.tr (ff_X3_canBe   trivial h2) ?_
      rcases Decidable.em (r3 = 0) with c5 | c5
      · rw [if_pos c5] at h
        exact ff_X4_gather_164  hf  hk_43 ih v1 v2 v3 v4 v5 z4  h
      · rw [if_neg c5] at h
        obtain ⟨r7, z8, h6, h⟩ := bd_s h
        refine SA.tr (ff_X3_icingSet   trivial h6) ?_
        obtain ⟨g9, h⟩ := gd_s h
        obtain ⟨g10, h⟩ := gd_s h
        obtain ⟨v8_11, e_v8_11, h⟩ := nm_s h
        rcases Decidable.em (16 ≤ (z8.1 162 10)) with c12 | c12
        · rw [if_pos c12] at h
          exact ff_X4_gather_164  hf  hk_43 ih v1 v2 v3 v4 v5 z8  h
        · rw [if_neg c12] at h
          obtain ⟨r14, z15, h13, h⟩ := bd_s h
          refine SA.tr (ff_X4_agrees   trivial h13) ?_
          rcases Decidable.em (r14 = 0) with c16 | c16
          · rw [if_pos c16] at h
            exact ff_X4_gather_164  hf  hk_43 ih v1 v2 v3 v4 v5 z15  h
          · rw [if_neg c16] at h
            obtain ⟨g17, h⟩ := gd_s h
            obtain ⟨z18, e_z18, h⟩ := nm_s h
            refine SA.tr (sa_Ia e_z18 hf.1) ?_
            obtain ⟨g19, h⟩ := gd_s h
            obtain ⟨z20, e_z20, h⟩ := nm_s h
            refine SA.tr (sa_Ia e_z20 hf.2.1) ?_
            obtain ⟨g21, h⟩ := gd_s h
            obtain ⟨z22, e_z22, h⟩ := nm_s h
            refine SA.tr (sa_Ja e_z22 hf.2.2.1) ?_
            obtain ⟨z23, e_z23, h⟩ := nm_s h
            refine SA.tr (sa_I e_z23 hf.2.2.2) ?_
            exact ff_X4_gather_164  hf  hk_43 ih v1 v2 v3 v4 v5 z23  h
theorem ff_X4_gather_43 {a k : Nat} (hf : Nf_X4_gather  a k) : ∀ (n : Nat) (v1 : Int32) (v2 : Int32) (v3 : Int32) (v4 : Int32) (z : St)  (Rz : Int32 × St), fn_X4_gather_43   n v1 v2 v3 v4 z = some Rz → SA z Rz.2 a k := by
  intro n
  induction n with
  | zero => intro v1 v2 v3 v4 z  Rz h; cases h
  | succ n ih =>
    intro v1 v2 v3 v4 z  Rz h
    rw [fn_X4_gather_43] at h
    rcases Decidable.em (v2 < v4) with c1 | c1
    · rw [if_pos c1] at h
      cases h
      exact SA.rf
    · rw [if_neg c1] at h
      exact ff_X4_gather_52  hf  ih fu v1 v2 v3 v4 1 z  _ h
theorem ff_X4_gather {a k : Nat} {v1 : Int32} {z : St} {Rz : Int32 × St}  (hf : Nf_X4_gather  a k) (h : fn_X4_gather  v1 z = some Rz) : SA z Rz.2 a k := by
  unfold fn_X4_gather at h
  obtain ⟨z1, e_z1, h⟩ := nm_s h
  refine SA.tr (sa_I e_z1 hf.2.2.2) ?_
  rcases Decidable.em ((z1.1 2 0) = 0) with c2 | c2
  · rw [if_pos c2] at h
    cases h
    exact SA.rf
  · rw [if_neg c2] at h
    obtain ⟨v2_3, e_v2_3, h⟩ := nm_s h
    obtain ⟨v3_4, e_v3_4, h⟩ := nm_s h
    exact ff_X4_gather_43  hf   fu v1 v2_3 v3_4 1 z1  _ h
theorem ff_X4_sameInAll_34 {a k : Nat} (p1 : Nat) (hk1 : kd p1 = 14) (hf : Nf_X4_sameInAll p1 a k)  (z : St)  {Rz : Int32 × St} (h : fn_X4_sameInAll_34   p1 z = some Rz) : SA z Rz.2 a k := by
  unfold fn_X4_sameInAll_34 at h
  rcases Decidable.em ((z.1 162 10) ≤ 0) with c1 | c1
  · rw [if_pos c1] at h
    cases h
    exact SA.rf
  · rw [if_neg c1] at h
    rcases Decidable.em ((Int32.ofNat (ln p1)) ≤ 0) with c2 | c2
    · rw [if_pos c2] at h
      cases h
      exact SA.rf
    · rw [if_neg c2] at h
      obtain ⟨g3, h⟩ := gd_s h
      cases h
      exact SA.rf
theorem ff_X4_sameInAll_2 {a k : Nat} (p1 : Nat) (hk1 : kd p1 = 14) (hf : Nf_X4_sameInAll p1 a k) : ∀ (n : Nat) (v2 : Int32) (z : St)  (Rz : Int32 × St), fn_X4_sameInAll_2   n p1 v2 z = some Rz → SA z Rz.2 a k := by
  intro n
  induction n with
  | zero => intro v2 z  Rz h; cases h
  | succ n ih =>
    intro v2 z  Rz h
    rw [fn_X4_sameInAll_2] at h
    rcases Decidable.em ((z.1 162 10) ≤ v2) with c1 | c1
    · rw [if_pos c1] at h
      exact ff_X4_sameInAll_34 p1 hk1 hf    z  h
    · rw [if_neg c1] at h
      rcases Decidable.em ((Int32.ofNat (ln p1)) ≤ v2) with c2 | c2
      · rw [if_pos c2] at h
        exact ff_X4_sameInAll_34 p1 hk1 hf    z  h
      · rw [if_neg c2] at h
        obtain ⟨g3, h⟩ := gd_s h
        obtain ⟨g4, h⟩ := gd_s h
        rcases Decidable.em ((z.1 p1 (Int32.toNatClampNeg v2)) = (z.1 p1 (Int32.toNatClampNeg 0))) with c5 | c5
        · rw [if_pos c5] at h
          exact ih (v2 + 1) z  _ h
        · rw [if_neg c5] at h
          cases h
          exact SA.rf
theorem ff_X4_sameInAll {a k : Nat} {p1 : Nat} {z : St} {Rz : Int32 × St} (hk1 : kd p1 = 14) (hf : Nf_X4_sameInAll p1 a k) (h : fn_X4_sameInAll  p1 z = some Rz) : SA z Rz.2 a k := by
  unfold fn_X4_sameInAll at h
  exact ff_X4_sameInAll_2 p1 hk1 hf   fu 1 z  _ h
theorem ff_X4_findQuestion_43 {a k : Nat} (hf : Nf_X4_findQuestion  a k) {k7 : Int32 → St → Option (St)} (hk_7 : ∀ (v1 : Int32) (z : St)  (Rz : St), k7 v1 z = some Rz → SA z Rz a k) {k17 : Int32 → Int32 → Int32 → St → Option (St)} (hk_17 : ∀ (v1 : Int32) (v2 : Int32) (v3 : Int32) (z : St)  (Rz : St), k17 v1 v2 v3 z = some Rz → SA z Rz a k) (v1 : Int32) (v2 : Int32) (v3 : Int32) (z : St)  {Rz : St} (h : fn_X4_findQuestion_43  k7 k17 v1 v2 v3 z = some Rz) : SA z Rz a k := by
  unfold fn_X4_findQuestion_43 at h
  exact hk_17 v1 v2 (v3 + 1) z  _ h
theorem ff_X4_findQuestion_86 {a k : Nat} (hf : Nf_X4_findQuestion  a k) {k7 : Int32 → St → Option (St)} (hk_7 : ∀ (v1 : Int32) (z : St)  (Rz : St), k7 v1 z = some Rz → SA z Rz a k) (v1 : Int32) (z : St)  {Rz : St} (h : fn_X4_findQuestion_86  k7 v1 z = some Rz) : SA z Rz a k := by
  unfold fn_X4_findQuestion_86 at h
  exact hk_7 (v1 + 1) z  _ h
theorem ff_X4_findQuestion_76 {a k : Nat} (hf : Nf_X4_findQuestion  a k) {k7 : Int32 → St → Option (St)} (hk_7 : ∀ (v1 : Int32) (z : St)  (Rz : St), k7 v1 z = some Rz → SA z Rz a k) (v1 : Int32) (v3 : Int32) (z : St)  {Rz : St} (h : fn_X4_findQuestion_76  k7 v1 v3 z = some Rz) : SA z Rz a k := by
  unfold fn_X4_findQuestion_76 at h
  obtain ⟨z1, e_z1, h⟩ := nm_s h
  refine SA.tr (sa_I e_z1 hf.1) ?_
  obtain ⟨z2, e_z2, h⟩ := nm_s h
  refine SA.tr (sa_I e_z2 hf.2) ?_
  exact ff_X4_findQuestion_86  hf  hk_7 v1 z2  h
theorem ff_X4_findQuestion_17 {a k : Nat} (hf : Nf_X4_findQuestion  a k) {k7 : Int32 → St → Option (St)} (hk_7 : ∀ (v1 : Int32) (z : St)  (Rz : St), k7 v1 z = some Rz → SA z Rz a k) : ∀ (n : Nat) (v1 : Int32) (v2 : Int32) (v3 : Int32) (z : St)  (Rz : St), fn_X4_findQuestion_17  k7 n v1 v2 v3 z = some Rz → SA z Rz a k := by
  intro n
  induction n with
  | zero => intro v1 v2 v3 z  Rz h; cases h
  | succ n ih =>
    intro v1 v2 v3 z  Rz h
    rw [fn_X4_findQuestion_17] at h
    rcases Decidable.em ((z.1 162 10) ≤ v3) with c1 | c1
    · rw [if_pos c1] at h
      obtain ⟨v3_2, e_v3_2, h⟩ := nm_s h
      rcases Decidable.em ((z.1 162 13) = (-1)) with c3 | c3
      · rw [if_pos c3] at h
        exact ff_X4_findQuestion_76  hf  hk_7 v1 v3_2 z  h
      · rw [if_neg c3] at h
        rcases Decidable.em ((z.1 162 14) ≤ v3_2) with c4 | c4
        · rw [if_pos c4] at h
          exact ff_X4_findQuestion_86  hf  hk_7 v1 z  h
        · rw [if_neg c4] at h
          exact ff_X4_findQuestion_76  hf  hk_7 v1 v3_2 z  h
    · rw [if_neg c1] at h
      obtain ⟨g5, h⟩ := gd_s h
      rcases Decidable.em ((lg_cmp (((z.2 170 (Int32.toNatClampNeg v3)) >>> (Int32.toInt64 v1 &&& 63)) &&& 1) 1) = 0) with c6 | c6
      · rw [if_pos c6] at h
        exact ff_X4_findQuestion_43  hf  hk_7 ih v1 (v2 + 1) v3 z  h
      · rw [if_neg c6] at h
        exact ff_X4_findQuestion_43  hf  hk_7 ih v1 v2 v3 z  h
theorem ff_X4_findQuestion_7 {a k : Nat} (hf : Nf_X4_findQuestion  a k) : ∀ (n : Nat) (v1 : Int32) (z : St)  (Rz : St), fn_X4_findQuestion_7   n v1 z = some Rz → SA z Rz a k := by
  intro n
  induction n with
  | zero => intro v1 z  Rz h; cases h
  | succ n ih =>
    intro v1 z  Rz h
    rw [fn_X4_findQuestion_7] at h
    rcases Decidable.em (32 < v1) with c1 | c1
    · rw [if_pos c1] at h
      cases h
      exact SA.rf
    · rw [if_neg c1] at h
      exact ff_X4_findQuestion_17  hf  ih fu v1 0 0 z  _ h
theorem ff_X4_findQuestion {a k : Nat}  {z : St} {Rz : St}  (hf : Nf_X4_findQuestion  a k) (h : fn_X4_findQuestion   z = some Rz) : SA z Rz a k := by
  unfold fn_X4_findQuestion at h
  obtain ⟨z1, e_z1, h⟩ := nm_s h
  refine SA.tr (sa_I e_z1 hf.1) ?_
  exact ff_X4_findQuestion_7  hf   fu 0 z1  _ h
theorem ff_X5_findHalves_200 {a k : Nat} (hf : Nf_X5_findHalves  a k) {k30 : Int32 → Int32 → Nat → Int32 → Int32 → St → Option (Int32 × St)} (hk_30 : ∀ (v2 : Int32) (v3 : Int32) (p4 : Nat) (v5 : Int32) (v6 : Int32) (z : St) (hk4 : kd p4 = 9) (Rz : Int32 × St), k30 v2 v3 p4 v5 v6 z = some Rz → SA z Rz.2 a k) {k39 : Int32 → Int32 → Nat → Int32 → Int32 → Int32 → St → Option (Int32 × St)} (hk_39 : ∀ (v2 : Int32) (v3 : Int32) (p4 : Nat) (v5 : Int32) (v6 : Int32) (v7 : Int32) (z : St) (hk4 : kd p4 = 9) (Rz : Int32 × St), k39 v2 v3 p4 v5 v6 v7 z = some Rz → SA z Rz.2 a k) (v2 : Int32) (v3 : Int32) (p4 : Nat) (v5 : Int32) (v6 : Int32) (v7 : Int32) (z : St) (hk4 : kd p4 = 9) {Rz : Int32 × St} (h : fn_X5_findHalves_200  k30 k39 v2 v3 p4 v5 v6 v7 z = some Rz) : SA z Rz.2 a k := by
  unfold fn_X5_findHalves_200 at h
  exact hk_39 v2 v3 p4 v5 v6 (v7 + 1) z hk4 _ h
theorem ff_X5_findHalves_191 {a k : Nat} (hf : Nf_X5_findHalves  a k) {k30 : Int32 → Int32 → Nat → Int32 → Int32 → St → Option (Int32 × St)} (hk_30 : ∀ (v2 : Int32) (v3 : Int32) (p4 : Nat) (v5 : Int32) (v6 : Int32) (z : St) (hk4 : kd p4 = 9) (Rz : Int32 × St), k30 v2 v3 p4 v5 v6 z = some Rz → SA z Rz.2 a k) {k39 : Int32 → Int32 → Nat → Int32 → Int32 → Int32 → St → Option (Int32 × St)} (hk_39 : ∀ (v2 : Int32) (v3 : Int32) (p4 : Nat) (v5 : Int32) (v6 : Int32) (v7 : Int32) (z : St) (hk4 : kd p4 = 9) (Rz : Int32 × St), k39 v2 v3 p4 v5 v6 v7 z = some Rz → SA z Rz.2 a k) (v2 : Int32) (v3 : Int32) (p4 : Nat) (v5 : Int32) (v6 : Int32) (v7 : Int32) (v9 : Int32) (tv1 : Int32) (z : St) (hk4 : kd p4 = 9) {Rz : Int32 × St} (h : fn_X5_findHalves_191  k30 k39 v2 v3 p4 v5 v6 v7 v9 tv1 z = some Rz) : SA z Rz.2 a k := by
  unfold fn_X5_findHalves_191 at h
  obtain ⟨z1, e_z1, h⟩ := nm_s h
  refine SA.tr (sa_I e_z1 hf.1) ?_
  obtain ⟨z2, e_z2, h⟩ := nm_s h
  refine SA.tr (sa_I e_z2 hf.2.1) ?_
  exact ff_X5_findHalves_200  hf  hk_30 hk_39 v2 v3 p4 v5 v6 v7 z2 hk4 h
theorem ff_X5_findHalves_165 {a k : Nat} (hf : Nf_X5_findHalves  a k) {k30 : Int32 → Int32 → Nat → Int32 → Int32 → St → Option (Int32 × St)} (hk_30 : ∀ (v2 : Int32) (v3 : Int32) (p4 : Nat) (v5 : Int32) (v6 : Int32) (z : St) (hk4 : kd p4 = 9) (Rz : Int32 × St), k30 v2 v3 p4 v5 v6 z = some Rz → SA z Rz.2 a k) {k39 : Int32 → Int32 → Nat → Int32 → Int32 → Int32 → St → Option (Int32 × St)} (hk_39 : ∀ (v2 : Int32) (v3 : Int32) (p4 : Nat) (v5 : Int32) (v6 : Int32) (v7 : Int32) (z : St) (hk4 : kd p4 = 9) (Rz : Int32 × St), k39 v2 v3 p4 v5 v6 v7 z = some Rz → SA z Rz.2 a k) (v2 : Int32) (v3 : Int32) (p4 : Nat) (v6 : Int32) (v7 : Int32) (v8 : Int32) (v9 : Int32) (z : St) (hk4 : kd p4 = 9) {Rz : Int32 × St} (h : fn_X5_findHalves_165  k30 k39 v2 v3 p4 v6 v7 v8 v9 z = some Rz) : SA z Rz.2 a k := by
  unfold fn_X5_findHalves_165 at h
  obtain ⟨z1, e_z1, h⟩ := nm_s h
  refine SA.tr (sa_I e_z1 hf.2.2.1) ?_
  obtain ⟨z2, e_z2, h⟩ := nm_s h
  refine SA.tr (sa_I e_z2 hf.2.2.2.1) ?_
  rcases Decidable.em (v8 = 0) with c3 | c3
  · rw [if_pos c3] at h
    exact ff_X5_findHalves_191  hf  hk_30 hk_39 v2 v3 p4 1 v6 v7 v9 0 z2 hk4 h
  · rw [if_neg c3] at h
    exact ff_X5_findHalves_191  hf  hk_30 hk_39 v2 v3 p4 1 v6 v7 v9 1 z2 hk4 h
theorem ff_X5_findHalves_146 {a k : Nat} (hf : Nf_X5_findHalves  a k) {k30 : Int32 → Int32 → Nat → Int32 → Int32 → St → Option (Int32 × St)} (hk_30 : ∀ (v2 : Int32) (v3 : Int32) (p4 : Nat) (v5 : Int32) (v6 : Int32) (z : St) (hk4 : kd p4 = 9) (Rz : Int32 × St), k30 v2 v3 p4 v5 v6 z = some Rz → SA z Rz.2 a k) {k39 : Int32 → Int32 → Nat → Int32 → Int32 → Int32 → St → Option (Int32 × St)} (hk_39 : ∀ (v2 : Int32) (v3 : Int32) (p4 : Nat) (v5 : Int32) (v6 : Int32) (v7 : Int32) (z : St) (hk4 : kd p4 = 9) (Rz : Int32 × St), k39 v2 v3 p4 v5 v6 v7 z = some Rz → SA z Rz.2 a k) (v2 : Int32) (v3 : Int32) (p4 : Nat) (v5 : Int32) (v6 : Int32) (v7 : Int32) (v8 : Int32) (tv1 : Int32) (tp2 : Nat) (z : St) (hk4 : kd p4 = 9) (hkt2 : kd tp2 = 9) {Rz : Int32 × St} (h : fn_X5_findHalves_146  k30 k39 v2 v3 p4 v5 v6 v7 v8 tv1 tp2 z = some Rz) : SA z Rz.2 a k := by
  unfold fn_X5_findHalves_146 at h
  obtain ⟨r2, z3, h1, h⟩ := bd_s h
  refine SA.tr (ff_X10_ofSlab  hkt2 ⟨hf.2.2.2.2.1, hf.2.2.2.2.2.1⟩ h1) ?_
  rcases Decidable.em (v5 = 0) with c4 | c4
  · rw [if_pos c4] at h
    exact ff_X5_findHalves_165  hf  hk_30 hk_39 v2 v3 p4 v6 v7 v8 r2 z3 hk4 h
  · rw [if_neg c4] at h
    rcases Decidable.em (r2 ≤ (z3.1 156 15)) with c5 | c5
    · rw [if_pos c5] at h
      exact ff_X5_findHalves_200  hf  hk_30 hk_39 v2 v3 p4 v5 v6 v7 z3 hk4 h
    · rw [if_neg c5] at h
      exact ff_X5_findHalves_165  hf  hk_30 hk_39 v2 v3 p4 v6 v7 v8 r2 z3 hk4 h
theorem ff_X5_findHalves_123 {a k : Nat} (hf : Nf_X5_findHalves  a k) {k30 : Int32 → Int32 → Nat → Int32 → Int32 → St → Option (Int32 × St)} (hk_30 : ∀ (v2 : Int32) (v3 : Int32) (p4 : Nat) (v5 : Int32) (v6 : Int32) (z : St) (hk4 : kd p4 = 9) (Rz : Int32 × St), k30 v2 v3 p4 v5 v6 z = some Rz → SA z Rz.2 a k) {k39 : Int32 → Int32 → Nat → Int32 → Int32 → Int32 → St → Option (Int32 × St)} (hk_39 : ∀ (v2 : Int32) (v3 : Int32) (p4 : Nat) (v5 : Int32) (v6 : Int32) (v7 : Int32) (z : St) (hk4 : kd p4 = 9) (Rz : Int32 × St), k39 v2 v3 p4 v5 v6 v7 z = some Rz → SA z Rz.2 a k) (v2 : Int32) (v3 : Int32) (p4 : Nat) (v5 : Int32) (v6 : Int32) (v7 : Int32) (tv0 : Int32) (z : St) (hk4 : kd p4 = 9) {Rz : Int32 × St} (h : fn_X5_findHalves_123  k30 k39 v2 v3 p4 v5 v6 v7 tv0 z = some Rz) : SA z Rz.2 a k := by
  unfold fn_X5_findHalves_123 at h
  rcases Decidable.em (tv0 = 0) with c1 | c1
  · rw [if_pos c1] at h
    exact ff_X5_findHalves_146  hf  hk_30 hk_39 v2 v3 p4 v5 v6 v7 tv0 v2 158 z hk4 k_158 h
  · rw [if_neg c1] at h
    exact ff_X5_findHalves_146  hf  hk_30 hk_39 v2 v3 p4 v5 v6 v7 tv0 v2 157 z hk4 k_157 h
theorem ff_X5_findHalves_39 {a k : Nat} (hf : Nf_X5_findHalves  a k) {k30 : Int32 → Int32 → Nat → Int32 → Int32 → St → Option (Int32 × St)} (hk_30 : ∀ (v2 : Int32) (v3 : Int32) (p4 : Nat) (v5 : Int32) (v6 : Int32) (z : St) (hk4 : kd p4 = 9) (Rz : Int32 × St), k30 v2 v3 p4 v5 v6 z = some Rz → SA z Rz.2 a k) : ∀ (n : Nat) (v2 : Int32) (v3 : Int32) (p4 : Nat) (v5 : Int32) (v6 : Int32) (v7 : Int32) (z : St) (hk4 : kd p4 = 9) (Rz : Int32 × St), fn_X5_findHalves_39  k30 n v2 v3 p4 v5 v6 v7 z = some Rz → SA z Rz.2 a k := by
  intro n
  induction n with
  | zero => intro v2 v3 p4 v5 v6 v7 z hk4 Rz h; cases h
  | succ n ih =>
    intro v2 v3 p4 v5 v6 v7 z hk4 Rz h
    rw [fn_X5_findHalves_39] at h
    obtain ⟨r2, z3, h1, h⟩ := bd_s h
    refine SA.tr (ff_X9_extent  hk4 trivial h1) ?_
    rcases Decidable.em (r2 ≤ v7) with c4 | c4
    · rw [if_pos c4] at h
      exact hk_30 v2 v3 p4 v5 (v6 + 1) z3 hk4 _ h
    · rw [if_neg c4] at h
      obtain ⟨z6, h5, h⟩ := bv_s h
      refine SA.tr (ff_X9_takeFrom  k_157 hk4 ⟨hf.2.2.2.2.2.2.1, hf.2.2.2.2.2.2.2.1, hf.2.2.2.2.2.2.2.2.1, hf.2.2.2.2.2.2.2.2.2.1, hf.2.2.2.2.2.2.2.2.2.2.1, hf.2.2.2.2.2.2.2.2.2.2.2.1, hf.2.2.2.2.2.2.2.2.2.2.2.2.1⟩ h5) ?_
      obtain ⟨z8, h7, h⟩ := bv_s h
      refine SA.tr (ff_X9_keepAhead  k_157 ⟨hf.2.2.2.2.2.2.2.2.2.2.1, hf.2.2.2.2.2.2.2.2.2.1⟩ h7) ?_
      obtain ⟨z10, h9, h⟩ := bv_s h
      refine SA.tr (ff_X9_takeFrom  k_158 hk4 ⟨hf.2.2.2.2.2.2.2.2.2.2.2.2.2.1, hf.2.2.2.2.2.2.2.2.2.2.2.2.2.2.1, hf.2.2.2.2.2.2.2.2.2.2.2.2.2.2.2.1, hf.2.2.2.2.2.2.2.2.2.2.2.2.2.2.2.2.1, hf.2.2.2.2.2.2.2.2.2.2.2.2.2.2.2.2.2.1, hf.2.2.2.2.2.2.2.2.2.2.2.2.2.2.2.2.2.2.1, hf.2.2.2.2.2.2.2.2.2.2.2.2.2.2.2.2.2.2.2⟩ h9) ?_
      obtain ⟨z12, h11, h⟩ := bv_s h
      refine SA.tr (ff_X9_keepBehind  k_158 ⟨hf.2.2.2.2.2.2.2.2.2.2.2.2.2.2.2.1, hf.2.2.2.2.2.2.2.2.2.2.2.2.2.2.2.2.2.1, hf.2.2.2.2.2.2.2.2.2.2.2.2.2.2.1, hf.2.2.2.2.2.2.2.2.2.2.2.2.2.2.2.2.1⟩ h11) ?_
      obtain ⟨r14, z15, h13, h⟩ := bd_s h
      refine SA.tr (ff_X10_ofSlab  k_158 ⟨hf.2.2.2.2.1, hf.2.2.2.2.2.1⟩ h13) ?_
      obtain ⟨r17, z18, h16, h⟩ := bd_s h
      refine SA.tr (ff_X10_ofSlab  k_157 ⟨hf.2.2.2.2.1, hf.2.2.2.2.2.1⟩ h16) ?_
      rcases Decidable.em (r14 ≤ r17) with c19 | c19
      · rw [if_pos c19] at h
        exact ff_X5_findHalves_123  hf  hk_30 ih v2 v3 p4 v5 v6 v7 0 z18 hk4 h
      · rw [if_neg c19] at h
        exact ff_X5_findHalves_123  hf  hk_30 ih v2 v3 p4 v5 v6 v7 1 z18 hk4 h
theorem ff_X5_findHalves_30 {a k : Nat} (hf : Nf_X5_findHalves  a k) : ∀ (n : Nat) (v2 : Int32) (v3 : Int32) (p4 : Nat) (v5 : Int32) (v6 : Int32) (z : St) (hk4 : kd p4 = 9) (Rz : Int32 × St), fn_X5_findHalves_30   n v2 v3 p4 v5 v6 z = some Rz → SA z Rz.2 a k := by
  intro n
  induction n with
  | zero => intro v2 v3 p4 v5 v6 z hk4 Rz h; cases h
  | succ n ih =>
    intro v2 v3 p4 v5 v6 z hk4 Rz h
    rw [fn_X5_findHalves_30] at h
    rcases Decidable.em (1 < v6) with c1 | c1
    · rw [if_pos c1] at h
      obtain ⟨g2, h⟩ := gd_s h
      cases h
      exact SA.rf
    · rw [if_neg c1] at h
      exact ff_X5_findHalves_39  hf  ih fu v2 v3 p4 v5 v6 1 z hk4 _ h
theorem ff_X5_findHalves {a k : Nat} {v1 : Int32} {v2 : Int32} {v3 : Int32} {z : St} {Rz : Int32 × St}  (hf : Nf_X5_findHalves  a k) (h : fn_X5_findHalves  v1 v2 v3 z = some Rz) : SA z Rz.2 a k := by
  unfold fn_X5_findHalves at h
  obtain ⟨r2, z3, h1, h⟩ := bd_s h
  refine SA.tr (ff_X1_isCuttable  k_34 trivial h1) ?_
  rcases Decidable.em (r2 = 0) with c4 | c4
  · rw [if_pos c4] at h
    cases h
    exact SA.rf
  · rw [if_neg c4] at h
    obtain ⟨g5, h⟩ := gd_s h
    exact ff_X5_findHalves_30  hf   fu v2 v3 (35 + 1 + (Int32.toNatClampNeg v1)) 0 0 z3 (ke_18 k_35 (ix_lt g5)) _ h
theorem ff_X5_prepare_98 {a k : Nat} (hf : Nf_X5_prepare  a k) {k12 : Int32 → St → Option (St)} (hk_12 : ∀ (v1 : Int32) (z : St)  (Rz : St), k12 v1 z = some Rz → SA z Rz a k) (v1 : Int32) (z : St)  {Rz : St} (h : fn_X5_prepare_98  k12 v1 z = some Rz) : SA z Rz a k := by
  unfold fn_X5_prepare_98 at h
  exact hk_12 (v1 + 1) z  _ h
theorem ff_X5_prepare_60 {a k : Nat} (hf : Nf_X5_prepare  a k) {k12 : Int32 → St → Option (St)} (hk_12 : ∀ (v1 : Int32) (z : St)  (Rz : St), k12 v1 z = some Rz → SA z Rz a k) : ∀ (n : Nat) (v1 : Int32) (v2 : Int32) (z : St)  (Rz : St), fn_X5_prepare_60  k12 n v1 v2 z = some Rz → SA z Rz a k := by
  intro n
  induction n with
  | zero => intro v1 v2 z  Rz h; cases h
  | succ n ih =>
    intro v1 v2 z  Rz h
    rw [fn_X5_prepare_60] at h
    rcases Decidable.em ((z.1 34 2) ≤ v2) with c1 | c1
    · rw [if_pos c1] at h
      exact ff_X5_prepare_98  hf  hk_12 v1 z  h
    · rw [if_neg c1] at h
      obtain ⟨r3, z4, h2, h⟩ := bd_s h
      refine SA.tr (ff_X10_ofPiece   ⟨hf.1, hf.2.1⟩ h2) ?_
      obtain ⟨g5, h⟩ := gd_s h
      obtain ⟨z6, e_z6, h⟩ := nm_s h
      refine SA.tr (sa_Ia e_z6 hf.2.2.1) ?_
      exact ih v1 (v2 + 1) z6  _ h
theorem ff_X5_prepare_145 {a k : Nat} (hf : Nf_X5_prepare  a k) {k111 : Int32 → St → Option (St)} (hk_111 : ∀ (v1 : Int32) (z : St)  (Rz : St), k111 v1 z = some Rz → SA z Rz a k) (v1 : Int32) (z : St)  {Rz : St} (h : fn_X5_prepare_145  k111 v1 z = some Rz) : SA z Rz a k := by
  unfold fn_X5_prepare_145 at h
  exact hk_111 (v1 + 1) z  _ h
theorem ff_X5_prepare_111 {a k : Nat} (hf : Nf_X5_prepare  a k) : ∀ (n : Nat) (v1 : Int32) (z : St)  (Rz : St), fn_X5_prepare_111   n v1 z = some Rz → SA z Rz a k := by
  intro n
  induction n with
  | zero => intro v1 z  Rz h; cases h
  | succ n ih =>
    intro v1 z  Rz h
    rw [fn_X5_prepare_111] at h
    rcases Decidable.em ((z.1 34 2) ≤ v1) with c1 | c1
    · rw [if_pos c1] at h
      cases h
      exact SA.rf
    · rw [if_neg c1] at h
      obtain ⟨r3, z4, h2, h⟩ := bd_s h
      refine SA.tr (ff_X1_isFree  k_34 trivial h2) ?_
      rcases Decidable.em (r3 = 0) with c5 | c5
      · rw [if_pos c5] at h
        exact ff_X5_prepare_145  hf  ih v1 z4  h
      · rw [if_neg c5] at h
        obtain ⟨z6, e_z6, h⟩ := nm_s h
        refine SA.tr (sa_I e_z6 hf.2.2.2.1) ?_
        exact ff_X5_prepare_145  hf  ih v1 z6  h
theorem ff_X5_prepare_12 {a k : Nat} (hf : Nf_X5_prepare  a k) : ∀ (n : Nat) (v1 : Int32) (z : St)  (Rz : St), fn_X5_prepare_12   n v1 z = some Rz → SA z Rz a k := by
  intro n
  induction n with
  | zero => intro v1 z  Rz h; cases h
  | succ n ih =>
    intro v1 z  Rz h
    rw [fn_X5_prepare_12] at h
    rcases Decidable.em ((z.1 2 5) ≤ v1) with c1 | c1
    · rw [if_pos c1] at h
      obtain ⟨z2, e_z2, h⟩ := nm_s h
      refine SA.tr (sa_I e_z2 hf.2.2.2.1) ?_
      exact ff_X5_prepare_111  hf   fu 0 z2  _ h
    · rw [if_neg c1] at h
      obtain ⟨g3, h⟩ := gd_s h
      rcases Decidable.em ((z.1 60 (Int32.toNatClampNeg v1)) = (-1)) with c4 | c4
      · rw [if_pos c4] at h
        obtain ⟨z5, e_z5, h⟩ := nm_s h
        refine SA.tr (sa_I e_z5 hf.2.2.2.2.1) ?_
        obtain ⟨z6, e_z6, h⟩ := nm_s h
        refine SA.tr (sa_I e_z6 hf.2.2.2.2.2) ?_
        exact ff_X5_prepare_60  hf  ih fu v1 0 z6  _ h
      · rw [if_neg c4] at h
        exact ff_X5_prepare_98  hf  ih v1 z  h
theorem ff_X5_prepare {a k : Nat}  {z : St} {Rz : St}  (hf : Nf_X5_prepare  a k) (h : fn_X5_prepare   z = some Rz) : SA z Rz a k := by
  unfold fn_X5_prepare at h
  obtain ⟨z1, e_z1, h⟩ := nm_s h
  refine SA.tr (sa_I e_z1 hf.2.2.2.2.1) ?_
  obtain ⟨z2, e_z2, h⟩ := nm_s h
  refine SA.tr (sa_I e_z2 hf.2.2.2.2.2) ?_
  exact ff_X5_prepare_12  hf   fu 0 z2  _ h
theorem ff_X5_pickOf_63 {a k : Nat} (hf : Nf_X5_pickOf  a k) {k8 : Int32 → Int32 → Int32 → Int32 → Int32 → St → Option (Int32 × St)} (hk_8 : ∀ (v1 : Int32) (v2 : Int32) (v3 : Int32) (v4 : Int32) (v5 : Int32) (z : St)  (Rz : Int32 × St), k8 v1 v2 v3 v4 v5 z = some Rz → SA z Rz.2 a k) (v1 : Int32) (v2 : Int32) (v3 : Int32) (v4 : Int32) (v5 : Int32) (z : St)  {Rz : Int32 × St} (h : fn_X5_pickOf_63  k8 v1 v2 v3 v4 v5 z = some Rz) : SA z Rz.2 a k := by
  unfold fn_X5_pickOf_63 at h
  exact hk_8 v1 v2 v3 v4 (v5 + 1) z  _ h
theorem ff_X5_pickOf_56 {a k : Nat} (hf : Nf_X5_pickOf  a k) {k8 : Int32 → Int32 → Int32 → Int32 → Int32 → St → Option (Int32 × St)} (hk_8 : ∀ (v1 : Int32) (v2 : Int32) (v3 : Int32) (v4 : Int32) (v5 : Int32) (z : St)  (Rz : Int32 × St), k8 v1 v2 v3 v4 v5 z = some Rz → SA z Rz.2 a k) (v1 : Int32) (v2 : Int32) (v5 : Int32) (v6 : Int32) (z : St)  {Rz : Int32 × St} (h : fn_X5_pickOf_56  k8 v1 v2 v5 v6 z = some Rz) : SA z Rz.2 a k := by
  unfold fn_X5_pickOf_56 at h
  exact ff_X5_pickOf_63  hf  hk_8 v1 v2 v5 v6 v5 z  h
theorem ff_X5_pickOf_8 {a k : Nat} (hf : Nf_X5_pickOf  a k) : ∀ (n : Nat) (v1 : Int32) (v2 : Int32) (v3 : Int32) (v4 : Int32) (v5 : Int32) (z : St)  (Rz : Int32 × St), fn_X5_pickOf_8   n v1 v2 v3 v4 v5 z = some Rz → SA z Rz.2 a k := by
  intro n
  induction n with
  | zero => intro v1 v2 v3 v4 v5 z  Rz h; cases h
  | succ n ih =>
    intro v1 v2 v3 v4 v5 z  Rz h
    rw [fn_X5_pickOf_8] at h
    rcases Decidable.em ((z.1 34 2) ≤ v5) with c1 | c1
    · rw [if_pos c1] at h
      cases h
      exact SA.rf
    · rw [if_neg c1] at h
      rcases Decidable.em (((v2 >>> (v5 &&& 31)) &&& 1) = 1) with c2 | c2
      · rw [if_pos c2] at h
        obtain ⟨g3, h⟩ := gd_s h
        obtain ⟨v6_4, e_v6_4, h⟩ := nm_s h
        rcases Decidable.em (v3 = (-1)) with c5 | c5
        · rw [if_pos c5] at h
          exact ff_X5_pickOf_56  hf  ih v1 v2 v5 v6_4 z  h
        · rw [if_neg c5] at h
          rcases Decidable.em (v6_4 ≤ v4) with c6 | c6
          · rw [if_pos c6] at h
            exact ff_X5_pickOf_63  hf  ih v1 v2 v3 v4 v5 z  h
          · rw [if_neg c6] at h
            exact ff_X5_pickOf_56  hf  ih v1 v2 v5 v6_4 z  h
      · rw [if_neg c2] at h
        exact ff_X5_pickOf_63  hf  ih v1 v2 v3 v4 v5 z  h
theorem ff_X5_pickOf {a k : Nat} {v1 : Int32} {v2 : Int32} {z : St} {Rz : Int32 × St}  (hf : Nf_X5_pickOf  a k) (h : fn_X5_pickOf  v1 v2 z = some Rz) : SA z Rz.2 a k := by
  unfold fn_X5_pickOf at h
  exact ff_X5_pickOf_8  hf   fu v1 v2 (-1) 0 0 z  _ h
theorem ff_X5_without {a k : Nat} {v0 : Int32} {v1 : Int32} {z : St} {Rz : Int32 × St}  (hf : Nf_X5_without  a k) (h : fn_X5_without  v0 v1 z = some Rz) : SA z Rz.2 a k := by
  unfold fn_X5_without at h
  rcases Decidable.em (v1 = (-1)) with c1 | c1
  · rw [if_pos c1] at h
    cases h
    exact SA.rf
  · rw [if_neg c1] at h
    cases h
    exact SA.rf
theorem ff_X5_pickByNumber_64 {a k : Nat} (p1 : Nat) (hk1 : kd p1 = 14) (hf : Nf_X5_pickByNumber p1 a k) {k11 : Nat → Int32 → Int32 → St → Option (Int32 × St)} (hk_11 : ∀ (v2 : Int32) (v3 : Int32) (z : St)  (Rz : Int32 × St), k11 p1 v2 v3 z = some Rz → SA z Rz.2 a k) (v2 : Int32) (v3 : Int32) (tv1 : Int32) (tv2 : Int32) (z : St)  {Rz : Int32 × St} (h : fn_X5_pickByNumber_64  k11 p1 v2 v3 tv1 tv2 z = some Rz) : SA z Rz.2 a k := by
  unfold fn_X5_pickByNumber_64 at h
  obtain ⟨g1, h⟩ := gd_s h
  obtain ⟨z2, e_z2, h⟩ := nm_s h
  refine SA.tr (sa_Ia e_z2 hf.1) ?_
  obtain ⟨g3, h⟩ := gd_s h
  obtain ⟨r5, z6, h4, h⟩ := bd_s h
  refine SA.tr (ff_X5_without   trivial h4) ?_
  exact hk_11 r5 (v3 + 1) z6  _ h
theorem ff_X5_pickByNumber_45 {a k : Nat} (p1 : Nat) (hk1 : kd p1 = 14) (hf : Nf_X5_pickByNumber p1 a k) {k11 : Nat → Int32 → Int32 → St → Option (Int32 × St)} (hk_11 : ∀ (v2 : Int32) (v3 : Int32) (z : St)  (Rz : Int32 × St), k11 p1 v2 v3 z = some Rz → SA z Rz.2 a k) (v2 : Int32) (v3 : Int32) (tv0 : Int32) (z : St)  {Rz : Int32 × St} (h : fn_X5_pickByNumber_45  k11 p1 v2 v3 tv0 z = some Rz) : SA z Rz.2 a k := by
  unfold fn_X5_pickByNumber_45 at h
  rcases Decidable.em (tv0 = 0) with c1 | c1
  · rw [if_pos c1] at h
    exact ff_X5_pickByNumber_64 p1 hk1 hf  hk_11 v2 v3 v3 (-1) z  h
  · rw [if_neg c1] at h
    obtain ⟨r3, z4, h2, h⟩ := bd_s h
    refine SA.tr (ff_X5_pickOf   trivial h2) ?_
    exact ff_X5_pickByNumber_64 p1 hk1 hf  hk_11 v2 v3 v3 r3 z4  h
theorem ff_X5_pickByNumber_79 {a k : Nat} (p1 : Nat) (hk1 : kd p1 = 14) (hf : Nf_X5_pickByNumber p1 a k) (v2 : Int32) (z : St)  {Rz : Int32 × St} (h : fn_X5_pickByNumber_79   v2 z = some Rz) : SA z Rz.2 a k := by
  unfold fn_X5_pickByNumber_79 at h
  obtain ⟨r2, z3, h1, h⟩ := bd_s h
  refine SA.tr (ff_J6_bitCount_0f7a4   trivial h1) ?_
  cases h
  exact SA.rf
theorem ff_X5_pickByNumber_11 {a k : Nat} (p1 : Nat) (hk1 : kd p1 = 14) (hf : Nf_X5_pickByNumber p1 a k) : ∀ (n : Nat) (v2 : Int32) (v3 : Int32) (z : St)  (Rz : Int32 × St), fn_X5_pickByNumber_11   n p1 v2 v3 z = some Rz → SA z Rz.2 a k := by
  intro n
  induction n with
  | zero => intro v2 v3 z  Rz h; cases h
  | succ n ih =>
    intro v2 v3 z  Rz h
    rw [fn_X5_pickByNumber_11] at h
    rcases Decidable.em ((z.1 2 5) ≤ v3) with c1 | c1
    · rw [if_pos c1] at h
      exact ff_X5_pickByNumber_79 p1 hk1 hf   v2 z  h
    · rw [if_neg c1] at h
      rcases Decidable.em ((Int32.ofNat (ln p1)) ≤ v3) with c2 | c2
      · rw [if_pos c2] at h
        exact ff_X5_pickByNumber_79 p1 hk1 hf   v2 z  h
      · rw [if_neg c2] at h
        rcases Decidable.em ((((z.1 156 7) >>> (v3 &&& 31)) &&& 1) = 1) with c3 | c3
        · rw [if_pos c3] at h
          exact ff_X5_pickByNumber_45 p1 hk1 hf  ih v2 v3 1 z  h
        · rw [if_neg c3] at h
          exact ff_X5_pickByNumber_45 p1 hk1 hf  ih v2 v3 0 z  h
theorem ff_X5_pickByNumber {a k : Nat} {p1 : Nat} {z : St} {Rz : Int32 × St} (hk1 : kd p1 = 14) (hf : Nf_X5_pickByNumber p1 a k) (h : fn_X5_pickByNumber  p1 z = some Rz) : SA z Rz.2 a k := by
  unfold fn_X5_pickByNumber at h
  obtain ⟨z2, h1, h⟩ := bv_s h
  refine SA.tr (ff_X5_prepare   ⟨hf.2.1, hf.2.2.1, hf.2.2.2.1, hf.2.2.2.2.1, hf.2.2.2.2.2.1, hf.2.2.2.2.2.2⟩ h1) ?_
  obtain ⟨v2_3, e_v2_3, h⟩ := nm_s h
  exact ff_X5_pickByNumber_11 p1 hk1 hf   fu v2_3 0 z2  _ h
theorem ff_X5_tryOrders_47 {a k : Nat} (p1 : Nat) (hk1 : kd p1 = 14) (hf : Nf_X5_tryOrders p1 a k) {kT : Nat → Int32 → Int32 → Int32 → Int32 → St → Option St} (hfkT : ∀ {p1 : Nat} {v2 v3 v4 v5 : Int32} {z Rz : St}, kd p1 = 14 → Nf_X5_tryOrders p1 a k → kT p1 v2 v3 v4 v5 z = some Rz → SA z Rz a k) : ∀ (n : Nat) (v6 : Int32) (z : St)  (Rz : St), fn_X5_tryOrders_47 kT  n p1 v6 z = some Rz → SA z Rz a k := by
  intro n
  induction n with
  | zero => intro v6 z  Rz h; cases h
  | succ n ih =>
    intro v6 z  Rz h
    rw [fn_X5_tryOrders_47] at h
    rcases Decidable.em ((z.1 156 8) ≤ v6) with c1 | c1
    · rw [if_pos c1] at h
      cases h
      exact SA.rf
    · rw [if_neg c1] at h
      rcases Decidable.em ((Int32.ofNat (ln p1)) ≤ v6) with c2 | c2
      · rw [if_pos c2] at h
        cases h
        exact SA.rf
      · rw [if_neg c2] at h
        obtain ⟨g3, h⟩ := gd_s h
        obtain ⟨g4, h⟩ := gd_s h
        obtain ⟨z5, e_z5, h⟩ := nm_s h
        refine SA.tr (sa_Ia e_z5 hf.1) ?_
        exact ih (v6 + 1) z5  _ h
theorem ff_X5_tryOrders_188 {a k : Nat} (p1 : Nat) (hk1 : kd p1 = 14) (hf : Nf_X5_tryOrders p1 a k) {kT : Nat → Int32 → Int32 → Int32 → Int32 → St → Option St} (hfkT : ∀ {p1 : Nat} {v2 v3 v4 v5 : Int32} {z Rz : St}, kd p1 = 14 → Nf_X5_tryOrders p1 a k → kT p1 v2 v3 v4 v5 z = some Rz → SA z Rz a k) {k84 : Nat → Int32 → Int32 → Int32 → Int32 → Int32 → St → Option (St)} (hk_84 : ∀ (v2 : Int32) (v3 : Int32) (v4 : Int32) (v5 : Int32) (v6 : Int32) (z : St)  (Rz : St), k84 p1 v2 v3 v4 v5 v6 z = some Rz → SA z Rz a k) (v2 : Int32) (v3 : Int32) (v4 : Int32) (v5 : Int32) (v6 : Int32) (z : St)  {Rz : St} (h : fn_X5_tryOrders_188 kT k84 p1 v2 v3 v4 v5 v6 z = some Rz) : SA z Rz a k := by
  unfold fn_X5_tryOrders_188 at h
  exact hk_84 v2 v3 v4 v5 (v6 + 1) z  _ h
theorem ff_X5_tryOrders_148 {a k : Nat} (p1 : Nat) (hk1 : kd p1 = 14) (hf : Nf_X5_tryOrders p1 a k) {kT : Nat → Int32 → Int32 → Int32 → Int32 → St → Option St} (hfkT : ∀ {p1 : Nat} {v2 v3 v4 v5 : Int32} {z Rz : St}, kd p1 = 14 → Nf_X5_tryOrders p1 a k → kT p1 v2 v3 v4 v5 z = some Rz → SA z Rz a k) {k84 : Nat → Int32 → Int32 → Int32 → Int32 → Int32 → St → Option (St)} (hk_84 : ∀ (v2 : Int32) (v3 : Int32) (v4 : Int32) (v5 : Int32) (v6 : Int32) (z : St)  (Rz : St), k84 p1 v2 v3 v4 v5 v6 z = some Rz → SA z Rz a k) (v2 : Int32) (v3 : Int32) (v4 : Int32) (v5 : Int32) (v6 : Int32) (v7 : Int32) (tv0 : Int32) (z : St)  {Rz : St} (h : fn_X5_tryOrders_148 kT k84 p1 v2 v3 v4 v5 v6 v7 tv0 z = some Rz) : SA z Rz a k := by
  unfold fn_X5_tryOrders_148 at h
  obtain ⟨g1, h⟩ := gd_s h
  obtain ⟨z2, e_z2, h⟩ := nm_s h
  refine SA.tr (sa_Ia e_z2 hf.2.1) ?_
  obtain ⟨r4, z5, h3, h⟩ := bd_s h
  refine SA.tr (ff_X5_without   trivial h3) ?_
  obtain ⟨z7, h6, h⟩ := bv_s h
  refine SA.tr (hfkT hk1 ⟨hf.1, hf.2.1, hf.2.2.1, hf.2.2.2⟩ h6) ?_
  exact ff_X5_tryOrders_188 p1 hk1 hf hfkT hk_84 v2 v3 v4 v5 v6 z7  h
theorem ff_X5_tryOrders_84 {a k : Nat} (p1 : Nat) (hk1 : kd p1 = 14) (hf : Nf_X5_tryOrders p1 a k) {kT : Nat → Int32 → Int32 → Int32 → Int32 → St → Option St} (hfkT : ∀ {p1 : Nat} {v2 v3 v4 v5 : Int32} {z Rz : St}, kd p1 = 14 → Nf_X5_tryOrders p1 a k → kT p1 v2 v3 v4 v5 z = some Rz → SA z Rz a k) : ∀ (n : Nat) (v2 : Int32) (v3 : Int32) (v4 : Int32) (v5 : Int32) (v6 : Int32) (z : St)  (Rz : St), fn_X5_tryOrders_84 kT  n p1 v2 v3 v4 v5 v6 z = some Rz → SA z Rz a k := by
  intro n
  induction n with
  | zero => intro v2 v3 v4 v5 v6 z  Rz h; cases h
  | succ n ih =>
    intro v2 v3 v4 v5 v6 z  Rz h
    rw [fn_X5_tryOrders_84] at h
    rcases Decidable.em ((z.1 2 5) ≤ v6) with c1 | c1
    · rw [if_pos c1] at h
      cases h
      exact SA.rf
    · rw [if_neg c1] at h
      rcases Decidable.em (((v3 >>> (v6 &&& 31)) &&& 1) = 1) with c2 | c2
      · rw [if_pos c2] at h
        rcases Decidable.em (6 ≤ v2) with c3 | c3
        · rw [if_pos c3] at h
          exact ff_X5_tryOrders_188 p1 hk1 hf hfkT ih v2 v3 v4 v5 v6 z  h
        · rw [if_neg c3] at h
          obtain ⟨r5, z6, h4, h⟩ := bd_s h
          refine SA.tr (ff_X5_pickOf   trivial h4) ?_
          rcases Decidable.em (r5 = (-1)) with c7 | c7
          · rw [if_pos c7] at h
            exact ff_X5_tryOrders_148 p1 hk1 hf hfkT ih v2 v3 v4 v5 v6 r5 0 z6  h
          · rw [if_neg c7] at h
            obtain ⟨g8, h⟩ := gd_s h
            exact ff_X5_tryOrders_148 p1 hk1 hf hfkT ih v2 v3 v4 v5 v6 r5 (z6.1 159 (Int32.toNatClampNeg ((v6 * 24) + r5))) z6  h
      · rw [if_neg c2] at h
        exact ff_X5_tryOrders_188 p1 hk1 hf hfkT ih v2 v3 v4 v5 v6 z  h
theorem ff_X5_tryOrders_16 {a k : Nat} (p1 : Nat) (hk1 : kd p1 = 14) (hf : Nf_X5_tryOrders p1 a k) {kT : Nat → Int32 → Int32 → Int32 → Int32 → St → Option St} (hfkT : ∀ {p1 : Nat} {v2 v3 v4 v5 : Int32} {z Rz : St}, kd p1 = 14 → Nf_X5_tryOrders p1 a k → kT p1 v2 v3 v4 v5 z = some Rz → SA z Rz a k) (v2 : Int32) (v3 : Int32) (v4 : Int32) (v5 : Int32) (z : St)  {Rz : St} (h : fn_X5_tryOrders_16 kT  p1 v2 v3 v4 v5 z = some Rz) : SA z Rz a k := by
  unfold fn_X5_tryOrders_16 at h
  rcases Decidable.em (v2 ≤ (z.1 156 8)) with c1 | c1
  · rw [if_pos c1] at h
    rcases Decidable.em (v2 = (z.1 156 8)) with c2 | c2
    · rw [if_pos c2] at h
      obtain ⟨z3, e_z3, h⟩ := nm_s h
      refine SA.tr (sa_I e_z3 hf.2.2.1) ?_
      obtain ⟨z4, e_z4, h⟩ := nm_s h
      refine SA.tr (sa_I e_z4 hf.2.2.2) ?_
      exact ff_X5_tryOrders_47 p1 hk1 hf hfkT  fu 0 z4  _ h
    · rw [if_neg c2] at h
      exact ff_X5_tryOrders_84 p1 hk1 hf hfkT  fu v2 v3 v4 v5 0 z  _ h
  · rw [if_neg c1] at h
    cases h
    exact SA.rf
theorem ff_X5_tryOrders {a k : Nat} {kT : Nat → Int32 → Int32 → Int32 → Int32 → St → Option St} (hfkT : ∀ {p1 : Nat} {v2 v3 v4 v5 : Int32} {z Rz : St}, kd p1 = 14 → Nf_X5_tryOrders p1 a k → kT p1 v2 v3 v4 v5 z = some Rz → SA z Rz a k) {p1 : Nat} {v2 : Int32} {v3 : Int32} {v4 : Int32} {v5 : Int32} {z : St} {Rz : St} (hk1 : kd p1 = 14) (hf : Nf_X5_tryOrders p1 a k) (h : fn_X5_tryOrders kT p1 v2 v3 v4 v5 z = some Rz) : SA z Rz a k := by
  unfold fn_X5_tryOrders at h
  rcases Decidable.em ((z.1 156 10) = 0) with c1 | c1
  · rw [if_pos c1] at h
    exact ff_X5_tryOrders_16 p1 hk1 hf hfkT  v2 v3 v4 v5 z  h
  · rw [if_neg c1] at h
    rcases Decidable.em (v5 ≤ (z.1 156 11)) with c2 | c2
    · rw [if_pos c2] at h
      cases h
      exact SA.rf
    · rw [if_neg c2] at h
      exact ff_X5_tryOrders_16 p1 hk1 hf hfkT  v2 v3 v4 v5 z  h
theorem ff_recTn {a k : Nat} (n : Nat) : ∀ {p1 : Nat} {v2 v3 v4 v5 : Int32} {z Rz : St}, kd p1 = 14 → Nf_X5_tryOrders p1 a k → recT n p1 v2 v3 v4 v5 z = some Rz → SA z Rz a k := by
  induction n with
  | zero => intro p1 v2 v3 v4 v5 z Rz hk hf h; cases h
  | succ n ih => intro p1 v2 v3 v4 v5 z Rz hk hf h; exact ff_X5_tryOrders ih hk hf h
theorem ff_recT {a k p1 : Nat} {v2 v3 v4 v5 : Int32} {z Rz : St} (hk : kd p1 = 14) (hf : Nf_X5_tryOrders p1 a k) (h : recT 9 p1 v2 v3 v4 v5 z = some Rz) : SA z Rz a k := ff_recTn 9 hk hf h
theorem ff_X5_findOrder {a k : Nat} {p1 : Nat} {z : St} {Rz : Int32 × St} (hk1 : kd p1 = 14) (hf : Nf_X5_findOrder p1 a k) (h : fn_X5_findOrder  p1 z = some Rz) : SA z Rz.2 a k := by
  unfold fn_X5_findOrder at h
  obtain ⟨z2, h1, h⟩ := bv_s h
  refine SA.tr (ff_X5_prepare   ⟨hf.1, hf.2.1, hf.2.2.1, hf.2.2.2.1, hf.2.2.2.2.1, hf.2.2.2.2.2.1⟩ h1) ?_
  obtain ⟨z3, e_z3, h⟩ := nm_s h
  refine SA.tr (sa_I e_z3 hf.2.2.2.2.2.2.1) ?_
  obtain ⟨z4, e_z4, h⟩ := nm_s h
  refine SA.tr (sa_I e_z4 hf.2.2.2.2.2.2.2.1) ?_
  rcases Decidable.em ((z4.1 156 8) ≤ 0) with c5 | c5
  · rw [if_pos c5] at h
    cases h
    exact SA.rf
  · rw [if_neg c5] at h
    obtain ⟨z7, h6, h⟩ := bv_s h
    refine SA.tr (ff_recT hk1 ⟨hf.2.2.2.2.2.2.2.2.1, hf.2.2.2.2.2.2.2.2.2, hf.2.2.2.2.2.2.1, hf.2.2.2.2.2.2.2.1⟩ h6) ?_
    cases h
    exact SA.rf
theorem ff_X6_withLetter {a k : Nat} {v0 : Int64} {v2 : Int32} {z : St} {Rz : Int64 × St}  (hf : Nf_X6_withLetter  a k) (h : fn_X6_withLetter  v0 v2 z = some Rz) : SA z Rz.2 a k := by
  unfold fn_X6_withLetter at h
  cases h
  exact SA.rf
theorem ff_X6_isBlank {a k : Nat} {v0 : Int32} {z : St} {Rz : Int32 × St}  (hf : Nf_X6_isBlank  a k) (h : fn_X6_isBlank  v0 z = some Rz) : SA z Rz.2 a k := by
  unfold fn_X6_isBlank at h
  rcases Decidable.em (v0 = 32) with c1 | c1
  · rw [if_pos c1] at h
    cases h
    exact SA.rf
  · rw [if_neg c1] at h
    rcases Decidable.em (v0 = 10) with c2 | c2
    · rw [if_pos c2] at h
      cases h
      exact SA.rf
    · rw [if_neg c2] at h
      cases h
      exact SA.rf
theorem ff_X6_isDigit {a k : Nat} {v0 : Int32} {z : St} {Rz : Int32 × St}  (hf : Nf_X6_isDigit  a k) (h : fn_X6_isDigit  v0 z = some Rz) : SA z Rz.2 a k := by
  unfold fn_X6_isDigit at h
  rcases Decidable.em (v0 < 48) with c1 | c1
  · rw [if_pos c1] at h
    cases h
    exact SA.rf
  · rw [if_neg c1] at h
    rcases Decidable.em (57 < v0) with c2 | c2
    · rw [if_pos c2] at h
      cases h
      exact SA.rf
    · rw [if_neg c2] at h
      cases h
      exact SA.rf
theorem ff_X6_isLetter {a k : Nat} {v0 : Int32} {z : St} {Rz : Int32 × St}  (hf : Nf_X6_isLetter  a k) (h : fn_X6_isLetter  v0 z = some Rz) : SA z Rz.2 a k := by
  unfold fn_X6_isLetter at h
  rcases Decidable.em (v0 < 97) with c1 | c1
  · rw [if_pos c1] at h
    cases h
    exact SA.rf
  · rw [if_neg c1] at h
    rcases Decidable.em (122 < v0) with c2 | c2
    · rw [if_pos c2] at h
      cases h
      exact SA.rf
    · rw [if_neg c2] at h
      cases h
      exact SA.rf
theorem ff_X6_isMark_42 {a k : Nat} (hf : Nf_X6_isMark  a k) (v0 : Int32) (z : St)  {Rz : Int32 × St} (h : fn_X6_isMark_42   v0 z = some Rz) : SA z Rz.2 a k := by
  unfold fn_X6_isMark_42 at h
  rcases Decidable.em (v0 = 37) with c1 | c1
  · rw [if_pos c1] at h
    cases h
    exact SA.rf
  · rw [if_neg c1] at h
    cases h
    exact SA.rf
theorem ff_X6_isMark_18 {a k : Nat} (hf : Nf_X6_isMark  a k) (v0 : Int32) (z : St)  {Rz : Int32 × St} (h : fn_X6_isMark_18   v0 z = some Rz) : SA z Rz.2 a k := by
  unfold fn_X6_isMark_18 at h
  rcases Decidable.em (v0 = 45) with c1 | c1
  · rw [if_pos c1] at h
    cases h
    exact SA.rf
  · rw [if_neg c1] at h
    rcases Decidable.em (v0 = 47) with c2 | c2
    · rw [if_pos c2] at h
      cases h
      exact SA.rf
    · rw [if_neg c2] at h
      rcases Decidable.em (v0 < 60) with c3 | c3
      · rw [if_pos c3] at h
        exact ff_X6_isMark_42  hf   v0 z  h
      · rw [if_neg c3] at h
        rcases Decidable.em (v0 ≤ 62) with c4 | c4
        · rw [if_pos c4] at h
          cases h
          exact SA.rf
        · rw [if_neg c4] at h
          exact ff_X6_isMark_42  hf   v0 z  h
theorem ff_X6_isMark {a k : Nat} {v0 : Int32} {z : St} {Rz : Int32 × St}  (hf : Nf_X6_isMark  a k) (h : fn_X6_isMark  v0 z = some Rz) : SA z Rz.2 a k := by
  unfold fn_X6_isMark at h
  rcases Decidable.em (v0 = 59) with c1 | c1
  · rw [if_pos c1] at h
    cases h
    exact SA.rf
  · rw [if_neg c1] at h
    rcases Decidable.em (v0 < 40) with c2 | c2
    · rw [if_pos c2] at h
      exact ff_X6_isMark_18  hf   v0 z  h
    · rw [if_neg c2] at h
      rcases Decidable.em (v0 ≤ 43) with c3 | c3
      · rw [if_pos c3] at h
        cases h
        exact SA.rf
      · rw [if_neg c3] at h
        exact ff_X6_isMark_18  hf   v0 z  h
theorem ff_X6_signAt {a k : Nat} {v1 : Int32} {z : St} {Rz : Int32 × St}  (hf : Nf_X6_signAt  a k) (h : fn_X6_signAt  v1 z = some Rz) : SA z Rz.2 a k := by
  unfold fn_X6_signAt at h
  rcases Decidable.em (v1 < 0) with c1 | c1
  · rw [if_pos c1] at h
    cases h
    exact SA.rf
  · rw [if_neg c1] at h
    rcases Decidable.em ((z.1 32 3) ≤ v1) with c2 | c2
    · rw [if_pos c2] at h
      cases h
      exact SA.rf
    · rw [if_neg c2] at h
      rcases Decidable.em (1600 ≤ v1) with c3 | c3
      · rw [if_pos c3] at h
        cases h
        exact SA.rf
      · rw [if_neg c3] at h
        obtain ⟨g4, h⟩ := gd_s h
        cases h
        exact SA.rf
theorem ff_X6_scanNumber_100 {a k : Nat} (hf : Nf_X6_scanNumber  a k) (tv1 : Int32) (z : St)  {Rz : St} (h : fn_X6_scanNumber_100   tv1 z = some Rz) : SA z Rz a k := by
  unfold fn_X6_scanNumber_100 at h
  obtain ⟨z1, e_z1, h⟩ := nm_s h
  refine SA.tr (sa_I e_z1 hf.1) ?_
  cases h
  exact SA.rf
theorem ff_X6_scanNumber_95 {a k : Nat} (hf : Nf_X6_scanNumber  a k)  (z : St)  {Rz : St} (h : fn_X6_scanNumber_95    z = some Rz) : SA z Rz a k := by
  unfold fn_X6_scanNumber_95 at h
  exact ff_X6_scanNumber_100  hf   4 z  h
theorem ff_X6_scanNumber_67 {a k : Nat} (hf : Nf_X6_scanNumber  a k)  (z : St)  {Rz : St} (h : fn_X6_scanNumber_67    z = some Rz) : SA z Rz a k := by
  unfold fn_X6_scanNumber_67 at h
  rcases Decidable.em (4 < ((z.1 32 4) - (z.1 32 6))) with c1 | c1
  · rw [if_pos c1] at h
    exact ff_X6_scanNumber_95  hf    z  h
  · rw [if_neg c1] at h
    obtain ⟨r3, z4, h2, h⟩ := bd_s h
    refine SA.tr (ff_X6_signAt   trivial h2) ?_
    obtain ⟨r6, z7, h5, h⟩ := bd_s h
    refine SA.tr (ff_X6_isLetter   trivial h5) ?_
    rcases Decidable.em (r6 = 0) with c8 | c8
    · rw [if_pos c8] at h
      exact ff_X6_scanNumber_100  hf   2 z7  h
    · rw [if_neg c8] at h
      exact ff_X6_scanNumber_95  hf    z7  h
theorem ff_X6_scanNumber_7 {a k : Nat} (hf : Nf_X6_scanNumber  a k) : ∀ (n : Nat) (v1 : Int32) (z : St)  (Rz : St), fn_X6_scanNumber_7   n v1 z = some Rz → SA z Rz a k := by
  intro n
  induction n with
  | zero => intro v1 z  Rz h; cases h
  | succ n ih =>
    intro v1 z  Rz h
    rw [fn_X6_scanNumber_7] at h
    rcases Decidable.em (1600 ≤ v1) with c1 | c1
    · rw [if_pos c1] at h
      exact ff_X6_scanNumber_67  hf    z  h
    · rw [if_neg c1] at h
      obtain ⟨r3, z4, h2, h⟩ := bd_s h
      refine SA.tr (ff_X6_signAt   trivial h2) ?_
      obtain ⟨r6, z7, h5, h⟩ := bd_s h
      refine SA.tr (ff_X6_isDigit   trivial h5) ?_
      rcases Decidable.em (r6 = 0) with c8 | c8
      · rw [if_pos c8] at h
        exact ff_X6_scanNumber_67  hf    z7  h
      · rw [if_neg c8] at h
        obtain ⟨r10, z11, h9, h⟩ := bd_s h
        refine SA.tr (ff_X6_signAt   trivial h9) ?_
        obtain ⟨z12, e_z12, h⟩ := nm_s h
        refine SA.tr (sa_I e_z12 hf.2.1) ?_
        obtain ⟨z13, e_z13, h⟩ := nm_s h
        refine SA.tr (sa_I e_z13 hf.2.2) ?_
        exact ih (v1 + 1) z13  _ h
theorem ff_X6_scanNumber {a k : Nat}  {z : St} {Rz : St}  (hf : Nf_X6_scanNumber  a k) (h : fn_X6_scanNumber   z = some Rz) : SA z Rz a k := by
  unfold fn_X6_scanNumber at h
  obtain ⟨z1, e_z1, h⟩ := nm_s h
  refine SA.tr (sa_I e_z1 hf.2.1) ?_
  exact ff_X6_scanNumber_7  hf   fu 0 z1  _ h
theorem ff_X6_scanWord_118 {a k : Nat} (hf : Nf_X6_scanWord  a k) {k93 : Int32 → St → Option (St)} (hk_93 : ∀ (v1 : Int32) (z : St)  (Rz : St), k93 v1 z = some Rz → SA z Rz a k) (v1 : Int32) (z : St)  {Rz : St} (h : fn_X6_scanWord_118  k93 v1 z = some Rz) : SA z Rz a k := by
  unfold fn_X6_scanWord_118 at h
  exact hk_93 (v1 + 1) z  _ h
theorem ff_X6_scanWord_93 {a k : Nat} (hf : Nf_X6_scanWord  a k) : ∀ (n : Nat) (v1 : Int32) (z : St)  (Rz : St), fn_X6_scanWord_93   n v1 z = some Rz → SA z Rz a k := by
  intro n
  induction n with
  | zero => intro v1 z  Rz h; cases h
  | succ n ih =>
    intro v1 z  Rz h
    rw [fn_X6_scanWord_93] at h
    rcases Decidable.em (19 ≤ v1) with c1 | c1
    · rw [if_pos c1] at h
      cases h
      exact SA.rf
    · rw [if_neg c1] at h
      obtain ⟨g2, h⟩ := gd_s h
      rcases Decidable.em ((lg_cmp (z.2 33 (Int32.toNatClampNeg v1)) (z.2 32 8)) = 0) with c3 | c3
      · rw [if_pos c3] at h
        obtain ⟨z4, e_z4, h⟩ := nm_s h
        refine SA.tr (sa_I e_z4 hf.1) ?_
        exact ff_X6_scanWord_118  hf  ih v1 z4  h
      · rw [if_neg c3] at h
        exact ff_X6_scanWord_118  hf  ih v1 z  h
theorem ff_X6_scanWord_83 {a k : Nat} (hf : Nf_X6_scanWord  a k) (tv1 : Int32) (z : St)  {Rz : St} (h : fn_X6_scanWord_83   tv1 z = some Rz) : SA z Rz a k := by
  unfold fn_X6_scanWord_83 at h
  obtain ⟨z1, e_z1, h⟩ := nm_s h
  refine SA.tr (sa_I e_z1 hf.2.1) ?_
  obtain ⟨z2, e_z2, h⟩ := nm_s h
  refine SA.tr (sa_I e_z2 hf.1) ?_
  exact ff_X6_scanWord_93  hf   fu 0 z2  _ h
theorem ff_X6_scanWord_63 {a k : Nat} (hf : Nf_X6_scanWord  a k)  (z : St)  {Rz : St} (h : fn_X6_scanWord_63    z = some Rz) : SA z Rz a k := by
  unfold fn_X6_scanWord_63 at h
  rcases Decidable.em (((z.1 32 4) - (z.1 32 6)) ≤ 8) with c1 | c1
  · rw [if_pos c1] at h
    exact ff_X6_scanWord_83  hf   1 z  h
  · rw [if_neg c1] at h
    exact ff_X6_scanWord_83  hf   4 z  h
theorem ff_X6_scanWord_7 {a k : Nat} (hf : Nf_X6_scanWord  a k) : ∀ (n : Nat) (v1 : Int32) (z : St)  (Rz : St), fn_X6_scanWord_7   n v1 z = some Rz → SA z Rz a k := by
  intro n
  induction n with
  | zero => intro v1 z  Rz h; cases h
  | succ n ih =>
    intro v1 z  Rz h
    rw [fn_X6_scanWord_7] at h
    rcases Decidable.em (1600 ≤ v1) with c1 | c1
    · rw [if_pos c1] at h
      exact ff_X6_scanWord_63  hf    z  h
    · rw [if_neg c1] at h
      obtain ⟨r3, z4, h2, h⟩ := bd_s h
      refine SA.tr (ff_X6_signAt   trivial h2) ?_
      obtain ⟨r6, z7, h5, h⟩ := bd_s h
      refine SA.tr (ff_X6_isLetter   trivial h5) ?_
      rcases Decidable.em (r6 = 0) with c8 | c8
      · rw [if_pos c8] at h
        exact ff_X6_scanWord_63  hf    z7  h
      · rw [if_neg c8] at h
        obtain ⟨r10, z11, h9, h⟩ := bd_s h
        refine SA.tr (ff_X6_signAt   trivial h9) ?_
        obtain ⟨r13, z14, h12, h⟩ := bd_s h
        refine SA.tr (ff_X6_withLetter   trivial h12) ?_
        obtain ⟨z15, e_z15, h⟩ := nm_s h
        refine SA.tr (sa_J e_z15 hf.2.2.1) ?_
        obtain ⟨z16, e_z16, h⟩ := nm_s h
        refine SA.tr (sa_I e_z16 hf.2.2.2) ?_
        exact ih (v1 + 1) z16  _ h
theorem ff_X6_scanWord {a k : Nat}  {z : St} {Rz : St}  (hf : Nf_X6_scanWord  a k) (h : fn_X6_scanWord   z = some Rz) : SA z Rz a k := by
  unfold fn_X6_scanWord at h
  obtain ⟨z1, e_z1, h⟩ := nm_s h
  refine SA.tr (sa_J e_z1 hf.2.2.1) ?_
  exact ff_X6_scanWord_7  hf   fu 0 z1  _ h
theorem ff_X6_advance_137 {a k : Nat} (hf : Nf_X6_advance  a k) (tv1 : Int32) (z : St)  {Rz : St} (h : fn_X6_advance_137   tv1 z = some Rz) : SA z Rz a k := by
  unfold fn_X6_advance_137 at h
  obtain ⟨z1, e_z1, h⟩ := nm_s h
  refine SA.tr (sa_I e_z1 hf.1) ?_
  obtain ⟨z2, e_z2, h⟩ := nm_s h
  refine SA.tr (sa_I e_z2 hf.2.1) ?_
  cases h
  exact SA.rf
theorem ff_X6_advance_50 {a k : Nat} (hf : Nf_X6_advance  a k)  (z : St)  {Rz : St} (h : fn_X6_advance_50    z = some Rz) : SA z Rz a k := by
  unfold fn_X6_advance_50 at h
  obtain ⟨z1, e_z1, h⟩ := nm_s h
  refine SA.tr (sa_I e_z1 hf.2.2.1) ?_
  rcases Decidable.em ((z1.1 32 4) < (z1.1 32 3)) with c2 | c2
  · rw [if_pos c2] at h
    obtain ⟨r4, z5, h3, h⟩ := bd_s h
    refine SA.tr (ff_X6_signAt   trivial h3) ?_
    obtain ⟨z6, e_z6, h⟩ := nm_s h
    refine SA.tr (sa_I e_z6 hf.2.2.2.1) ?_
    obtain ⟨r8, z9, h7, h⟩ := bd_s h
    refine SA.tr (ff_X6_isLetter   trivial h7) ?_
    rcases Decidable.em (r8 = 0) with c10 | c10
    · rw [if_pos c10] at h
      obtain ⟨r12, z13, h11, h⟩ := bd_s h
      refine SA.tr (ff_X6_isDigit   trivial h11) ?_
      rcases Decidable.em (r12 = 0) with c14 | c14
      · rw [if_pos c14] at h
        obtain ⟨r16, z17, h15, h⟩ := bd_s h
        refine SA.tr (ff_X6_isMark   trivial h15) ?_
        rcases Decidable.em (r16 = 0) with c18 | c18
        · rw [if_pos c18] at h
          exact ff_X6_advance_137  hf   4 z17  h
        · rw [if_neg c18] at h
          exact ff_X6_advance_137  hf   3 z17  h
      · rw [if_neg c14] at h
        obtain ⟨z20, h19, h⟩ := bv_s h
        refine SA.tr (ff_X6_scanNumber   ⟨hf.1, hf.2.2.2.2.1, hf.2.1⟩ h19) ?_
        cases h
        exact SA.rf
    · rw [if_neg c10] at h
      obtain ⟨z22, h21, h⟩ := bv_s h
      refine SA.tr (ff_X6_scanWord   ⟨hf.2.2.2.2.2.1, hf.1, hf.2.2.2.2.2.2, hf.2.1⟩ h21) ?_
      cases h
      exact SA.rf
  · rw [if_neg c2] at h
    obtain ⟨z23, e_z23, h⟩ := nm_s h
    refine SA.tr (sa_I e_z23 hf.1) ?_
    cases h
    exact SA.rf
theorem ff_X6_advance_2 {a k : Nat} (hf : Nf_X6_advance  a k) : ∀ (n : Nat) (v1 : Int32) (z : St)  (Rz : St), fn_X6_advance_2   n v1 z = some Rz → SA z Rz a k := by
  intro n
  induction n with
  | zero => intro v1 z  Rz h; cases h
  | succ n ih =>
    intro v1 z  Rz h
    rw [fn_X6_advance_2] at h
    rcases Decidable.em (1600 ≤ v1) with c1 | c1
    · rw [if_pos c1] at h
      exact ff_X6_advance_50  hf    z  h
    · rw [if_neg c1] at h
      rcases Decidable.em ((z.1 32 3) ≤ (z.1 32 4)) with c2 | c2
      · rw [if_pos c2] at h
        exact ff_X6_advance_50  hf    z  h
      · rw [if_neg c2] at h
        obtain ⟨r4, z5, h3, h⟩ := bd_s h
        refine SA.tr (ff_X6_signAt   trivial h3) ?_
        obtain ⟨r7, z8, h6, h⟩ := bd_s h
        refine SA.tr (ff_X6_isBlank   trivial h6) ?_
        rcases Decidable.em (r7 = 0) with c9 | c9
        · rw [if_pos c9] at h
          exact ff_X6_advance_50  hf    z8  h
        · rw [if_neg c9] at h
          obtain ⟨z10, e_z10, h⟩ := nm_s h
          refine SA.tr (sa_I e_z10 hf.2.1) ?_
          exact ih (v1 + 1) z10  _ h
theorem ff_X6_advance {a k : Nat}  {z : St} {Rz : St}  (hf : Nf_X6_advance  a k) (h : fn_X6_advance   z = some Rz) : SA z Rz a k := by
  unfold fn_X6_advance at h
  exact ff_X6_advance_2  hf   fu 0 z  _ h
theorem ff_X6_isKeyword {a k : Nat} {v1 : Int32} {z : St} {Rz : Int32 × St}  (hf : Nf_X6_isKeyword  a k) (h : fn_X6_isKeyword  v1 z = some Rz) : SA z Rz.2 a k := by
  unfold fn_X6_isKeyword at h
  rcases Decidable.em ((z.1 32 11) = 0) with c1 | c1
  · rw [if_pos c1] at h
    rcases Decidable.em ((z.1 32 5) = 1) with c2 | c2
    · rw [if_pos c2] at h
      rcases Decidable.em ((z.1 32 9) = v1) with c3 | c3
      · rw [if_pos c3] at h
        cases h
        exact SA.rf
      · rw [if_neg c3] at h
        cases h
        exact SA.rf
    · rw [if_neg c2] at h
      cases h
      exact SA.rf
  · rw [if_neg c1] at h
    cases h
    exact SA.rf
theorem ff_X6_keepFault {a k : Nat} {v1 : Int32} {z : St} {Rz : St}  (hf : Nf_X6_keepFault  a k) (h : fn_X6_keepFault  v1 z = some Rz) : SA z Rz a k := by
  unfold fn_X6_keepFault at h
  rcases Decidable.em ((z.1 32 11) = 0) with c1 | c1
  · rw [if_pos c1] at h
    obtain ⟨z2, e_z2, h⟩ := nm_s h
    refine SA.tr (sa_I e_z2 hf.1) ?_
    obtain ⟨z3, e_z3, h⟩ := nm_s h
    refine SA.tr (sa_I e_z3 hf.2) ?_
    cases h
    exact SA.rf
  · rw [if_neg c1] at h
    cases h
    exact SA.rf
theorem ff_X6_refuse_14 {a k : Nat} (hf : Nf_X6_refuse  a k) (tv1 : Int32) (z : St)  {Rz : St} (h : fn_X6_refuse_14   tv1 z = some Rz) : SA z Rz a k := by
  unfold fn_X6_refuse_14 at h
  obtain ⟨z2, h1, h⟩ := bv_s h
  refine SA.tr (ff_X6_keepFault   ⟨hf.1, hf.2⟩ h1) ?_
  cases h
  exact SA.rf
theorem ff_X6_refuse {a k : Nat}  {z : St} {Rz : St}  (hf : Nf_X6_refuse  a k) (h : fn_X6_refuse   z = some Rz) : SA z Rz a k := by
  unfold fn_X6_refuse at h
  rcases Decidable.em ((z.1 32 5) = 4) with c1 | c1
  · rw [if_pos c1] at h
    exact ff_X6_refuse_14  hf   1 z  h
  · rw [if_neg c1] at h
    exact ff_X6_refuse_14  hf   2 z  h
theorem ff_X6_expectKeyword {a k : Nat} {v1 : Int32} {z : St} {Rz : St}  (hf : Nf_X6_expectKeyword  a k) (h : fn_X6_expectKeyword  v1 z = some Rz) : SA z Rz a k := by
  unfold fn_X6_expectKeyword at h
  obtain ⟨r2, z3, h1, h⟩ := bd_s h
  refine SA.tr (ff_X6_isKeyword   trivial h1) ?_
  rcases Decidable.em (r2 = 0) with c4 | c4
  · rw [if_pos c4] at h
    obtain ⟨z6, h5, h⟩ := bv_s h
    refine SA.tr (ff_X6_refuse   ⟨hf.1, hf.2.1⟩ h5) ?_
    cases h
    exact SA.rf
  · rw [if_neg c4] at h
    obtain ⟨z8, h7, h⟩ := bv_s h
    refine SA.tr (ff_X6_advance   ⟨hf.2.2.1, hf.2.2.2.1, hf.2.2.2.2.1, hf.2.2.2.2.2.1, hf.2.2.2.2.2.2.1, hf.2.2.2.2.2.2.2.1, hf.2.2.2.2.2.2.2.2⟩ h7) ?_
    cases h
    exact SA.rf
theorem ff_X6_isSign {a k : Nat} {v1 : Int32} {z : St} {Rz : Int32 × St}  (hf : Nf_X6_isSign  a k) (h : fn_X6_isSign  v1 z = some Rz) : SA z Rz.2 a k := by
  unfold fn_X6_isSign at h
  rcases Decidable.em ((z.1 32 11) = 0) with c1 | c1
  · rw [if_pos c1] at h
    rcases Decidable.em ((z.1 32 5) = 3) with c2 | c2
    · rw [if_pos c2] at h
      rcases Decidable.em ((z.1 32 10) = v1) with c3 | c3
      · rw [if_pos c3] at h
        cases h
        exact SA.rf
      · rw [if_neg c3] at h
        cases h
        exact SA.rf
    · rw [if_neg c2] at h
      cases h
      exact SA.rf
  · rw [if_neg c1] at h
    cases h
    exact SA.rf
theorem ff_X6_expectSign {a k : Nat} {v1 : Int32} {z : St} {Rz : St}  (hf : Nf_X6_expectSign  a k) (h : fn_X6_expectSign  v1 z = some Rz) : SA z Rz a k := by
  unfold fn_X6_expectSign at h
  obtain ⟨r2, z3, h1, h⟩ := bd_s h
  refine SA.tr (ff_X6_isSign   trivial h1) ?_
  rcases Decidable.em (r2 = 0) with c4 | c4
  · rw [if_pos c4] at h
    obtain ⟨z6, h5, h⟩ := bv_s h
    refine SA.tr (ff_X6_refuse   ⟨hf.1, hf.2.1⟩ h5) ?_
    cases h
    exact SA.rf
  · rw [if_neg c4] at h
    obtain ⟨z8, h7, h⟩ := bv_s h
    refine SA.tr (ff_X6_advance   ⟨hf.2.2.1, hf.2.2.2.1, hf.2.2.2.2.1, hf.2.2.2.2.2.1, hf.2.2.2.2.2.2.1, hf.2.2.2.2.2.2.2.1, hf.2.2.2.2.2.2.2.2⟩ h7) ?_
    cases h
    exact SA.rf
theorem ff_X6_newName_29 {a k : Nat} (p1 : Nat) (hk1 : kd p1 = 15) (hf : Nf_X6_newName p1 a k)  (z : St)  {Rz : St} (h : fn_X6_newName_29    z = some Rz) : SA z Rz a k := by
  unfold fn_X6_newName_29 at h
  obtain ⟨z2, h1, h⟩ := bv_s h
  refine SA.tr (ff_X6_refuse   ⟨hf.1, hf.2.1⟩ h1) ?_
  cases h
  exact SA.rf
theorem ff_X6_newName_36 {a k : Nat} (p1 : Nat) (hk1 : kd p1 = 15) (hf : Nf_X6_newName p1 a k) : ∀ (n : Nat) (v2 : Int32) (v3 : Int32) (z : St)  (Rz : St), fn_X6_newName_36   n p1 v2 v3 z = some Rz → SA z Rz a k := by
  intro n
  induction n with
  | zero => intro v2 v3 z  Rz h; cases h
  | succ n ih =>
    intro v2 v3 z  Rz h
    rw [fn_X6_newName_36] at h
    rcases Decidable.em (v2 ≤ v3) with c1 | c1
    · rw [if_pos c1] at h
      obtain ⟨g2, h⟩ := gd_s h
      obtain ⟨z3, e_z3, h⟩ := nm_s h
      refine SA.tr (sa_Ja e_z3 hf.2.2.1) ?_
      obtain ⟨z5, h4, h⟩ := bv_s h
      refine SA.tr (ff_X6_advance   ⟨hf.2.2.2.1, hf.2.2.2.2.1, hf.2.2.2.2.2.1, hf.2.2.2.2.2.2.1, hf.2.2.2.2.2.2.2.1, hf.2.2.2.2.2.2.2.2.1, hf.2.2.2.2.2.2.2.2.2⟩ h4) ?_
      cases h
      exact SA.rf
    · rw [if_neg c1] at h
      obtain ⟨g6, h⟩ := gd_s h
      rcases Decidable.em ((lg_cmp (z.2 p1 (Int32.toNatClampNeg v3)) (z.2 32 8)) = 0) with c7 | c7
      · rw [if_pos c7] at h
        obtain ⟨z9, h8, h⟩ := bv_s h
        refine SA.tr (ff_X6_keepFault   ⟨hf.1, hf.2.1⟩ h8) ?_
        cases h
        exact SA.rf
      · rw [if_neg c7] at h
        exact ih v2 (v3 + 1) z  _ h
theorem ff_X6_newName {a k : Nat} {p1 : Nat} {v2 : Int32} {z : St} {Rz : St} (hk1 : kd p1 = 15) (hf : Nf_X6_newName p1 a k) (h : fn_X6_newName  p1 v2 z = some Rz) : SA z Rz a k := by
  unfold fn_X6_newName at h
  rcases Decidable.em ((z.1 32 11) = 0) with c1 | c1
  · rw [if_pos c1] at h
    rcases Decidable.em ((z.1 32 5) = 1) with c2 | c2
    · rw [if_pos c2] at h
      rcases Decidable.em ((z.1 32 9) = (-1)) with c3 | c3
      · rw [if_pos c3] at h
        rcases Decidable.em (v2 < (Int32.ofNat (ln p1))) with c4 | c4
        · rw [if_pos c4] at h
          exact ff_X6_newName_36 p1 hk1 hf   fu v2 0 z  _ h
        · rw [if_neg c4] at h
          exact ff_X6_newName_29 p1 hk1 hf    z  h
      · rw [if_neg c3] at h
        exact ff_X6_newName_29 p1 hk1 hf    z  h
    · rw [if_neg c2] at h
      exact ff_X6_newName_29 p1 hk1 hf    z  h
  · rw [if_neg c1] at h
    exact ff_X6_newName_29 p1 hk1 hf    z  h
theorem ff_X6_numberWithin_15 {a k : Nat} (hf : Nf_X6_numberWithin  a k) (v1 : Int32) (z : St)  {Rz : Int32 × St} (h : fn_X6_numberWithin_15   v1 z = some Rz) : SA z Rz.2 a k := by
  unfold fn_X6_numberWithin_15 at h
  obtain ⟨z2, h1, h⟩ := bv_s h
  refine SA.tr (ff_X6_refuse   ⟨hf.1, hf.2.1⟩ h1) ?_
  cases h
  exact SA.rf
theorem ff_X6_numberWithin_37 {a k : Nat} (hf : Nf_X6_numberWithin  a k) (v1 : Int32) (z : St)  {Rz : Int32 × St} (h : fn_X6_numberWithin_37   v1 z = some Rz) : SA z Rz.2 a k := by
  unfold fn_X6_numberWithin_37 at h
  obtain ⟨z2, h1, h⟩ := bv_s h
  refine SA.tr (ff_X6_keepFault   ⟨hf.1, hf.2.1⟩ h1) ?_
  cases h
  exact SA.rf
theorem ff_X6_numberWithin {a k : Nat} {v1 : Int32} {v2 : Int32} {z : St} {Rz : Int32 × St}  (hf : Nf_X6_numberWithin  a k) (h : fn_X6_numberWithin  v1 v2 z = some Rz) : SA z Rz.2 a k := by
  unfold fn_X6_numberWithin at h
  rcases Decidable.em ((z.1 32 11) = 0) with c1 | c1
  · rw [if_pos c1] at h
    rcases Decidable.em ((z.1 32 5) = 2) with c2 | c2
    · rw [if_pos c2] at h
      rcases Decidable.em ((z.1 32 7) < v1) with c3 | c3
      · rw [if_pos c3] at h
        exact ff_X6_numberWithin_37  hf   v1 z  h
      · rw [if_neg c3] at h
        rcases Decidable.em ((z.1 32 7) ≤ v2) with c4 | c4
        · rw [if_pos c4] at h
          obtain ⟨v3_5, e_v3_5, h⟩ := nm_s h
          obtain ⟨z7, h6, h⟩ := bv_s h
          refine SA.tr (ff_X6_advance   ⟨hf.2.2.1, hf.2.2.2.1, hf.2.2.2.2.1, hf.2.2.2.2.2.1, hf.2.2.2.2.2.2.1, hf.2.2.2.2.2.2.2.1, hf.2.2.2.2.2.2.2.2⟩ h6) ?_
          cases h
          exact SA.rf
        · rw [if_neg c4] at h
          exact ff_X6_numberWithin_37  hf   v1 z  h
    · rw [if_neg c2] at h
      exact ff_X6_numberWithin_15  hf   v1 z  h
  · rw [if_neg c1] at h
    exact ff_X6_numberWithin_15  hf   v1 z  h
theorem ff_X6_tierLine {a k : Nat}  {z : St} {Rz : St}  (hf : Nf_X6_tierLine  a k) (h : fn_X6_tierLine   z = some Rz) : SA z Rz a k := by
  unfold fn_X6_tierLine at h
  rcases Decidable.em ((z.1 17 0) < 3) with c1 | c1
  · rw [if_pos c1] at h
    obtain ⟨z3, h2, h⟩ := bv_s h
    refine SA.tr (ff_X6_advance   ⟨hf.1, hf.2.1, hf.2.2.1, hf.2.2.2.1, hf.2.2.2.2.1, hf.2.2.2.2.2.1, hf.2.2.2.2.2.2.1⟩ h2) ?_
    obtain ⟨z5, h4, h⟩ := bv_s h
    refine SA.tr (ff_X6_newName  k_18 ⟨hf.2.2.2.2.2.2.2.1, hf.2.2.2.2.2.2.2.2.1, hf.2.2.2.2.2.2.2.2.2.1, hf.1, hf.2.1, hf.2.2.1, hf.2.2.2.1, hf.2.2.2.2.1, hf.2.2.2.2.2.1, hf.2.2.2.2.2.2.1⟩ h4) ?_
    obtain ⟨r7, z8, h6, h⟩ := bd_s h
    refine SA.tr (ff_X6_numberWithin   ⟨hf.2.2.2.2.2.2.2.1, hf.2.2.2.2.2.2.2.2.1, hf.1, hf.2.1, hf.2.2.1, hf.2.2.2.1, hf.2.2.2.2.1, hf.2.2.2.2.2.1, hf.2.2.2.2.2.2.1⟩ h6) ?_
    obtain ⟨z10, h9, h⟩ := bv_s h
    refine SA.tr (ff_X6_expectKeyword   ⟨hf.2.2.2.2.2.2.2.1, hf.2.2.2.2.2.2.2.2.1, hf.1, hf.2.1, hf.2.2.1, hf.2.2.2.1, hf.2.2.2.2.1, hf.2.2.2.2.2.1, hf.2.2.2.2.2.2.1⟩ h9) ?_
    obtain ⟨r12, z13, h11, h⟩ := bd_s h
    refine SA.tr (ff_X6_numberWithin   ⟨hf.2.2.2.2.2.2.2.1, hf.2.2.2.2.2.2.2.2.1, hf.1, hf.2.1, hf.2.2.1, hf.2.2.2.1, hf.2.2.2.2.1, hf.2.2.2.2.2.1, hf.2.2.2.2.2.2.1⟩ h11) ?_
    obtain ⟨z15, h14, h⟩ := bv_s h
    refine SA.tr (ff_X6_expectKeyword   ⟨hf.2.2.2.2.2.2.2.1, hf.2.2.2.2.2.2.2.2.1, hf.1, hf.2.1, hf.2.2.1, hf.2.2.2.1, hf.2.2.2.2.1, hf.2.2.2.2.2.1, hf.2.2.2.2.2.2.1⟩ h14) ?_
    obtain ⟨r17, z18, h16, h⟩ := bd_s h
    refine SA.tr (ff_X6_numberWithin   ⟨hf.2.2.2.2.2.2.2.1, hf.2.2.2.2.2.2.2.2.1, hf.1, hf.2.1, hf.2.2.1, hf.2.2.2.1, hf.2.2.2.2.1, hf.2.2.2.2.2.1, hf.2.2.2.2.2.2.1⟩ h16) ?_
    obtain ⟨z20, h19, h⟩ := bv_s h
    refine SA.tr (ff_X6_expectSign   ⟨hf.2.2.2.2.2.2.2.1, hf.2.2.2.2.2.2.2.2.1, hf.1, hf.2.1, hf.2.2.1, hf.2.2.2.1, hf.2.2.2.2.1, hf.2.2.2.2.2.1, hf.2.2.2.2.2.2.1⟩ h19) ?_
    obtain ⟨z22, h21, h⟩ := bv_s h
    refine SA.tr (ff_X7_addTier  k_17 ⟨hf.2.2.2.2.2.2.2.2.2.2.1, hf.2.2.2.2.2.2.2.2.2.2.2.1, hf.2.2.2.2.2.2.2.2.2.2.2.2.1, hf.2.2.2.2.2.2.2.2.2.2.2.2.2⟩ h21) ?_
    cases h
    exact SA.rf
  · rw [if_neg c1] at h
    obtain ⟨z24, h23, h⟩ := bv_s h
    refine SA.tr (ff_X6_refuse   ⟨hf.2.2.2.2.2.2.2.1, hf.2.2.2.2.2.2.2.2.1⟩ h23) ?_
    cases h
    exact SA.rf
theorem ff_X6_guestLine_99 {a k : Nat} (hf : Nf_X6_guestLine  a k) (v1 : Int32) (v2 : Int32) (v3 : Int32) (z : St)  {Rz : St} (h : fn_X6_guestLine_99   v1 v2 v3 z = some Rz) : SA z Rz a k := by
  unfold fn_X6_guestLine_99 at h
  obtain ⟨z2, h1, h⟩ := bv_s h
  refine SA.tr (ff_X6_expectSign   ⟨hf.1, hf.2.1, hf.2.2.1, hf.2.2.2.1, hf.2.2.2.2.1, hf.2.2.2.2.2.1, hf.2.2.2.2.2.2.1, hf.2.2.2.2.2.2.2.1, hf.2.2.2.2.2.2.2.2.1⟩ h1) ?_
  obtain ⟨z4, h3, h⟩ := bv_s h
  refine SA.tr (ff_X7_addGuest  k_17 ⟨hf.2.2.2.2.2.2.2.2.2.1, hf.2.2.2.2.2.2.2.2.2.2.1, hf.2.2.2.2.2.2.2.2.2.2.2.1, hf.2.2.2.2.2.2.2.2.2.2.2.2.1⟩ h3) ?_
  cases h
  exact SA.rf
theorem ff_X6_guestLine_75 {a k : Nat} (hf : Nf_X6_guestLine  a k) (v1 : Int32) (v2 : Int32) (z : St)  {Rz : St} (h : fn_X6_guestLine_75   v1 v2 z = some Rz) : SA z Rz a k := by
  unfold fn_X6_guestLine_75 at h
  obtain ⟨r2, z3, h1, h⟩ := bd_s h
  refine SA.tr (ff_X6_isKeyword   trivial h1) ?_
  rcases Decidable.em (r2 = 0) with c4 | c4
  · rw [if_pos c4] at h
    exact ff_X6_guestLine_99  hf   v1 v2 100 z3  h
  · rw [if_neg c4] at h
    obtain ⟨z6, h5, h⟩ := bv_s h
    refine SA.tr (ff_X6_advance   ⟨hf.2.2.1, hf.2.2.2.1, hf.2.2.2.2.1, hf.2.2.2.2.2.1, hf.2.2.2.2.2.2.1, hf.2.2.2.2.2.2.2.1, hf.2.2.2.2.2.2.2.2.1⟩ h5) ?_
    obtain ⟨r8, z9, h7, h⟩ := bd_s h
    refine SA.tr (ff_X6_numberWithin   ⟨hf.1, hf.2.1, hf.2.2.1, hf.2.2.2.1, hf.2.2.2.2.1, hf.2.2.2.2.2.1, hf.2.2.2.2.2.2.1, hf.2.2.2.2.2.2.2.1, hf.2.2.2.2.2.2.2.2.1⟩ h7) ?_
    exact ff_X6_guestLine_99  hf   v1 v2 r8 z9  h
theorem ff_X6_guestLine {a k : Nat}  {z : St} {Rz : St}  (hf : Nf_X6_guestLine  a k) (h : fn_X6_guestLine   z = some Rz) : SA z Rz a k := by
  unfold fn_X6_guestLine at h
  rcases Decidable.em ((z.1 17 5) < 6) with c1 | c1
  · rw [if_pos c1] at h
    obtain ⟨z3, h2, h⟩ := bv_s h
    refine SA.tr (ff_X6_advance   ⟨hf.2.2.1, hf.2.2.2.1, hf.2.2.2.2.1, hf.2.2.2.2.2.1, hf.2.2.2.2.2.2.1, hf.2.2.2.2.2.2.2.1, hf.2.2.2.2.2.2.2.2.1⟩ h2) ?_
    obtain ⟨z5, h4, h⟩ := bv_s h
    refine SA.tr (ff_X6_newName  k_22 ⟨hf.1, hf.2.1, hf.2.2.2.2.2.2.2.2.2.2.2.2.2, hf.2.2.1, hf.2.2.2.1, hf.2.2.2.2.1, hf.2.2.2.2.2.1, hf.2.2.2.2.2.2.1, hf.2.2.2.2.2.2.2.1, hf.2.2.2.2.2.2.2.2.1⟩ h4) ?_
    obtain ⟨z7, h6, h⟩ := bv_s h
    refine SA.tr (ff_X6_expectKeyword   ⟨hf.1, hf.2.1, hf.2.2.1, hf.2.2.2.1, hf.2.2.2.2.1, hf.2.2.2.2.2.1, hf.2.2.2.2.2.2.1, hf.2.2.2.2.2.2.2.1, hf.2.2.2.2.2.2.2.2.1⟩ h6) ?_
    obtain ⟨r9, z10, h8, h⟩ := bd_s h
    refine SA.tr (ff_X6_numberWithin   ⟨hf.1, hf.2.1, hf.2.2.1, hf.2.2.2.1, hf.2.2.2.2.1, hf.2.2.2.2.2.1, hf.2.2.2.2.2.2.1, hf.2.2.2.2.2.2.2.1, hf.2.2.2.2.2.2.2.2.1⟩ h8) ?_
    obtain ⟨r12, z13, h11, h⟩ := bd_s h
    refine SA.tr (ff_X6_isKeyword   trivial h11) ?_
    rcases Decidable.em (r12 = 0) with c14 | c14
    · rw [if_pos c14] at h
      exact ff_X6_guestLine_75  hf   r9 0 z13  h
    · rw [if_neg c14] at h
      obtain ⟨z16, h15, h⟩ := bv_s h
      refine SA.tr (ff_X6_advance   ⟨hf.2.2.1, hf.2.2.2.1, hf.2.2.2.2.1, hf.2.2.2.2.2.1, hf.2.2.2.2.2.2.1, hf.2.2.2.2.2.2.2.1, hf.2.2.2.2.2.2.2.2.1⟩ h15) ?_
      obtain ⟨r18, z19, h17, h⟩ := bd_s h
      refine SA.tr (ff_X6_numberWithin   ⟨hf.1, hf.2.1, hf.2.2.1, hf.2.2.2.1, hf.2.2.2.2.1, hf.2.2.2.2.2.1, hf.2.2.2.2.2.2.1, hf.2.2.2.2.2.2.2.1, hf.2.2.2.2.2.2.2.2.1⟩ h17) ?_
      exact ff_X6_guestLine_75  hf   r9 r18 z19  h
  · rw [if_neg c1] at h
    obtain ⟨z21, h20, h⟩ := bv_s h
    refine SA.tr (ff_X6_refuse   ⟨hf.1, hf.2.1⟩ h20) ?_
    cases h
    exact SA.rf
theorem ff_X6_paceLine {a k : Nat}  {z : St} {Rz : St}  (hf : Nf_X6_paceLine  a k) (h : fn_X6_paceLine   z = some Rz) : SA z Rz a k := by
  unfold fn_X6_paceLine at h
  rcases Decidable.em ((z.1 17 13) = 0) with c1 | c1
  · rw [if_pos c1] at h
    obtain ⟨z3, h2, h⟩ := bv_s h
    refine SA.tr (ff_X6_advance   ⟨hf.1, hf.2.1, hf.2.2.1, hf.2.2.2.1, hf.2.2.2.2.1, hf.2.2.2.2.2.1, hf.2.2.2.2.2.2.1⟩ h2) ?_
    obtain ⟨z4, e_z4, h⟩ := nm_s h
    refine SA.tr (sa_I e_z4 hf.2.2.2.2.2.2.2.1) ?_
    obtain ⟨r6, z7, h5, h⟩ := bd_s h
    refine SA.tr (ff_X6_numberWithin   ⟨hf.2.2.2.2.2.2.2.2.1, hf.2.2.2.2.2.2.2.2.2.1, hf.1, hf.2.1, hf.2.2.1, hf.2.2.2.1, hf.2.2.2.2.1, hf.2.2.2.2.2.1, hf.2.2.2.2.2.2.1⟩ h5) ?_
    obtain ⟨z8, e_z8, h⟩ := nm_s h
    refine SA.tr (sa_I e_z8 hf.2.2.2.2.2.2.2.2.2.2) ?_
    obtain ⟨z10, h9, h⟩ := bv_s h
    refine SA.tr (ff_X6_expectSign   ⟨hf.2.2.2.2.2.2.2.2.1, hf.2.2.2.2.2.2.2.2.2.1, hf.1, hf.2.1, hf.2.2.1, hf.2.2.2.1, hf.2.2.2.2.1, hf.2.2.2.2.2.1, hf.2.2.2.2.2.2.1⟩ h9) ?_
    cases h
    exact SA.rf
  · rw [if_neg c1] at h
    obtain ⟨z12, h11, h⟩ := bv_s h
    refine SA.tr (ff_X6_refuse   ⟨hf.2.2.2.2.2.2.2.2.1, hf.2.2.2.2.2.2.2.2.2.1⟩ h11) ?_
    cases h
    exact SA.rf
theorem ff_X6_drawLine {a k : Nat}  {z : St} {Rz : St}  (hf : Nf_X6_drawLine  a k) (h : fn_X6_drawLine   z = some Rz) : SA z Rz a k := by
  unfold fn_X6_drawLine at h
  rcases Decidable.em ((z.1 17 15) = 0) with c1 | c1
  · rw [if_pos c1] at h
    obtain ⟨z3, h2, h⟩ := bv_s h
    refine SA.tr (ff_X6_advance   ⟨hf.1, hf.2.1, hf.2.2.1, hf.2.2.2.1, hf.2.2.2.2.1, hf.2.2.2.2.2.1, hf.2.2.2.2.2.2.1⟩ h2) ?_
    obtain ⟨z4, e_z4, h⟩ := nm_s h
    refine SA.tr (sa_I e_z4 hf.2.2.2.2.2.2.2.1) ?_
    obtain ⟨r6, z7, h5, h⟩ := bd_s h
    refine SA.tr (ff_X6_numberWithin   ⟨hf.2.2.2.2.2.2.2.2.1, hf.2.2.2.2.2.2.2.2.2.1, hf.1, hf.2.1, hf.2.2.1, hf.2.2.2.1, hf.2.2.2.2.1, hf.2.2.2.2.2.1, hf.2.2.2.2.2.2.1⟩ h5) ?_
    obtain ⟨z8, e_z8, h⟩ := nm_s h
    refine SA.tr (sa_I e_z8 hf.2.2.2.2.2.2.2.2.2.2) ?_
    obtain ⟨z10, h9, h⟩ := bv_s h
    refine SA.tr (ff_X6_expectSign   ⟨hf.2.2.2.2.2.2.2.2.1, hf.2.2.2.2.2.2.2.2.2.1, hf.1, hf.2.1, hf.2.2.1, hf.2.2.2.1, hf.2.2.2.2.1, hf.2.2.2.2.2.1, hf.2.2.2.2.2.2.1⟩ h9) ?_
    cases h
    exact SA.rf
  · rw [if_neg c1] at h
    obtain ⟨z12, h11, h⟩ := bv_s h
    refine SA.tr (ff_X6_refuse   ⟨hf.2.2.2.2.2.2.2.2.1, hf.2.2.2.2.2.2.2.2.2.1⟩ h11) ?_
    cases h
    exact SA.rf
theorem ff_X6_plainUnit_26 {a k : Nat} (hf : Nf_X6_plainUnit  a k) (tv0 : Int32) (z : St)  {Rz : Int32 × St} (h : fn_X6_plainUnit_26   tv0 z = some Rz) : SA z Rz.2 a k := by
  unfold fn_X6_plainUnit_26 at h
  by_cases c1 : tv0 = 5
  · rw [if_pos c1] at h
    cases h
    exact SA.rf
  rw [if_neg c1] at h
  by_cases c2 : tv0 = 6
  · rw [if_pos c2] at h
    cases h
    exact SA.rf
  rw [if_neg c2] at h
  by_cases c3 : tv0 = 7
  · rw [if_pos c3] at h
    cases h
    exact SA.rf
  rw [if_neg c3] at h
  by_cases c4 : tv0 = 8
  · rw [if_pos c4] at h
    cases h
    exact SA.rf
  rw [if_neg c4] at h
  by_cases c5 : tv0 = 9
  · rw [if_pos c5] at h
    cases h
    exact SA.rf
  rw [if_neg c5] at h
  by_cases c6 : tv0 = 10
  · rw [if_pos c6] at h
    cases h
    exact SA.rf
  rw [if_neg c6] at h
  by_cases c7 : tv0 = 11
  · rw [if_pos c7] at h
    cases h
    exact SA.rf
  rw [if_neg c7] at h
  by_cases c8 : tv0 = 12
  · rw [if_pos c8] at h
    cases h
    exact SA.rf
  rw [if_neg c8] at h
  by_cases c9 : tv0 = 13
  · rw [if_pos c9] at h
    cases h
    exact SA.rf
  rw [if_neg c9] at h
  by_cases c10 : tv0 = 14
  · rw [if_pos c10] at h
    cases h
    exact SA.rf
  rw [if_neg c10] at h
  by_cases c11 : tv0 = 15
  · rw [if_pos c11] at h
    cases h
    exact SA.rf
  rw [if_neg c11] at h
  by_cases c12 : tv0 = 16
  · rw [if_pos c12] at h
    cases h
    exact SA.rf
  rw [if_neg c12] at h
  by_cases c13 : tv0 = 17
  · rw [if_pos c13] at h
    cases h
    exact SA.rf
  rw [if_neg c13] at h
  by_cases c14 : tv0 = 18
  · rw [if_pos c14] at h
    cases h
    exact SA.rf
  rw [if_neg c14] at h
  cases h
  exact SA.rf
theorem ff_X6_plainUnit {a k : Nat}  {z : St} {Rz : Int32 × St}  (hf : Nf_X6_plainUnit  a k) (h : fn_X6_plainUnit   z = some Rz) : SA z Rz.2 a k := by
  unfold fn_X6_plainUnit at h
  rcases Decidable.em ((z.1 32 5) = 2) with c1 | c1
  · rw [if_pos c1] at h
    cases h
    exact SA.rf
  · rw [if_neg c1] at h
    rcases Decidable.em ((z.1 32 5) = 1) with c2 | c2
    · rw [if_pos c2] at h
      exact ff_X6_plainUnit_26  hf   (z.1 32 9) z  h
    · rw [if_neg c2] at h
      exact ff_X6_plainUnit_26  hf   (-1) z  h
theorem ff_X6_unit_63 {a k : Nat} (p1 : Nat) (hk1 : kd p1 = 2) (hf : Nf_X6_unit p1 a k) {kE : Nat → Int32 → St → Option St} (hfkE : ∀ {p1 : Nat} {v2 : Int32} {z Rz : St}, kd p1 = 2 → Nf_X6_either p1 a k → kE p1 v2 z = some Rz → SA z Rz a k)  (z : St)  {Rz : St} (h : fn_X6_unit_63 kE   z = some Rz) : SA z Rz a k := by
  unfold fn_X6_unit_63 at h
  obtain ⟨z2, h1, h⟩ := bv_s h
  refine SA.tr (ff_X6_refuse   ⟨hf.1, hf.2.1⟩ h1) ?_
  cases h
  exact SA.rf
theorem ff_X6_unit_91 {a k : Nat} (p1 : Nat) (hk1 : kd p1 = 2) (hf : Nf_X6_unit p1 a k) {kE : Nat → Int32 → St → Option St} (hfkE : ∀ {p1 : Nat} {v2 : Int32} {z Rz : St}, kd p1 = 2 → Nf_X6_either p1 a k → kE p1 v2 z = some Rz → SA z Rz a k) (v2 : Int32) (v3 : Int32) (z : St)  {Rz : St} (h : fn_X6_unit_91 kE  p1 v2 v3 z = some Rz) : SA z Rz a k := by
  unfold fn_X6_unit_91 at h
  obtain ⟨z2, h1, h⟩ := bv_s h
  refine SA.tr (ff_X6_advance   ⟨hf.2.2.1, hf.2.2.2.1, hf.2.2.2.2.1, hf.2.2.2.2.2.1, hf.2.2.2.2.2.2.1, hf.2.2.2.2.2.2.2.1, hf.2.2.2.2.2.2.2.2.1⟩ h1) ?_
  rcases Decidable.em (v3 = 0) with c3 | c3
  · rw [if_pos c3] at h
    cases h
    exact SA.rf
  · rw [if_neg c3] at h
    obtain ⟨z5, h4, h⟩ := bv_s h
    refine SA.tr (hfkE hk1 ⟨hf.2.2.1, hf.2.2.2.1, hf.2.2.2.2.1, hf.2.2.2.2.2.1, hf.2.2.2.2.2.2.1, hf.2.2.2.2.2.2.2.1, hf.2.2.2.2.2.2.2.2.1, hf.2.2.2.2.2.2.2.2.2.1, hf.2.2.2.2.2.2.2.2.2.2.1, hf.1, hf.2.1, hf.2.2.2.2.2.2.2.2.2.2.2⟩ h4) ?_
    obtain ⟨z7, h6, h⟩ := bv_s h
    refine SA.tr (ff_X6_expectSign   ⟨hf.1, hf.2.1, hf.2.2.1, hf.2.2.2.1, hf.2.2.2.2.1, hf.2.2.2.2.2.1, hf.2.2.2.2.2.2.1, hf.2.2.2.2.2.2.2.1, hf.2.2.2.2.2.2.2.2.1⟩ h6) ?_
    cases h
    exact SA.rf
theorem ff_X6_unit_88 {a k : Nat} (p1 : Nat) (hk1 : kd p1 = 2) (hf : Nf_X6_unit p1 a k) {kE : Nat → Int32 → St → Option St} (hfkE : ∀ {p1 : Nat} {v2 : Int32} {z Rz : St}, kd p1 = 2 → Nf_X6_either p1 a k → kE p1 v2 z = some Rz → SA z Rz a k) (v2 : Int32) (v3 : Int32) (tv1 : Int32) (tv2 : Int32) (z : St)  {Rz : St} (h : fn_X6_unit_88 kE  p1 v2 v3 tv1 tv2 z = some Rz) : SA z Rz a k := by
  unfold fn_X6_unit_88 at h
  obtain ⟨z2, h1, h⟩ := bv_s h
  refine SA.tr (ff_X2_add  hk1 ⟨hf.2.2.2.2.2.2.2.2.2.1, hf.2.2.2.2.2.2.2.2.2.2.1⟩ h1) ?_
  exact ff_X6_unit_91 p1 hk1 hf hfkE  v2 v3 z2  h
theorem ff_X6_unit_42 {a k : Nat} (p1 : Nat) (hk1 : kd p1 = 2) (hf : Nf_X6_unit p1 a k) {kE : Nat → Int32 → St → Option St} (hfkE : ∀ {p1 : Nat} {v2 : Int32} {z Rz : St}, kd p1 = 2 → Nf_X6_either p1 a k → kE p1 v2 z = some Rz → SA z Rz a k) (v2 : Int32) (v3 : Int32) (v4 : Int32) (tv0 : Int32) (z : St)  {Rz : St} (h : fn_X6_unit_42 kE  p1 v2 v3 v4 tv0 z = some Rz) : SA z Rz a k := by
  unfold fn_X6_unit_42 at h
  rcases Decidable.em ((z.1 32 11) = 0) with c1 | c1
  · rw [if_pos c1] at h
    rcases Decidable.em (tv0 = 0) with c2 | c2
    · rw [if_pos c2] at h
      exact ff_X6_unit_63 p1 hk1 hf hfkE   z  h
    · rw [if_neg c2] at h
      obtain ⟨r4, z5, h3, h⟩ := bd_s h
      refine SA.tr (ff_X2_countUnit  hk1 hf.2.2.2.2.2.2.2.2.2.2.2 h3) ?_
      rcases Decidable.em (r4 = 0) with c6 | c6
      · rw [if_pos c6] at h
        exact ff_X6_unit_63 p1 hk1 hf hfkE   z5  h
      · rw [if_neg c6] at h
        rcases Decidable.em (v3 = 0) with c7 | c7
        · rw [if_pos c7] at h
          rcases Decidable.em (v4 = 0) with c8 | c8
          · rw [if_pos c8] at h
            exact ff_X6_unit_88 p1 hk1 hf hfkE  v2 v3 v4 (z5.1 32 7) z5  h
          · rw [if_neg c8] at h
            exact ff_X6_unit_88 p1 hk1 hf hfkE  v2 v3 v4 0 z5  h
        · rw [if_neg c7] at h
          exact ff_X6_unit_91 p1 hk1 hf hfkE  v2 v3 z5  h
  · rw [if_neg c1] at h
    exact ff_X6_unit_63 p1 hk1 hf hfkE   z  h
theorem ff_X6_unit {a k : Nat} {kE : Nat → Int32 → St → Option St} (hfkE : ∀ {p1 : Nat} {v2 : Int32} {z Rz : St}, kd p1 = 2 → Nf_X6_either p1 a k → kE p1 v2 z = some Rz → SA z Rz a k) {p1 : Nat} {v2 : Int32} {z : St} {Rz : St} (hk1 : kd p1 = 2) (hf : Nf_X6_unit p1 a k) (h : fn_X6_unit kE p1 v2 z = some Rz) : SA z Rz a k := by
  unfold fn_X6_unit at h
  obtain ⟨r2, z3, h1, h⟩ := bd_s h
  refine SA.tr (ff_X6_isSign   trivial h1) ?_
  obtain ⟨r5, z6, h4, h⟩ := bd_s h
  refine SA.tr (ff_X6_plainUnit   trivial h4) ?_
  rcases Decidable.em (r2 = 0) with c7 | c7
  · rw [if_pos c7] at h
    rcases Decidable.em (r5 = (-1)) with c8 | c8
    · rw [if_pos c8] at h
      exact ff_X6_unit_42 p1 hk1 hf hfkE  v2 r2 r5 0 z6  h
    · rw [if_neg c8] at h
      exact ff_X6_unit_42 p1 hk1 hf hfkE  v2 r2 r5 1 z6  h
  · rw [if_neg c7] at h
    rcases Decidable.em (6 < v2) with c9 | c9
    · rw [if_pos c9] at h
      exact ff_X6_unit_42 p1 hk1 hf hfkE  v2 r2 r5 0 z6  h
    · rw [if_neg c9] at h
      exact ff_X6_unit_42 p1 hk1 hf hfkE  v2 r2 r5 1 z6  h
theorem ff_X6_term_72 {a k : Nat} (p1 : Nat) (hk1 : kd p1 = 2) (hf : Nf_X6_term p1 a k) {kE : Nat → Int32 → St → Option St} (hfkE : ∀ {p1 : Nat} {v2 : Int32} {z Rz : St}, kd p1 = 2 → Nf_X6_either p1 a k → kE p1 v2 z = some Rz → SA z Rz a k) {k8 : Nat → Int32 → Int32 → St → Option (St)} (hk_8 : ∀ (v2 : Int32) (v3 : Int32) (z : St)  (Rz : St), k8 p1 v2 v3 z = some Rz → SA z Rz a k) (v2 : Int32) (v3 : Int32) (tv0 : Int32) (z : St)  {Rz : St} (h : fn_X6_term_72 kE k8 p1 v2 v3 tv0 z = some Rz) : SA z Rz a k := by
  unfold fn_X6_term_72 at h
  obtain ⟨z2, h1, h⟩ := bv_s h
  refine SA.tr (ff_X6_advance   ⟨hf.1, hf.2.1, hf.2.2.1, hf.2.2.2.1, hf.2.2.2.2.1, hf.2.2.2.2.2.1, hf.2.2.2.2.2.2.1⟩ h1) ?_
  obtain ⟨z4, h3, h⟩ := bv_s h
  refine SA.tr (ff_X6_unit hfkE hk1 ⟨hf.2.2.2.2.2.2.2.1, hf.2.2.2.2.2.2.2.2.1, hf.1, hf.2.1, hf.2.2.1, hf.2.2.2.1, hf.2.2.2.2.1, hf.2.2.2.2.2.1, hf.2.2.2.2.2.2.1, hf.2.2.2.2.2.2.2.2.2.1, hf.2.2.2.2.2.2.2.2.2.2.1, hf.2.2.2.2.2.2.2.2.2.2.2⟩ h3) ?_
  obtain ⟨z6, h5, h⟩ := bv_s h
  refine SA.tr (ff_X2_add  hk1 ⟨hf.2.2.2.2.2.2.2.2.2.1, hf.2.2.2.2.2.2.2.2.2.2.1⟩ h5) ?_
  exact hk_8 v2 (v3 + 1) z6  _ h
theorem ff_X6_term_42 {a k : Nat} (p1 : Nat) (hk1 : kd p1 = 2) (hf : Nf_X6_term p1 a k) {kE : Nat → Int32 → St → Option St} (hfkE : ∀ {p1 : Nat} {v2 : Int32} {z Rz : St}, kd p1 = 2 → Nf_X6_either p1 a k → kE p1 v2 z = some Rz → SA z Rz a k) {k8 : Nat → Int32 → Int32 → St → Option (St)} (hk_8 : ∀ (v2 : Int32) (v3 : Int32) (z : St)  (Rz : St), k8 p1 v2 v3 z = some Rz → SA z Rz a k) (v2 : Int32) (v3 : Int32) (z : St)  {Rz : St} (h : fn_X6_term_42 kE k8 p1 v2 v3 z = some Rz) : SA z Rz a k := by
  unfold fn_X6_term_42 at h
  obtain ⟨r2, z3, h1, h⟩ := bd_s h
  refine SA.tr (ff_X6_isSign   trivial h1) ?_
  rcases Decidable.em (r2 = 0) with c4 | c4
  · rw [if_pos c4] at h
    obtain ⟨r6, z7, h5, h⟩ := bd_s h
    refine SA.tr (ff_X6_isSign   trivial h5) ?_
    rcases Decidable.em (r6 = 0) with c8 | c8
    · rw [if_pos c8] at h
      exact ff_X6_term_72 p1 hk1 hf hfkE hk_8 v2 v3 17 z7  h
    · rw [if_neg c8] at h
      exact ff_X6_term_72 p1 hk1 hf hfkE hk_8 v2 v3 16 z7  h
  · rw [if_neg c4] at h
    exact ff_X6_term_72 p1 hk1 hf hfkE hk_8 v2 v3 15 z3  h
theorem ff_X6_term_8 {a k : Nat} (p1 : Nat) (hk1 : kd p1 = 2) (hf : Nf_X6_term p1 a k) {kE : Nat → Int32 → St → Option St} (hfkE : ∀ {p1 : Nat} {v2 : Int32} {z Rz : St}, kd p1 = 2 → Nf_X6_either p1 a k → kE p1 v2 z = some Rz → SA z Rz a k) : ∀ (n : Nat) (v2 : Int32) (v3 : Int32) (z : St)  (Rz : St), fn_X6_term_8 kE  n p1 v2 v3 z = some Rz → SA z Rz a k := by
  intro n
  induction n with
  | zero => intro v2 v3 z  Rz h; cases h
  | succ n ih =>
    intro v2 v3 z  Rz h
    rw [fn_X6_term_8] at h
    rcases Decidable.em (1600 ≤ v3) with c1 | c1
    · rw [if_pos c1] at h
      cases h
      exact SA.rf
    · rw [if_neg c1] at h
      obtain ⟨r3, z4, h2, h⟩ := bd_s h
      refine SA.tr (ff_X6_isSign   trivial h2) ?_
      rcases Decidable.em (r3 = 0) with c5 | c5
      · rw [if_pos c5] at h
        obtain ⟨r7, z8, h6, h⟩ := bd_s h
        refine SA.tr (ff_X6_isSign   trivial h6) ?_
        rcases Decidable.em (r7 = 0) with c9 | c9
        · rw [if_pos c9] at h
          obtain ⟨r11, z12, h10, h⟩ := bd_s h
          refine SA.tr (ff_X6_isSign   trivial h10) ?_
          rcases Decidable.em (r11 = 0) with c13 | c13
          · rw [if_pos c13] at h
            cases h
            exact SA.rf
          · rw [if_neg c13] at h
            exact ff_X6_term_42 p1 hk1 hf hfkE ih v2 v3 z12  h
        · rw [if_neg c9] at h
          exact ff_X6_term_42 p1 hk1 hf hfkE ih v2 v3 z8  h
      · rw [if_neg c5] at h
        exact ff_X6_term_42 p1 hk1 hf hfkE ih v2 v3 z4  h
theorem ff_X6_term {a k : Nat} {kE : Nat → Int32 → St → Option St} (hfkE : ∀ {p1 : Nat} {v2 : Int32} {z Rz : St}, kd p1 = 2 → Nf_X6_either p1 a k → kE p1 v2 z = some Rz → SA z Rz a k) {p1 : Nat} {v2 : Int32} {z : St} {Rz : St} (hk1 : kd p1 = 2) (hf : Nf_X6_term p1 a k) (h : fn_X6_term kE p1 v2 z = some Rz) : SA z Rz a k := by
  unfold fn_X6_term at h
  obtain ⟨z2, h1, h⟩ := bv_s h
  refine SA.tr (ff_X6_unit hfkE hk1 ⟨hf.2.2.2.2.2.2.2.1, hf.2.2.2.2.2.2.2.2.1, hf.1, hf.2.1, hf.2.2.1, hf.2.2.2.1, hf.2.2.2.2.1, hf.2.2.2.2.2.1, hf.2.2.2.2.2.2.1, hf.2.2.2.2.2.2.2.2.2.1, hf.2.2.2.2.2.2.2.2.2.2.1, hf.2.2.2.2.2.2.2.2.2.2.2⟩ h1) ?_
  exact ff_X6_term_8 p1 hk1 hf hfkE  fu v2 0 z2  _ h
theorem ff_X6_sum_49 {a k : Nat} (p1 : Nat) (hk1 : kd p1 = 2) (hf : Nf_X6_sum p1 a k) {kE : Nat → Int32 → St → Option St} (hfkE : ∀ {p1 : Nat} {v2 : Int32} {z Rz : St}, kd p1 = 2 → Nf_X6_either p1 a k → kE p1 v2 z = some Rz → SA z Rz a k) {k8 : Nat → Int32 → Int32 → St → Option (St)} (hk_8 : ∀ (v2 : Int32) (v3 : Int32) (z : St)  (Rz : St), k8 p1 v2 v3 z = some Rz → SA z Rz a k) (v2 : Int32) (v3 : Int32) (tv0 : Int32) (z : St)  {Rz : St} (h : fn_X6_sum_49 kE k8 p1 v2 v3 tv0 z = some Rz) : SA z Rz a k := by
  unfold fn_X6_sum_49 at h
  obtain ⟨z2, h1, h⟩ := bv_s h
  refine SA.tr (ff_X6_advance   ⟨hf.1, hf.2.1, hf.2.2.1, hf.2.2.2.1, hf.2.2.2.2.1, hf.2.2.2.2.2.1, hf.2.2.2.2.2.2.1⟩ h1) ?_
  obtain ⟨z4, h3, h⟩ := bv_s h
  refine SA.tr (ff_X6_term hfkE hk1 ⟨hf.1, hf.2.1, hf.2.2.1, hf.2.2.2.1, hf.2.2.2.2.1, hf.2.2.2.2.2.1, hf.2.2.2.2.2.2.1, hf.2.2.2.2.2.2.2.1, hf.2.2.2.2.2.2.2.2.1, hf.2.2.2.2.2.2.2.2.2.1, hf.2.2.2.2.2.2.2.2.2.2.1, hf.2.2.2.2.2.2.2.2.2.2.2⟩ h3) ?_
  obtain ⟨z6, h5, h⟩ := bv_s h
  refine SA.tr (ff_X2_add  hk1 ⟨hf.2.2.2.2.2.2.2.2.2.1, hf.2.2.2.2.2.2.2.2.2.2.1⟩ h5) ?_
  exact hk_8 v2 (v3 + 1) z6  _ h
theorem ff_X6_sum_33 {a k : Nat} (p1 : Nat) (hk1 : kd p1 = 2) (hf : Nf_X6_sum p1 a k) {kE : Nat → Int32 → St → Option St} (hfkE : ∀ {p1 : Nat} {v2 : Int32} {z Rz : St}, kd p1 = 2 → Nf_X6_either p1 a k → kE p1 v2 z = some Rz → SA z Rz a k) {k8 : Nat → Int32 → Int32 → St → Option (St)} (hk_8 : ∀ (v2 : Int32) (v3 : Int32) (z : St)  (Rz : St), k8 p1 v2 v3 z = some Rz → SA z Rz a k) (v2 : Int32) (v3 : Int32) (z : St)  {Rz : St} (h : fn_X6_sum_33 kE k8 p1 v2 v3 z = some Rz) : SA z Rz a k := by
  unfold fn_X6_sum_33 at h
  obtain ⟨r2, z3, h1, h⟩ := bd_s h
  refine SA.tr (ff_X6_isSign   trivial h1) ?_
  rcases Decidable.em (r2 = 0) with c4 | c4
  · rw [if_pos c4] at h
    exact ff_X6_sum_49 p1 hk1 hf hfkE hk_8 v2 v3 14 z3  h
  · rw [if_neg c4] at h
    exact ff_X6_sum_49 p1 hk1 hf hfkE hk_8 v2 v3 13 z3  h
theorem ff_X6_sum_8 {a k : Nat} (p1 : Nat) (hk1 : kd p1 = 2) (hf : Nf_X6_sum p1 a k) {kE : Nat → Int32 → St → Option St} (hfkE : ∀ {p1 : Nat} {v2 : Int32} {z Rz : St}, kd p1 = 2 → Nf_X6_either p1 a k → kE p1 v2 z = some Rz → SA z Rz a k) : ∀ (n : Nat) (v2 : Int32) (v3 : Int32) (z : St)  (Rz : St), fn_X6_sum_8 kE  n p1 v2 v3 z = some Rz → SA z Rz a k := by
  intro n
  induction n with
  | zero => intro v2 v3 z  Rz h; cases h
  | succ n ih =>
    intro v2 v3 z  Rz h
    rw [fn_X6_sum_8] at h
    rcases Decidable.em (1600 ≤ v3) with c1 | c1
    · rw [if_pos c1] at h
      cases h
      exact SA.rf
    · rw [if_neg c1] at h
      obtain ⟨r3, z4, h2, h⟩ := bd_s h
      refine SA.tr (ff_X6_isSign   trivial h2) ?_
      rcases Decidable.em (r3 = 0) with c5 | c5
      · rw [if_pos c5] at h
        obtain ⟨r7, z8, h6, h⟩ := bd_s h
        refine SA.tr (ff_X6_isSign   trivial h6) ?_
        rcases Decidable.em (r7 = 0) with c9 | c9
        · rw [if_pos c9] at h
          cases h
          exact SA.rf
        · rw [if_neg c9] at h
          exact ff_X6_sum_33 p1 hk1 hf hfkE ih v2 v3 z8  h
      · rw [if_neg c5] at h
        exact ff_X6_sum_33 p1 hk1 hf hfkE ih v2 v3 z4  h
theorem ff_X6_sum {a k : Nat} {kE : Nat → Int32 → St → Option St} (hfkE : ∀ {p1 : Nat} {v2 : Int32} {z Rz : St}, kd p1 = 2 → Nf_X6_either p1 a k → kE p1 v2 z = some Rz → SA z Rz a k) {p1 : Nat} {v2 : Int32} {z : St} {Rz : St} (hk1 : kd p1 = 2) (hf : Nf_X6_sum p1 a k) (h : fn_X6_sum kE p1 v2 z = some Rz) : SA z Rz a k := by
  unfold fn_X6_sum at h
  obtain ⟨z2, h1, h⟩ := bv_s h
  refine SA.tr (ff_X6_term hfkE hk1 ⟨hf.1, hf.2.1, hf.2.2.1, hf.2.2.2.1, hf.2.2.2.2.1, hf.2.2.2.2.2.1, hf.2.2.2.2.2.2.1, hf.2.2.2.2.2.2.2.1, hf.2.2.2.2.2.2.2.2.1, hf.2.2.2.2.2.2.2.2.2.1, hf.2.2.2.2.2.2.2.2.2.2.1, hf.2.2.2.2.2.2.2.2.2.2.2⟩ h1) ?_
  exact ff_X6_sum_8 p1 hk1 hf hfkE  fu v2 0 z2  _ h
theorem ff_X6_relation_49 {a k : Nat} (p1 : Nat) (hk1 : kd p1 = 2) (hf : Nf_X6_relation p1 a k) {kE : Nat → Int32 → St → Option St} (hfkE : ∀ {p1 : Nat} {v2 : Int32} {z Rz : St}, kd p1 = 2 → Nf_X6_either p1 a k → kE p1 v2 z = some Rz → SA z Rz a k) (v2 : Int32) (tv0 : Int32) (z : St)  {Rz : St} (h : fn_X6_relation_49 kE  p1 v2 tv0 z = some Rz) : SA z Rz a k := by
  unfold fn_X6_relation_49 at h
  rcases Decidable.em (tv0 = (-1)) with c1 | c1
  · rw [if_pos c1] at h
    cases h
    exact SA.rf
  · rw [if_neg c1] at h
    obtain ⟨z3, h2, h⟩ := bv_s h
    refine SA.tr (ff_X6_advance   ⟨hf.1, hf.2.1, hf.2.2.1, hf.2.2.2.1, hf.2.2.2.2.1, hf.2.2.2.2.2.1, hf.2.2.2.2.2.2.1⟩ h2) ?_
    obtain ⟨z5, h4, h⟩ := bv_s h
    refine SA.tr (ff_X6_sum hfkE hk1 ⟨hf.1, hf.2.1, hf.2.2.1, hf.2.2.2.1, hf.2.2.2.2.1, hf.2.2.2.2.2.1, hf.2.2.2.2.2.2.1, hf.2.2.2.2.2.2.2.1, hf.2.2.2.2.2.2.2.2.1, hf.2.2.2.2.2.2.2.2.2.1, hf.2.2.2.2.2.2.2.2.2.2.1, hf.2.2.2.2.2.2.2.2.2.2.2⟩ h4) ?_
    obtain ⟨z7, h6, h⟩ := bv_s h
    refine SA.tr (ff_X2_add  hk1 ⟨hf.2.2.2.2.2.2.2.2.2.1, hf.2.2.2.2.2.2.2.2.2.2.1⟩ h6) ?_
    cases h
    exact SA.rf
theorem ff_X6_relation {a k : Nat} {kE : Nat → Int32 → St → Option St} (hfkE : ∀ {p1 : Nat} {v2 : Int32} {z Rz : St}, kd p1 = 2 → Nf_X6_either p1 a k → kE p1 v2 z = some Rz → SA z Rz a k) {p1 : Nat} {v2 : Int32} {z : St} {Rz : St} (hk1 : kd p1 = 2) (hf : Nf_X6_relation p1 a k) (h : fn_X6_relation kE p1 v2 z = some Rz) : SA z Rz a k := by
  unfold fn_X6_relation at h
  obtain ⟨z2, h1, h⟩ := bv_s h
  refine SA.tr (ff_X6_sum hfkE hk1 ⟨hf.1, hf.2.1, hf.2.2.1, hf.2.2.2.1, hf.2.2.2.2.1, hf.2.2.2.2.2.1, hf.2.2.2.2.2.2.1, hf.2.2.2.2.2.2.2.1, hf.2.2.2.2.2.2.2.2.1, hf.2.2.2.2.2.2.2.2.2.1, hf.2.2.2.2.2.2.2.2.2.2.1, hf.2.2.2.2.2.2.2.2.2.2.2⟩ h1) ?_
  obtain ⟨r4, z5, h3, h⟩ := bd_s h
  refine SA.tr (ff_X6_isSign   trivial h3) ?_
  rcases Decidable.em (r4 = 0) with c6 | c6
  · rw [if_pos c6] at h
    obtain ⟨r8, z9, h7, h⟩ := bd_s h
    refine SA.tr (ff_X6_isSign   trivial h7) ?_
    rcases Decidable.em (r8 = 0) with c10 | c10
    · rw [if_pos c10] at h
      obtain ⟨r12, z13, h11, h⟩ := bd_s h
      refine SA.tr (ff_X6_isSign   trivial h11) ?_
      rcases Decidable.em (r12 = 0) with c14 | c14
      · rw [if_pos c14] at h
        exact ff_X6_relation_49 p1 hk1 hf hfkE  v2 (-1) z13  h
      · rw [if_neg c14] at h
        exact ff_X6_relation_49 p1 hk1 hf hfkE  v2 12 z13  h
    · rw [if_neg c10] at h
      exact ff_X6_relation_49 p1 hk1 hf hfkE  v2 11 z9  h
  · rw [if_neg c6] at h
    exact ff_X6_relation_49 p1 hk1 hf hfkE  v2 10 z5  h
theorem ff_X6_one {a k : Nat} {kE : Nat → Int32 → St → Option St} (hfkE : ∀ {p1 : Nat} {v2 : Int32} {z Rz : St}, kd p1 = 2 → Nf_X6_either p1 a k → kE p1 v2 z = some Rz → SA z Rz a k) {kO : Nat → Int32 → St → Option St} (hfkO : ∀ {p1 : Nat} {v2 : Int32} {z Rz : St}, kd p1 = 2 → Nf_X6_one p1 a k → kO p1 v2 z = some Rz → SA z Rz a k) {p1 : Nat} {v2 : Int32} {z : St} {Rz : St} (hk1 : kd p1 = 2) (hf : Nf_X6_one p1 a k) (h : fn_X6_one kE kO p1 v2 z = some Rz) : SA z Rz a k := by
  unfold fn_X6_one at h
  obtain ⟨r2, z3, h1, h⟩ := bd_s h
  refine SA.tr (ff_X6_isKeyword   trivial h1) ?_
  rcases Decidable.em (r2 = 0) with c4 | c4
  · rw [if_pos c4] at h
    obtain ⟨z15, h14, h⟩ := bv_s h
    refine SA.tr (ff_X6_relation hfkE hk1 ⟨hf.1, hf.2.1, hf.2.2.1, hf.2.2.2.1, hf.2.2.2.2.1, hf.2.2.2.2.2.1, hf.2.2.2.2.2.2.1, hf.2.2.2.2.2.2.2.2.2.1, hf.2.2.2.2.2.2.2.2.2.2.1, hf.2.2.2.2.2.2.2.1, hf.2.2.2.2.2.2.2.2.1, hf.2.2.2.2.2.2.2.2.2.2.2⟩ h14) ?_
    cases h
    exact SA.rf
  · rw [if_neg c4] at h
    rcases Decidable.em (v2 ≤ 6) with c5 | c5
    · rw [if_pos c5] at h
      obtain ⟨z7, h6, h⟩ := bv_s h
      refine SA.tr (ff_X6_advance   ⟨hf.1, hf.2.1, hf.2.2.1, hf.2.2.2.1, hf.2.2.2.2.1, hf.2.2.2.2.2.1, hf.2.2.2.2.2.2.1⟩ h6) ?_
      obtain ⟨z9, h8, h⟩ := bv_s h
      refine SA.tr (hfkO hk1 ⟨hf.1, hf.2.1, hf.2.2.1, hf.2.2.2.1, hf.2.2.2.2.1, hf.2.2.2.2.2.1, hf.2.2.2.2.2.2.1, hf.2.2.2.2.2.2.2.1, hf.2.2.2.2.2.2.2.2.1, hf.2.2.2.2.2.2.2.2.2.1, hf.2.2.2.2.2.2.2.2.2.2.1, hf.2.2.2.2.2.2.2.2.2.2.2⟩ h8) ?_
      obtain ⟨z11, h10, h⟩ := bv_s h
      refine SA.tr (ff_X2_add  hk1 ⟨hf.2.2.2.2.2.2.2.1, hf.2.2.2.2.2.2.2.2.1⟩ h10) ?_
      cases h
      exact SA.rf
    · rw [if_neg c5] at h
      obtain ⟨z13, h12, h⟩ := bv_s h
      refine SA.tr (ff_X6_refuse   ⟨hf.2.2.2.2.2.2.2.2.2.1, hf.2.2.2.2.2.2.2.2.2.2.1⟩ h12) ?_
      cases h
      exact SA.rf
theorem ff_X6_both_8 {a k : Nat} (p1 : Nat) (hk1 : kd p1 = 2) (hf : Nf_X6_both p1 a k) {kE : Nat → Int32 → St → Option St} (hfkE : ∀ {p1 : Nat} {v2 : Int32} {z Rz : St}, kd p1 = 2 → Nf_X6_either p1 a k → kE p1 v2 z = some Rz → SA z Rz a k) {kO : Nat → Int32 → St → Option St} (hfkO : ∀ {p1 : Nat} {v2 : Int32} {z Rz : St}, kd p1 = 2 → Nf_X6_one p1 a k → kO p1 v2 z = some Rz → SA z Rz a k) : ∀ (n : Nat) (v2 : Int32) (v3 : Int32) (z : St)  (Rz : St), fn_X6_both_8 kE kO  n p1 v2 v3 z = some Rz → SA z Rz a k := by
  intro n
  induction n with
  | zero => intro v2 v3 z  Rz h; cases h
  | succ n ih =>
    intro v2 v3 z  Rz h
    rw [fn_X6_both_8] at h
    rcases Decidable.em (1600 ≤ v3) with c1 | c1
    · rw [if_pos c1] at h
      cases h
      exact SA.rf
    · rw [if_neg c1] at h
      obtain ⟨r3, z4, h2, h⟩ := bd_s h
      refine SA.tr (ff_X6_isKeyword   trivial h2) ?_
      rcases Decidable.em (r3 = 0) with c5 | c5
      · rw [if_pos c5] at h
        cases h
        exact SA.rf
      · rw [if_neg c5] at h
        obtain ⟨z7, h6, h⟩ := bv_s h
        refine SA.tr (ff_X6_advance   ⟨hf.1, hf.2.1, hf.2.2.1, hf.2.2.2.1, hf.2.2.2.2.1, hf.2.2.2.2.2.1, hf.2.2.2.2.2.2.1⟩ h6) ?_
        obtain ⟨z9, h8, h⟩ := bv_s h
        refine SA.tr (ff_X6_one hfkE hfkO hk1 ⟨hf.1, hf.2.1, hf.2.2.1, hf.2.2.2.1, hf.2.2.2.2.1, hf.2.2.2.2.2.1, hf.2.2.2.2.2.2.1, hf.2.2.2.2.2.2.2.1, hf.2.2.2.2.2.2.2.2.1, hf.2.2.2.2.2.2.2.2.2.1, hf.2.2.2.2.2.2.2.2.2.2.1, hf.2.2.2.2.2.2.2.2.2.2.2⟩ h8) ?_
        obtain ⟨z11, h10, h⟩ := bv_s h
        refine SA.tr (ff_X2_add  hk1 ⟨hf.2.2.2.2.2.2.2.1, hf.2.2.2.2.2.2.2.2.1⟩ h10) ?_
        exact ih v2 (v3 + 1) z11  _ h
theorem ff_X6_both {a k : Nat} {kE : Nat → Int32 → St → Option St} (hfkE : ∀ {p1 : Nat} {v2 : Int32} {z Rz : St}, kd p1 = 2 → Nf_X6_either p1 a k → kE p1 v2 z = some Rz → SA z Rz a k) {kO : Nat → Int32 → St → Option St} (hfkO : ∀ {p1 : Nat} {v2 : Int32} {z Rz : St}, kd p1 = 2 → Nf_X6_one p1 a k → kO p1 v2 z = some Rz → SA z Rz a k) {p1 : Nat} {v2 : Int32} {z : St} {Rz : St} (hk1 : kd p1 = 2) (hf : Nf_X6_both p1 a k) (h : fn_X6_both kE kO p1 v2 z = some Rz) : SA z Rz a k := by
  unfold fn_X6_both at h
  obtain ⟨z2, h1, h⟩ := bv_s h
  refine SA.tr (ff_X6_one hfkE hfkO hk1 ⟨hf.1, hf.2.1, hf.2.2.1, hf.2.2.2.1, hf.2.2.2.2.1, hf.2.2.2.2.2.1, hf.2.2.2.2.2.2.1, hf.2.2.2.2.2.2.2.1, hf.2.2.2.2.2.2.2.2.1, hf.2.2.2.2.2.2.2.2.2.1, hf.2.2.2.2.2.2.2.2.2.2.1, hf.2.2.2.2.2.2.2.2.2.2.2⟩ h1) ?_
  exact ff_X6_both_8 p1 hk1 hf hfkE hfkO  fu v2 0 z2  _ h
theorem ff_X6_either_8 {a k : Nat} (p1 : Nat) (hk1 : kd p1 = 2) (hf : Nf_X6_either p1 a k) {kE : Nat → Int32 → St → Option St} (hfkE : ∀ {p1 : Nat} {v2 : Int32} {z Rz : St}, kd p1 = 2 → Nf_X6_either p1 a k → kE p1 v2 z = some Rz → SA z Rz a k) {kO : Nat → Int32 → St → Option St} (hfkO : ∀ {p1 : Nat} {v2 : Int32} {z Rz : St}, kd p1 = 2 → Nf_X6_one p1 a k → kO p1 v2 z = some Rz → SA z Rz a k) : ∀ (n : Nat) (v2 : Int32) (v3 : Int32) (z : St)  (Rz : St), fn_X6_either_8 kE kO  n p1 v2 v3 z = some Rz → SA z Rz a k := by
  intro n
  induction n with
  | zero => intro v2 v3 z  Rz h; cases h
  | succ n ih =>
    intro v2 v3 z  Rz h
    rw [fn_X6_either_8] at h
    rcases Decidable.em (1600 ≤ v3) with c1 | c1
    · rw [if_pos c1] at h
      cases h
      exact SA.rf
    · rw [if_neg c1] at h
      obtain ⟨r3, z4, h2, h⟩ := bd_s h
      refine SA.tr (ff_X6_isKeyword   trivial h2) ?_
      rcases Decidable.em (r3 = 0) with c5 | c5
      · rw [if_pos c5] at h
        cases h
        exact SA.rf
      · rw [if_neg c5] at h
        obtain ⟨z7, h6, h⟩ := bv_s h
        refine SA.tr (ff_X6_advance   ⟨hf.1, hf.2.1, hf.2.2.1, hf.2.2.2.1, hf.2.2.2.2.1, hf.2.2.2.2.2.1, hf.2.2.2.2.2.2.1⟩ h6) ?_
        obtain ⟨z9, h8, h⟩ := bv_s h
        refine SA.tr (ff_X6_both hfkE hfkO hk1 ⟨hf.1, hf.2.1, hf.2.2.1, hf.2.2.2.1, hf.2.2.2.2.1, hf.2.2.2.2.2.1, hf.2.2.2.2.2.2.1, hf.2.2.2.2.2.2.2.1, hf.2.2.2.2.2.2.2.2.1, hf.2.2.2.2.2.2.2.2.2.1, hf.2.2.2.2.2.2.2.2.2.2.1, hf.2.2.2.2.2.2.2.2.2.2.2⟩ h8) ?_
        obtain ⟨z11, h10, h⟩ := bv_s h
        refine SA.tr (ff_X2_add  hk1 ⟨hf.2.2.2.2.2.2.2.1, hf.2.2.2.2.2.2.2.2.1⟩ h10) ?_
        exact ih v2 (v3 + 1) z11  _ h
theorem ff_X6_either {a k : Nat} {kE : Nat → Int32 → St → Option St} (hfkE : ∀ {p1 : Nat} {v2 : Int32} {z Rz : St}, kd p1 = 2 → Nf_X6_either p1 a k → kE p1 v2 z = some Rz → SA z Rz a k) {kO : Nat → Int32 → St → Option St} (hfkO : ∀ {p1 : Nat} {v2 : Int32} {z Rz : St}, kd p1 = 2 → Nf_X6_one p1 a k → kO p1 v2 z = some Rz → SA z Rz a k) {p1 : Nat} {v2 : Int32} {z : St} {Rz : St} (hk1 : kd p1 = 2) (hf : Nf_X6_either p1 a k) (h : fn_X6_either kE kO p1 v2 z = some Rz) : SA z Rz a k := by
  unfold fn_X6_either at h
  obtain ⟨z2, h1, h⟩ := bv_s h
  refine SA.tr (ff_X6_both hfkE hfkO hk1 ⟨hf.1, hf.2.1, hf.2.2.1, hf.2.2.2.1, hf.2.2.2.2.1, hf.2.2.2.2.2.1, hf.2.2.2.2.2.2.1, hf.2.2.2.2.2.2.2.1, hf.2.2.2.2.2.2.2.2.1, hf.2.2.2.2.2.2.2.2.2.1, hf.2.2.2.2.2.2.2.2.2.2.1, hf.2.2.2.2.2.2.2.2.2.2.2⟩ h1) ?_
  exact ff_X6_either_8 p1 hk1 hf hfkE hfkO  fu v2 0 z2  _ h
theorem ff_rec6n {a k : Nat} (n : Nat) : (∀ {p1 : Nat} {v2 : Int32} {z Rz : St}, kd p1 = 2 → Nf_X6_either p1 a k → (rec6 n).1 p1 v2 z = some Rz → SA z Rz a k) ∧ (∀ {p1 : Nat} {v2 : Int32} {z Rz : St}, kd p1 = 2 → Nf_X6_one p1 a k → (rec6 n).2 p1 v2 z = some Rz → SA z Rz a k) := by
  induction n with
  | zero => exact ⟨fun {p1 v2 z Rz} hk hf h => (by cases h), fun {p1 v2 z Rz} hk hf h => (by cases h)⟩
  | succ n ih => exact ⟨fun {p1 v2 z Rz} hk hf h => ff_X6_either ih.1 ih.2 hk hf h, fun {p1 v2 z Rz} hk hf h => ff_X6_one ih.1 ih.2 hk hf h⟩
theorem ff_rec6E {a k p1 : Nat} {v2 : Int32} {z Rz : St} (hk : kd p1 = 2) (hf : Nf_X6_either p1 a k) (h : (rec6 12).1 p1 v2 z = some Rz) : SA z Rz a k := (ff_rec6n 12).1 hk hf h
theorem ff_X6_formulaLine {a k : Nat} {p1 : Nat} {z : St} {Rz : St} (hk1 : kd p1 = 2) (hf : Nf_X6_formulaLine p1 a k) (h : fn_X6_formulaLine  p1 z = some Rz) : SA z Rz a k := by
  unfold fn_X6_formulaLine at h
  rcases Decidable.em ((z.1 p1 4) = 0) with c1 | c1
  · rw [if_pos c1] at h
    obtain ⟨z3, h2, h⟩ := bv_s h
    refine SA.tr (ff_X6_advance   ⟨hf.1, hf.2.1, hf.2.2.1, hf.2.2.2.1, hf.2.2.2.2.1, hf.2.2.2.2.2.1, hf.2.2.2.2.2.2.1⟩ h2) ?_
    obtain ⟨z5, h4, h⟩ := bv_s h
    refine SA.tr (ff_X2_begin  hk1 ⟨hf.2.2.2.2.2.2.2.1, hf.2.2.2.2.2.2.2.2.1⟩ h4) ?_
    obtain ⟨z7, h6, h⟩ := bv_s h
    refine SA.tr (ff_rec6E hk1 ⟨hf.1, hf.2.1, hf.2.2.1, hf.2.2.2.1, hf.2.2.2.2.1, hf.2.2.2.2.2.1, hf.2.2.2.2.2.2.1, hf.2.2.2.2.2.2.2.2.2.1, hf.2.2.2.2.2.2.2.1, hf.2.2.2.2.2.2.2.2.2.2.1, hf.2.2.2.2.2.2.2.2.2.2.2.1, hf.2.2.2.2.2.2.2.2.2.2.2.2⟩ h6) ?_
    obtain ⟨z9, h8, h⟩ := bv_s h
    refine SA.tr (ff_X6_expectSign   ⟨hf.2.2.2.2.2.2.2.2.2.2.1, hf.2.2.2.2.2.2.2.2.2.2.2.1, hf.1, hf.2.1, hf.2.2.1, hf.2.2.2.1, hf.2.2.2.2.1, hf.2.2.2.2.2.1, hf.2.2.2.2.2.2.1⟩ h8) ?_
    cases h
    exact SA.rf
  · rw [if_neg c1] at h
    obtain ⟨z11, h10, h⟩ := bv_s h
    refine SA.tr (ff_X6_refuse   ⟨hf.2.2.2.2.2.2.2.2.2.2.1, hf.2.2.2.2.2.2.2.2.2.2.2.1⟩ h10) ?_
    cases h
    exact SA.rf
theorem ff_X6_line_16 {a k : Nat} (hf : Nf_X6_line  a k) (tv0 : Int32) (z : St)  {Rz : St} (h : fn_X6_line_16   tv0 z = some Rz) : SA z Rz a k := by
  unfold fn_X6_line_16 at h
  by_cases c1 : tv0 = 0
  · rw [if_pos c1] at h
    obtain ⟨z3, h2, h⟩ := bv_s h
    refine SA.tr (ff_X6_tierLine   ⟨hf.1, hf.2.1, hf.2.2.1, hf.2.2.2.1, hf.2.2.2.2.1, hf.2.2.2.2.2.1, hf.2.2.2.2.2.2.1, hf.2.2.2.2.2.2.2.1, hf.2.2.2.2.2.2.2.2.1, hf.2.2.2.2.2.2.2.2.2.1, hf.2.2.2.2.2.2.2.2.2.2.1, hf.2.2.2.2.2.2.2.2.2.2.2.1, hf.2.2.2.2.2.2.2.2.2.2.2.2.1, hf.2.2.2.2.2.2.2.2.2.2.2.2.2.1⟩ h2) ?_
    cases h
    exact SA.rf
  rw [if_neg c1] at h
  by_cases c4 : tv0 = 1
  · rw [if_pos c4] at h
    obtain ⟨z6, h5, h⟩ := bv_s h
    refine SA.tr (ff_X6_refuse   ⟨hf.2.2.2.2.2.2.2.1, hf.2.2.2.2.2.2.2.2.1⟩ h5) ?_
    cases h
    exact SA.rf
  rw [if_neg c4] at h
  by_cases c7 : tv0 = 2
  · rw [if_pos c7] at h
    obtain ⟨z9, h8, h⟩ := bv_s h
    refine SA.tr (ff_X6_refuse   ⟨hf.2.2.2.2.2.2.2.1, hf.2.2.2.2.2.2.2.2.1⟩ h8) ?_
    cases h
    exact SA.rf
  rw [if_neg c7] at h
  by_cases c10 : tv0 = 3
  · rw [if_pos c10] at h
    obtain ⟨z12, h11, h⟩ := bv_s h
    refine SA.tr (ff_X6_guestLine   ⟨hf.2.2.2.2.2.2.2.1, hf.2.2.2.2.2.2.2.2.1, hf.1, hf.2.1, hf.2.2.1, hf.2.2.2.1, hf.2.2.2.2.1, hf.2.2.2.2.2.1, hf.2.2.2.2.2.2.1, hf.2.2.2.2.2.2.2.2.2.2.2.2.2.2.1, hf.2.2.2.2.2.2.2.2.2.2.2.2.2.2.2.1, hf.2.2.2.2.2.2.2.2.2.2.2.2.2.2.2.2.1, hf.2.2.2.2.2.2.2.2.2.2.2.2.2.2.2.2.2.1, hf.2.2.2.2.2.2.2.2.2.2.2.2.2.2.2.2.2.2.1⟩ h11) ?_
    cases h
    exact SA.rf
  rw [if_neg c10] at h
  by_cases c13 : tv0 = 4
  · rw [if_pos c13] at h
    obtain ⟨z15, h14, h⟩ := bv_s h
    refine SA.tr (ff_X6_refuse   ⟨hf.2.2.2.2.2.2.2.1, hf.2.2.2.2.2.2.2.2.1⟩ h14) ?_
    cases h
    exact SA.rf
  rw [if_neg c13] at h
  by_cases c16 : tv0 = 5
  · rw [if_pos c16] at h
    obtain ⟨z18, h17, h⟩ := bv_s h
    refine SA.tr (ff_X6_refuse   ⟨hf.2.2.2.2.2.2.2.1, hf.2.2.2.2.2.2.2.2.1⟩ h17) ?_
    cases h
    exact SA.rf
  rw [if_neg c16] at h
  by_cases c19 : tv0 = 6
  · rw [if_pos c19] at h
    obtain ⟨z21, h20, h⟩ := bv_s h
    refine SA.tr (ff_X6_refuse   ⟨hf.2.2.2.2.2.2.2.1, hf.2.2.2.2.2.2.2.2.1⟩ h20) ?_
    cases h
    exact SA.rf
  rw [if_neg c19] at h
  by_cases c22 : tv0 = 7
  · rw [if_pos c22] at h
    obtain ⟨z24, h23, h⟩ := bv_s h
    refine SA.tr (ff_X6_formulaLine  k_26 ⟨hf.1, hf.2.1, hf.2.2.1, hf.2.2.2.1, hf.2.2.2.2.1, hf.2.2.2.2.2.1, hf.2.2.2.2.2.2.1, hf.2.2.2.2.2.2.2.2.2.2.2.2.2.2.2.2.2.2.2.1, hf.2.2.2.2.2.2.2.2.2.2.2.2.2.2.2.2.2.2.2.2.1, hf.2.2.2.2.2.2.2.2.2.2.2.2.2.2.2.2.2.2.2.2.2.1, hf.2.2.2.2.2.2.2.1, hf.2.2.2.2.2.2.2.2.1, hf.2.2.2.2.2.2.2.2.2.2.2.2.2.2.2.2.2.2.2.2.2.2.1⟩ h23) ?_
    cases h
    exact SA.rf
  rw [if_neg c22] at h
  by_cases c25 : tv0 = 8
  · rw [if_pos c25] at h
    obtain ⟨z27, h26, h⟩ := bv_s h
    refine SA.tr (ff_X6_formulaLine  k_29 ⟨hf.1, hf.2.1, hf.2.2.1, hf.2.2.2.1, hf.2.2.2.2.1, hf.2.2.2.2.2.1, hf.2.2.2.2.2.2.1, hf.2.2.2.2.2.2.2.2.2.2.2.2.2.2.2.2.2.2.2.2.2.2.2.1, hf.2.2.2.2.2.2.2.2.2.2.2.2.2.2.2.2.2.2.2.2.2.2.2.2.1, hf.2.2.2.2.2.2.2.2.2.2.2.2.2.2.2.2.2.2.2.2.2.2.2.2.2.1, hf.2.2.2.2.2.2.2.1, hf.2.2.2.2.2.2.2.2.1, hf.2.2.2.2.2.2.2.2.2.2.2.2.2.2.2.2.2.2.2.2.2.2.2.2.2.2.1⟩ h26) ?_
    cases h
    exact SA.rf
  rw [if_neg c25] at h
  by_cases c28 : tv0 = 9
  · rw [if_pos c28] at h
    obtain ⟨z30, h29, h⟩ := bv_s h
    refine SA.tr (ff_X6_paceLine   ⟨hf.1, hf.2.1, hf.2.2.1, hf.2.2.2.1, hf.2.2.2.2.1, hf.2.2.2.2.2.1, hf.2.2.2.2.2.2.1, hf.2.2.2.2.2.2.2.2.2.2.2.2.2.2.2.2.2.2.2.2.2.2.2.2.2.2.2.1, hf.2.2.2.2.2.2.2.1, hf.2.2.2.2.2.2.2.2.1, hf.2.2.2.2.2.2.2.2.2.2.2.2.2.2.2.2.2.2.2.2.2.2.2.2.2.2.2.2.1⟩ h29) ?_
    cases h
    exact SA.rf
  rw [if_neg c28] at h
  by_cases c31 : tv0 = 10
  · rw [if_pos c31] at h
    obtain ⟨z33, h32, h⟩ := bv_s h
    refine SA.tr (ff_X6_drawLine   ⟨hf.1, hf.2.1, hf.2.2.1, hf.2.2.2.1, hf.2.2.2.2.1, hf.2.2.2.2.2.1, hf.2.2.2.2.2.2.1, hf.2.2.2.2.2.2.2.2.2.2.2.2.2.2.2.2.2.2.2.2.2.2.2.2.2.2.2.2.2.1, hf.2.2.2.2.2.2.2.1, hf.2.2.2.2.2.2.2.2.1, hf.2.2.2.2.2.2.2.2.2.2.2.2.2.2.2.2.2.2.2.2.2.2.2.2.2.2.2.2.2.2⟩ h32) ?_
    cases h
    exact SA.rf
  rw [if_neg c31] at h
  obtain ⟨z35, h34, h⟩ := bv_s h
  refine SA.tr (ff_X6_refuse   ⟨hf.2.2.2.2.2.2.2.1, hf.2.2.2.2.2.2.2.2.1⟩ h34) ?_
  cases h
  exact SA.rf
theorem ff_X6_line {a k : Nat}  {z : St} {Rz : St}  (hf : Nf_X6_line  a k) (h : fn_X6_line   z = some Rz) : SA z Rz a k := by
  unfold fn_X6_line at h
  rcases Decidable.em ((z.1 32 5) = 1) with c1 | c1
  · rw [if_pos c1] at h
    exact ff_X6_line_16  hf   (z.1 32 9) z  h
  · rw [if_neg c1] at h
    exact ff_X6_line_16  hf   (-1) z  h
theorem ff_X6_readAll_72 {a k : Nat} (hf : Nf_X6_readAll  a k)  (z : St)  {Rz : Int32 × St} (h : fn_X6_readAll_72    z = some Rz) : SA z Rz.2 a k := by
  unfold fn_X6_readAll_72 at h
  rcases Decidable.em ((z.1 32 11) = 0) with c1 | c1
  · rw [if_pos c1] at h
    cases h
    exact SA.rf
  · rw [if_neg c1] at h
    cases h
    exact SA.rf
theorem ff_X6_readAll_41 {a k : Nat} (hf : Nf_X6_readAll  a k) : ∀ (n : Nat) (v2 : Int32) (z : St)  (Rz : Int32 × St), fn_X6_readAll_41   n v2 z = some Rz → SA z Rz.2 a k := by
  intro n
  induction n with
  | zero => intro v2 z  Rz h; cases h
  | succ n ih =>
    intro v2 z  Rz h
    rw [fn_X6_readAll_41] at h
    rcases Decidable.em (1600 ≤ v2) with c1 | c1
    · rw [if_pos c1] at h
      exact ff_X6_readAll_72  hf    z  h
    · rw [if_neg c1] at h
      rcases Decidable.em ((z.1 32 11) = 0) with c2 | c2
      · rw [if_pos c2] at h
        rcases Decidable.em ((z.1 32 5) = 0) with c3 | c3
        · rw [if_pos c3] at h
          exact ff_X6_readAll_72  hf    z  h
        · rw [if_neg c3] at h
          obtain ⟨z5, h4, h⟩ := bv_s h
          refine SA.tr (ff_X6_line   ⟨hf.1, hf.2.1, hf.2.2.1, hf.2.2.2.1, hf.2.2.2.2.1, hf.2.2.2.2.2.1, hf.2.2.2.2.2.2.1, hf.2.2.2.2.2.2.2.1, hf.2.2.2.2.2.2.2.2.1, hf.2.2.2.2.2.2.2.2.2.1, hf.2.2.2.2.2.2.2.2.2.2.1, hf.2.2.2.2.2.2.2.2.2.2.2.1, hf.2.2.2.2.2.2.2.2.2.2.2.2.1, hf.2.2.2.2.2.2.2.2.2.2.2.2.2.1, hf.2.2.2.2.2.2.2.2.2.2.2.2.2.2.1, hf.2.2.2.2.2.2.2.2.2.2.2.2.2.2.2.1, hf.2.2.2.2.2.2.2.2.2.2.2.2.2.2.2.2.1, hf.2.2.2.2.2.2.2.2.2.2.2.2.2.2.2.2.2.1, hf.2.2.2.2.2.2.2.2.2.2.2.2.2.2.2.2.2.2.1, hf.2.2.2.2.2.2.2.2.2.2.2.2.2.2.2.2.2.2.2.1, hf.2.2.2.2.2.2.2.2.2.2.2.2.2.2.2.2.2.2.2.2.1, hf.2.2.2.2.2.2.2.2.2.2.2.2.2.2.2.2.2.2.2.2.2.1, hf.2.2.2.2.2.2.2.2.2.2.2.2.2.2.2.2.2.2.2.2.2.2.1, hf.2.2.2.2.2.2.2.2.2.2.2.2.2.2.2.2.2.2.2.2.2.2.2.1, hf.2.2.2.2.2.2.2.2.2.2.2.2.2.2.2.2.2.2.2.2.2.2.2.2.1, hf.2.2.2.2.2.2.2.2.2.2.2.2.2.2.2.2.2.2.2.2.2.2.2.2.2.1, hf.2.2.2.2.2.2.2.2.2.2.2.2.2.2.2.2.2.2.2.2.2.2.2.2.2.2.1, hf.2.2.2.2.2.2.2.2.2.2.2.2.2.2.2.2.2.2.2.2.2.2.2.2.2.2.2.1, hf.2.2.2.2.2.2.2.2.2.2.2.2.2.2.2.2.2.2.2.2.2.2.2.2.2.2.2.2.1, hf.2.2.2.2.2.2.2.2.2.2.2.2.2.2.2.2.2.2.2.2.2.2.2.2.2.2.2.2.2.1, hf.2.2.2.2.2.2.2.2.2.2.2.2.2.2.2.2.2.2.2.2.2.2.2.2.2.2.2.2.2.2.1⟩ h4) ?_
          exact ih (v2 + 1) z5  _ h
      · rw [if_neg c2] at h
        exact ff_X6_readAll_72  hf    z  h
theorem ff_X6_readAll {a k : Nat} {v1 : Int32} {z : St} {Rz : Int32 × St}  (hf : Nf_X6_readAll  a k) (h : fn_X6_readAll  v1 z = some Rz) : SA z Rz.2 a k := by
  unfold fn_X6_readAll at h
  obtain ⟨z1, e_z1, h⟩ := nm_s h
  refine SA.tr (sa_I e_z1 hf.2.2.2.2.2.2.2.2.2.2.2.2.2.2.2.2.2.2.2.2.2.2.2.2.2.2.2.2.2.2.2.1) ?_
  obtain ⟨z2, e_z2, h⟩ := nm_s h
  refine SA.tr (sa_I e_z2 hf.2.1) ?_
  obtain ⟨z3, e_z3, h⟩ := nm_s h
  refine SA.tr (sa_I e_z3 hf.2.2.2.2.2.2.2.1) ?_
  obtain ⟨z4, e_z4, h⟩ := nm_s h
  refine SA.tr (sa_I e_z4 hf.2.2.2.2.2.2.2.2.1) ?_
  obtain ⟨z6, h5, h⟩ := bv_s h
  refine SA.tr (ff_X7_clear  k_17 ⟨hf.2.2.2.2.2.2.2.2.2.2.2.2.2.1, hf.2.2.2.2.2.2.2.2.2.2.2.2.2.2.2.2.2.1, hf.2.2.2.2.2.2.2.2.2.2.2.2.2.2.2.2.2.2.2.1, hf.2.2.2.2.2.2.2.2.2.2.2.2.2.2.2.2.2.2.2.2.2.2.1, hf.2.2.2.2.2.2.2.2.2.2.2.2.2.2.2.2.2.2.2.2.1, hf.2.2.2.2.2.2.2.2.2.2.2.2.2.2.2.2.2.2.2.2.2.2.2.2.2.2.2.2.2.2.2.2, hf.2.2.2.2.2.2.2.2.2.2.2.2.2.2.2.2.2.2.2.2.2.2.2.1, hf.2.2.2.2.2.2.2.2.2.2.2.2.2.2.2.2.2.2.2.2.2.2.2.2.2.2.1, hf.2.2.2.2.2.2.2.2.2.2.2.2.2.2.2.2.2.2.2.2.2.2.2.2.1, hf.2.2.2.2.2.2.2.2.2.2.2.2.2.2.2.2.2.2.2.2.2.2.2.2.2.2.2.2.1, hf.2.2.2.2.2.2.2.2.2.2.2.2.2.2.2.2.2.2.2.2.2.2.2.2.2.2.2.1, hf.2.2.2.2.2.2.2.2.2.2.2.2.2.2.2.2.2.2.2.2.2.2.2.2.2.2.2.2.2.2.1, hf.2.2.2.2.2.2.2.2.2.2.2.2.2.2.2.2.2.2.2.2.2.2.2.2.2.2.2.2.2.1⟩ h5) ?_
  obtain ⟨z8, h7, h⟩ := bv_s h
  refine SA.tr (ff_X6_advance   ⟨hf.1, hf.2.1, hf.2.2.1, hf.2.2.2.1, hf.2.2.2.2.1, hf.2.2.2.2.2.1, hf.2.2.2.2.2.2.1⟩ h7) ?_
  exact ff_X6_readAll_41  hf   fu 0 z8  _ h
theorem ff_X11_putOnTape_42 {a k : Nat} (hf : Nf_X11_putOnTape  a k) {k3 : Int32 → Int32 → St → Option (St)} (hk_3 : ∀ (v1 : Int32) (v2 : Int32) (z : St)  (Rz : St), k3 v1 v2 z = some Rz → SA z Rz a k) (v1 : Int32) (v2 : Int32) (z : St)  {Rz : St} (h : fn_X11_putOnTape_42  k3 v1 v2 z = some Rz) : SA z Rz a k := by
  unfold fn_X11_putOnTape_42 at h
  exact hk_3 v1 (v2 + (-8)) z  _ h
theorem ff_X11_putOnTape_3 {a k : Nat} (hf : Nf_X11_putOnTape  a k) : ∀ (n : Nat) (v1 : Int32) (v2 : Int32) (z : St)  (Rz : St), fn_X11_putOnTape_3   n v1 v2 z = some Rz → SA z Rz a k := by
  intro n
  induction n with
  | zero => intro v1 v2 z  Rz h; cases h
  | succ n ih =>
    intro v1 v2 z  Rz h
    rw [fn_X11_putOnTape_3] at h
    rcases Decidable.em (v2 < 0) with c1 | c1
    · rw [if_pos c1] at h
      cases h
      exact SA.rf
    · rw [if_neg c1] at h
      rcases Decidable.em (1600 ≤ (z.1 0 1)) with c2 | c2
      · rw [if_pos c2] at h
        exact ff_X11_putOnTape_42  hf  ih v1 v2 z  h
      · rw [if_neg c2] at h
        obtain ⟨g3, h⟩ := gd_s h
        obtain ⟨z4, e_z4, h⟩ := nm_s h
        refine SA.tr (sa_Ia e_z4 hf.1) ?_
        obtain ⟨z5, e_z5, h⟩ := nm_s h
        refine SA.tr (sa_I e_z5 hf.2) ?_
        exact ff_X11_putOnTape_42  hf  ih v1 v2 z5  h
theorem ff_X11_putOnTape {a k : Nat} {v1 : Int32} {z : St} {Rz : St}  (hf : Nf_X11_putOnTape  a k) (h : fn_X11_putOnTape  v1 z = some Rz) : SA z Rz a k := by
  unfold fn_X11_putOnTape at h
  exact ff_X11_putOnTape_3  hf   fu v1 24 z  _ h
theorem ff_X11_feed {a k : Nat} {v1 : Int32} {v2 : Int32} {v3 : Int32} {v4 : Int32} {v5 : Int32} {z : St} {Rz : Int32 × St}  (hf : Nf_X11_feed  a k) (h : fn_X11_feed  v1 v2 v3 v4 v5 z = some Rz) : SA z Rz.2 a k := by
  unfold fn_X11_feed at h
  rcases Decidable.em ((z.1 0 1) ≤ 1580) with c1 | c1
  · rw [if_pos c1] at h
    obtain ⟨z3, h2, h⟩ := bv_s h
    refine SA.tr (ff_X11_putOnTape   ⟨hf.1, hf.2⟩ h2) ?_
    obtain ⟨z5, h4, h⟩ := bv_s h
    refine SA.tr (ff_X11_putOnTape   ⟨hf.1, hf.2⟩ h4) ?_
    obtain ⟨z7, h6, h⟩ := bv_s h
    refine SA.tr (ff_X11_putOnTape   ⟨hf.1, hf.2⟩ h6) ?_
    obtain ⟨z9, h8, h⟩ := bv_s h
    refine SA.tr (ff_X11_putOnTape   ⟨hf.1, hf.2⟩ h8) ?_
    obtain ⟨z11, h10, h⟩ := bv_s h
    refine SA.tr (ff_X11_putOnTape   ⟨hf.1, hf.2⟩ h10) ?_
    cases h
    exact SA.rf
  · rw [if_neg c1] at h
    cases h
    exact SA.rf
theorem ff_X11_end {a k : Nat} {v1 : Int32} {z : St} {Rz : Int32 × St}  (hf : Nf_X11_end  a k) (h : fn_X11_end  v1 z = some Rz) : SA z Rz.2 a k := by
  unfold fn_X11_end at h
  rcases Decidable.em (v1 < 0) with c1 | c1
  · rw [if_pos c1] at h
    cases h
    exact SA.rf
  · rw [if_neg c1] at h
    rcases Decidable.em (v1 ≤ (z.1 0 1)) with c2 | c2
    · rw [if_pos c2] at h
      obtain ⟨z3, e_z3, h⟩ := nm_s h
      refine SA.tr (sa_I e_z3 hf) ?_
      cases h
      exact SA.rf
    · rw [if_neg c2] at h
      cases h
      exact SA.rf
theorem ff_X11_cake_47 {a k : Nat} (hf : Nf_X11_cake  a k) : ∀ (n : Nat) (v2 : Int32) (z : St)  (Rz : Int32 × St), fn_X11_cake_47   n v2 z = some Rz → SA z Rz.2 a k := by
  intro n
  induction n with
  | zero => intro v2 z  Rz h; cases h
  | succ n ih =>
    intro v2 z  Rz h
    rw [fn_X11_cake_47] at h
    rcases Decidable.em (3 ≤ v2) with c1 | c1
    · rw [if_pos c1] at h
      obtain ⟨z3, h2, h⟩ := bv_s h
      refine SA.tr (ff_X0_forget   ⟨hf.1, hf.2.1⟩ h2) ?_
      obtain ⟨z5, h4, h⟩ := bv_s h
      refine SA.tr (ff_X4_forget   hf.2.2.1 h4) ?_
      obtain ⟨z6, e_z6, h⟩ := nm_s h
      refine SA.tr (sa_I e_z6 hf.2.2.2.1) ?_
      cases h
      exact SA.rf
    · rw [if_neg c1] at h
      obtain ⟨g7, h⟩ := gd_s h
      obtain ⟨z8, e_z8, h⟩ := nm_s h
      refine SA.tr (sa_I e_z8 (fun q => hf.2.2.2.2.1 ⟨by rw [q.1]; exact (ke_17 k_61 (ix_lt g7)), q.2⟩)) ?_
      exact ih (v2 + 1) z8  _ h
theorem ff_X11_cake {a k : Nat}  {z : St} {Rz : Int32 × St}  (hf : Nf_X11_cake  a k) (h : fn_X11_cake   z = some Rz) : SA z Rz.2 a k := by
  unfold fn_X11_cake at h
  obtain ⟨r2, z3, h1, h⟩ := bd_s h
  refine SA.tr (ff_X6_readAll   ⟨hf.2.2.2.2.2.1, hf.2.2.2.2.2.2.1, hf.2.2.2.2.2.2.2.1, hf.2.2.2.2.2.2.2.2.1, hf.2.2.2.2.2.2.2.2.2.1, hf.2.2.2.2.2.2.2.2.2.2.1, hf.2.2.2.2.2.2.2.2.2.2.2.1, hf.2.2.2.2.2.2.2.2.2.2.2.2.1, hf.2.2.2.2.2.2.2.2.2.2.2.2.2.1, hf.2.2.2.2.2.2.2.2.2.2.2.2.2.2.1, hf.2.2.2.2.2.2.2.2.2.2.2.2.2.2.2.1, hf.2.2.2.2.2.2.2.2.2.2.2.2.2.2.2.2.1, hf.2.2.2.2.2.2.2.2.2.2.2.2.2.2.2.2.2.1, hf.2.2.2.2.2.2.2.2.2.2.2.2.2.2.2.2.2.2.1, hf.2.2.2.2.2.2.2.2.2.2.2.2.2.2.2.2.2.2.2.1, hf.2.2.2.2.2.2.2.2.2.2.2.2.2.2.2.2.2.2.2.2.1, hf.2.2.2.2.2.2.2.2.2.2.2.2.2.2.2.2.2.2.2.2.2.1, hf.2.2.2.2.2.2.2.2.2.2.2.2.2.2.2.2.2.2.2.2.2.2.1, hf.2.2.2.2.2.2.2.2.2.2.2.2.2.2.2.2.2.2.2.2.2.2.2.1, hf.2.2.2.2.2.2.2.2.2.2.2.2.2.2.2.2.2.2.2.2.2.2.2.2.1, hf.2.2.2.2.2.2.2.2.2.2.2.2.2.2.2.2.2.2.2.2.2.2.2.2.2.1, hf.2.2.2.2.2.2.2.2.2.2.2.2.2.2.2.2.2.2.2.2.2.2.2.2.2.2.1, hf.2.2.2.2.2.2.2.2.2.2.2.2.2.2.2.2.2.2.2.2.2.2.2.2.2.2.2.1, hf.2.2.2.2.2.2.2.2.2.2.2.2.2.2.2.2.2.2.2.2.2.2.2.2.2.2.2.2.1, hf.2.2.2.2.2.2.2.2.2.2.2.2.2.2.2.2.2.2.2.2.2.2.2.2.2.2.2.2.2.1, hf.2.2.2.2.2.2.2.2.2.2.2.2.2.2.2.2.2.2.2.2.2.2.2.2.2.2.2.2.2.2.1, hf.2.2.2.2.2.2.2.2.2.2.2.2.2.2.2.2.2.2.2.2.2.2.2.2.2.2.2.2.2.2.2.1, hf.2.2.2.2.2.2.2.2.2.2.2.2.2.2.2.2.2.2.2.2.2.2.2.2.2.2.2.2.2.2.2.2.1, hf.2.2.2.2.2.2.2.2.2.2.2.2.2.2.2.2.2.2.2.2.2.2.2.2.2.2.2.2.2.2.2.2.2.1, hf.2.2.2.2.2.2.2.2.2.2.2.2.2.2.2.2.2.2.2.2.2.2.2.2.2.2.2.2.2.2.2.2.2.2.1, hf.2.2.2.2.2.2.2.2.2.2.2.2.2.2.2.2.2.2.2.2.2.2.2.2.2.2.2.2.2.2.2.2.2.2.2.1, hf.2.2.2.2.2.2.2.2.2.2.2.2.2.2.2.2.2.2.2.2.2.2.2.2.2.2.2.2.2.2.2.2.2.2.2.2.1, hf.2.2.2.2.2.2.2.2.2.2.2.2.2.2.2.2.2.2.2.2.2.2.2.2.2.2.2.2.2.2.2.2.2.2.2.2.2.1⟩ h1) ?_
  obtain ⟨z4, e_z4, h⟩ := nm_s h
  refine SA.tr (sa_I e_z4 hf.2.2.2.2.2.2.2.2.2.2.2.2.2.2.2.2.2.2.2.2.2.2.2.2.2.2.2.2.2.2.2.2.2.2.2.2.2.2.1) ?_
  rcases Decidable.em (r2 = 0) with c5 | c5
  · rw [if_pos c5] at h
    cases h
    exact SA.rf
  · rw [if_neg c5] at h
    obtain ⟨z7, h6, h⟩ := bv_s h
    refine SA.tr (ff_X7_takeFrom  k_2 k_17 ⟨hf.2.2.2.2.2.2.2.2.2.2.2.2.2.2.2.2.2.2.2.2.2.2.2.2.2.2.2.2.2.2.2.2.2.2.2.2.2.2.2.1, hf.2.2.2.2.2.2.2.2.2.2.2.2.2.2.2.2.2.2.2.2.2.2.2.2.2.2.2.2.2.2.2.2.2.2.2.2.2.2.2.2.1, hf.2.2.2.2.2.2.2.2.2.2.2.2.2.2.2.2.2.2.2.2.2.2.2.2.2.2.2.2.2.2.2.2.2.2.2.2.2.2.2.2.2.1, hf.2.2.2.2.2.2.2.2.2.2.2.2.2.2.2.2.2.2.2.2.2.2.2.2.2.2.2.2.2.2.2.2.2.2.2.2.2.1, hf.2.2.2.2.2.2.2.2.2.2.2.2.2.2.2.2.2.2.2.2.2.2.2.2.2.2.2.2.2.2.2.2.2.2.2.2.2.2.2.2.2.2.1, hf.2.2.2.2.2.2.2.2.2.2.2.2.2.2.2.2.2.2.2.2.2.2.2.2.2.2.2.2.2.2.2.2.2.2.2.2.2.2.2.2.2.2.2.1, hf.2.2.2.2.2.2.2.2.2.2.2.2.2.2.2.2.2.2.2.2.2.2.2.2.2.2.2.2.2.2.2.2.2.2.2.2.2.2.2.2.2.2.2.2.1, hf.2.2.2.2.2.2.2.2.2.2.2.2.2.2.2.2.2.2.2.2.2.2.2.2.2.2.2.2.2.2.2.2.2.2.2.2.2.2.2.2.2.2.2.2.2.1, hf.2.2.2.2.2.2.2.2.2.2.2.2.2.2.2.2.2.2.2.2.2.2.2.2.2.2.2.2.2.2.2.2.2.2.2.2.2.2.2.2.2.2.2.2.2.2.1, hf.2.2.2.2.2.2.2.2.2.2.2.2.2.2.2.2.2.2.2.2.2.2.2.2.2.2.2.2.2.2.2.2.2.2.2.2.2.2.2.2.2.2.2.2.2.2.2.1, hf.2.2.2.2.2.2.2.2.2.2.2.2.2.2.2.2.2.2.2.2.2.2.2.2.2.2.2.2.2.2.2.2.2.2.2.2.2.2.2.2.2.2.2.2.2.2.2.2.1, hf.2.2.2.2.2.2.2.2.2.2.2.2.2.2.2.2.2.2.2.2.2.2.2.2.2.2.2.2.2.2.2.2.2.2.2.2.2.2.2.2.2.2.2.2.2.2.2.2.2.1, hf.2.2.2.2.2.2.2.2.2.2.2.2.2.2.2.2.2.2.2.2.2.2.2.2.2.2.2.2.2.2.2.2.2.2.2.2.2.2.2.2.2.2.2.2.2.2.2.2.2.2.1, hf.2.2.2.2.2.2.2.2.2.2.2.2.2.2.2.2.2.2.2.2.2.2.2.2.2.2.2.2.2.2.2.2.2.2.2.2.2.2.2.2.2.2.2.2.2.2.2.2.2.2.2.1, hf.2.2.2.2.2.2.2.2.2.2.2.2.2.2.2.2.2.2.2.2.2.2.2.2.2.2.2.2.2.2.2.2.2.2.2.2.2.2.2.2.2.2.2.2.2.2.2.2.2.2.2.2.1, hf.2.2.2.2.2.2.2.2.2.2.2.2.2.2.2.2.2.2.2.2.2.2.2.2.2.2.2.2.2.2.2.2.2.2.2.2.2.2.2.2.2.2.2.2.2.2.2.2.2.2.2.2.2.1, hf.2.2.2.2.2.2.2.2.2.2.2.2.2.2.2.2.2.2.2.2.2.2.2.2.2.2.2.2.2.2.2.2.2.2.2.2.2.2.2.2.2.2.2.2.2.2.2.2.2.2.2.2.2.2.1⟩ h6) ?_
    obtain ⟨z9, h8, h⟩ := bv_s h
    refine SA.tr (ff_X1_lay  k_34 k_2 ⟨hf.2.2.2.2.2.2.2.2.2.2.2.2.2.2.2.2.2.2.2.2.2.2.2.2.2.2.2.2.2.2.2.2.2.2.2.2.2.2.2.2.2.2.2.2.2.2.2.2.2.2.2.2.2.2.2.1, hf.2.2.2.2.2.2.2.2.2.2.2.2.2.2.2.2.2.2.2.2.2.2.2.2.2.2.2.2.2.2.2.2.2.2.2.2.2.2.2.2.2.2.2.2.2.2.2.2.2.2.2.2.2.2.2.2.1, hf.2.2.2.2.2.2.2.2.2.2.2.2.2.2.2.2.2.2.2.2.2.2.2.2.2.2.2.2.2.2.2.2.2.2.2.2.2.2.2.2.2.2.2.2.2.2.2.2.2.2.2.2.2.2.2.2.2.1, hf.2.2.2.2.2.2.2.2.2.2.2.2.2.2.2.2.2.2.2.2.2.2.2.2.2.2.2.2.2.2.2.2.2.2.2.2.2.2.2.2.2.2.2.2.2.2.2.2.2.2.2.2.2.2.2.2.2.2.1, hf.2.2.2.2.2.2.2.2.2.2.2.2.2.2.2.2.2.2.2.2.2.2.2.2.2.2.2.2.2.2.2.2.2.2.2.2.2.2.2.2.2.2.2.2.2.2.2.2.2.2.2.2.2.2.2.2.2.2.2.1, hf.2.2.2.2.2.2.2.2.2.2.2.2.2.2.2.2.2.2.2.2.2.2.2.2.2.2.2.2.2.2.2.2.2.2.2.2.2.2.2.2.2.2.2.2.2.2.2.2.2.2.2.2.2.2.2.2.2.2.2.2.1, hf.2.2.2.2.2.2.2.2.2.2.2.2.2.2.2.2.2.2.2.2.2.2.2.2.2.2.2.2.2.2.2.2.2.2.2.2.2.2.2.2.2.2.2.2.2.2.2.2.2.2.2.2.2.2.2.2.2.2.2.2.2.1, hf.2.2.2.2.2.2.2.2.2.2.2.2.2.2.2.2.2.2.2.2.2.2.2.2.2.2.2.2.2.2.2.2.2.2.2.2.2.2.2.2.2.2.2.2.2.2.2.2.2.2.2.2.2.2.2.2.2.2.2.2.2.2.1, hf.2.2.2.2.2.2.2.2.2.2.2.2.2.2.2.2.2.2.2.2.2.2.2.2.2.2.2.2.2.2.2.2.2.2.2.2.2.2.2.2.2.2.2.2.2.2.2.2.2.2.2.2.2.2.2.2.2.2.2.2.2.2.2.1, hf.2.2.2.2.2.2.2.2.2.2.2.2.2.2.2.2.2.2.2.2.2.2.2.2.2.2.2.2.2.2.2.2.2.2.2.2.2.2.2.2.2.2.2.2.2.2.2.2.2.2.2.2.2.2.2.2.2.2.2.2.2.2.2.2.1, hf.2.2.2.2.2.2.2.2.2.2.2.2.2.2.2.2.2.2.2.2.2.2.2.2.2.2.2.2.2.2.2.2.2.2.2.2.2.2.2.2.2.2.2.2.2.2.2.2.2.2.2.2.2.2.2.2.2.2.2.2.2.2.2.2.2⟩ h8) ?_
    exact ff_X11_cake_47  hf   fu 0 z9  _ h
theorem ff_X11_fault {a k : Nat} {v1 : Int32} {z : St} {Rz : Int32 × St}  (hf : Nf_X11_fault  a k) (h : fn_X11_fault  v1 z = some Rz) : SA z Rz.2 a k := by
  unfold fn_X11_fault at h
  by_cases c1 : v1 = 0
  · rw [if_pos c1] at h
    cases h
    exact SA.rf
  rw [if_neg c1] at h
  by_cases c2 : v1 = 1
  · rw [if_pos c2] at h
    cases h
    exact SA.rf
  rw [if_neg c2] at h
  cases h
  exact SA.rf
theorem ff_X11_piece {a k : Nat} {v1 : Int32} {v2 : Int32} {z : St} {Rz : Int32 × St}  (hf : Nf_X11_piece  a k) (h : fn_X11_piece  v1 v2 z = some Rz) : SA z Rz.2 a k := by
  unfold fn_X11_piece at h
  obtain ⟨r2, z3, h1, h⟩ := bd_s h
  refine SA.tr (ff_X1_isPiece  k_34 trivial h1) ?_
  rcases Decidable.em (r2 = 0) with c4 | c4
  · rw [if_pos c4] at h
    cases h
    exact SA.rf
  · rw [if_neg c4] at h
    obtain ⟨g5, h⟩ := gd_s h
    by_cases c6 : v2 = 0
    · rw [if_pos c6] at h
      cases h
      exact SA.rf
    rw [if_neg c6] at h
    by_cases c7 : v2 = 1
    · rw [if_pos c7] at h
      cases h
      exact SA.rf
    rw [if_neg c7] at h
    by_cases c8 : v2 = 2
    · rw [if_pos c8] at h
      cases h
      exact SA.rf
    rw [if_neg c8] at h
    by_cases c9 : v2 = 3
    · rw [if_pos c9] at h
      cases h
      exact SA.rf
    rw [if_neg c9] at h
    by_cases c10 : v2 = 4
    · rw [if_pos c10] at h
      cases h
      exact SA.rf
    rw [if_neg c10] at h
    by_cases c11 : v2 = 5
    · rw [if_pos c11] at h
      obtain ⟨r13, z14, h12, h⟩ := bd_s h
      refine SA.tr (ff_X7_areaOf  k_2 (ke_18 k_35 (ix_lt g5)) trivial h12) ?_
      cases h
      exact SA.rf
    rw [if_neg c11] at h
    by_cases c15 : v2 = 6
    · rw [if_pos c15] at h
      obtain ⟨r17, z18, h16, h⟩ := bd_s h
      refine SA.tr (ff_X7_icingOf  k_2 (ke_18 k_35 (ix_lt g5)) trivial h16) ?_
      cases h
      exact SA.rf
    rw [if_neg c15] at h
    by_cases c19 : v2 = 7
    · rw [if_pos c19] at h
      rcases Decidable.em ((z3.1 (35 + 1 + (Int32.toNatClampNeg v1)) 5) = 0) with c20 | c20
      · rw [if_pos c20] at h
        cases h
        exact SA.rf
      · rw [if_neg c20] at h
        cases h
        exact SA.rf
    rw [if_neg c19] at h
    by_cases c21 : v2 = 8
    · rw [if_pos c21] at h
      cases h
      exact SA.rf
    rw [if_neg c21] at h
    cases h
    exact SA.rf
theorem ff_X11_guest {a k : Nat} {v1 : Int32} {v2 : Int32} {z : St} {Rz : Int32 × St}  (hf : Nf_X11_guest  a k) (h : fn_X11_guest  v1 v2 z = some Rz) : SA z Rz.2 a k := by
  unfold fn_X11_guest at h
  obtain ⟨r2, z3, h1, h⟩ := bd_s h
  refine SA.tr (ff_X7_isGuest  k_2 trivial h1) ?_
  rcases Decidable.em (r2 = 0) with c4 | c4
  · rw [if_pos c4] at h
    cases h
    exact SA.rf
  · rw [if_neg c4] at h
    by_cases c5 : v2 = 0
    · rw [if_pos c5] at h
      obtain ⟨g6, h⟩ := gd_s h
      cases h
      exact SA.rf
    rw [if_neg c5] at h
    by_cases c7 : v2 = 1
    · rw [if_pos c7] at h
      obtain ⟨g8, h⟩ := gd_s h
      cases h
      exact SA.rf
    rw [if_neg c7] at h
    by_cases c9 : v2 = 2
    · rw [if_pos c9] at h
      obtain ⟨g10, h⟩ := gd_s h
      cases h
      exact SA.rf
    rw [if_neg c9] at h
    by_cases c11 : v2 = 3
    · rw [if_pos c11] at h
      obtain ⟨g12, h⟩ := gd_s h
      cases h
      exact SA.rf
    rw [if_neg c11] at h
    by_cases c13 : v2 = 4
    · rw [if_pos c13] at h
      obtain ⟨g14, h⟩ := gd_s h
      obtain ⟨r16, z17, h15, h⟩ := bd_s h
      refine SA.tr (ff_X10_ofPiece   ⟨hf.1, hf.2⟩ h15) ?_
      cases h
      exact SA.rf
    rw [if_neg c13] at h
    cases h
    exact SA.rf
theorem ff_X11_worth {a k : Nat} {v1 : Int32} {v2 : Int32} {z : St} {Rz : Int32 × St}  (hf : Nf_X11_worth  a k) (h : fn_X11_worth  v1 v2 z = some Rz) : SA z Rz.2 a k := by
  unfold fn_X11_worth at h
  obtain ⟨r2, z3, h1, h⟩ := bd_s h
  refine SA.tr (ff_X7_isGuest  k_2 trivial h1) ?_
  rcases Decidable.em (r2 = 0) with c4 | c4
  · rw [if_pos c4] at h
    cases h
    exact SA.rf
  · rw [if_neg c4] at h
    obtain ⟨r6, z7, h5, h⟩ := bd_s h
    refine SA.tr (ff_X10_ofPiece   ⟨hf.1, hf.2⟩ h5) ?_
    cases h
    exact SA.rf
theorem ff_X11_slip {a k : Nat} {v1 : Int32} {v2 : Int32} {v3 : Int32} {z : St} {Rz : Int32 × St}  (hf : Nf_X11_slip  a k) (h : fn_X11_slip  v1 v2 v3 z = some Rz) : SA z Rz.2 a k := by
  unfold fn_X11_slip at h
  obtain ⟨r2, z3, h1, h⟩ := bd_s h
  refine SA.tr (ff_X1_canSplit  k_34 trivial h1) ?_
  rcases Decidable.em (r2 = 0) with c4 | c4
  · rw [if_pos c4] at h
    cases h
    exact SA.rf
  · rw [if_neg c4] at h
    obtain ⟨r6, z7, h5, h⟩ := bd_s h
    refine SA.tr (ff_X10_slipOf   ⟨hf.1, hf.2⟩ h5) ?_
    cases h
    exact SA.rf
theorem ff_X11_cut {a k : Nat} {v1 : Int32} {v2 : Int32} {v3 : Int32} {z : St} {Rz : Int32 × St}  (hf : Nf_X11_cut  a k) (h : fn_X11_cut  v1 v2 v3 z = some Rz) : SA z Rz.2 a k := by
  unfold fn_X11_cut at h
  obtain ⟨r2, z3, h1, h⟩ := bd_s h
  refine SA.tr (ff_X1_canSplit  k_34 trivial h1) ?_
  rcases Decidable.em (r2 = 0) with c4 | c4
  · rw [if_pos c4] at h
    cases h
    exact SA.rf
  · rw [if_neg c4] at h
    obtain ⟨z6, h5, h⟩ := bv_s h
    refine SA.tr (ff_X0_perform   ⟨hf.1, hf.2.1, hf.2.2.1, hf.2.2.2.1, hf.2.2.2.2.1, hf.2.2.2.2.2.1, hf.2.2.2.2.2.2.1, hf.2.2.2.2.2.2.2.1, hf.2.2.2.2.2.2.2.2.1, hf.2.2.2.2.2.2.2.2.2.1, hf.2.2.2.2.2.2.2.2.2.2.1, hf.2.2.2.2.2.2.2.2.2.2.2.1, hf.2.2.2.2.2.2.2.2.2.2.2.2.1, hf.2.2.2.2.2.2.2.2.2.2.2.2.2.1, hf.2.2.2.2.2.2.2.2.2.2.2.2.2.2.1, hf.2.2.2.2.2.2.2.2.2.2.2.2.2.2.2.1, hf.2.2.2.2.2.2.2.2.2.2.2.2.2.2.2.2.1, hf.2.2.2.2.2.2.2.2.2.2.2.2.2.2.2.2.2.1, hf.2.2.2.2.2.2.2.2.2.2.2.2.2.2.2.2.2.2.1, hf.2.2.2.2.2.2.2.2.2.2.2.2.2.2.2.2.2.2.2.1, hf.2.2.2.2.2.2.2.2.2.2.2.2.2.2.2.2.2.2.2.2⟩ h5) ?_
    cases h
    exact SA.rf
theorem ff_X11_give {a k : Nat} {v1 : Int32} {v2 : Int32} {z : St} {Rz : Int32 × St}  (hf : Nf_X11_give  a k) (h : fn_X11_give  v1 v2 z = some Rz) : SA z Rz.2 a k := by
  unfold fn_X11_give at h
  obtain ⟨r2, z3, h1, h⟩ := bd_s h
  refine SA.tr (ff_X7_isGuest  k_2 trivial h1) ?_
  rcases Decidable.em (r2 = 0) with c4 | c4
  · rw [if_pos c4] at h
    cases h
    exact SA.rf
  · rw [if_neg c4] at h
    obtain ⟨r6, z7, h5, h⟩ := bd_s h
    refine SA.tr (ff_X1_isFree  k_34 trivial h5) ?_
    rcases Decidable.em (r6 = 0) with c8 | c8
    · rw [if_pos c8] at h
      cases h
      exact SA.rf
    · rw [if_neg c8] at h
      obtain ⟨g9, h⟩ := gd_s h
      rcases Decidable.em ((z7.1 60 (Int32.toNatClampNeg v2)) = (-1)) with c10 | c10
      · rw [if_pos c10] at h
        obtain ⟨z12, h11, h⟩ := bv_s h
        refine SA.tr (ff_X0_perform   ⟨hf.1, hf.2.1, hf.2.2.1, hf.2.2.2.1, hf.2.2.2.2.1, hf.2.2.2.2.2.1, hf.2.2.2.2.2.2.1, hf.2.2.2.2.2.2.2.1, hf.2.2.2.2.2.2.2.2.1, hf.2.2.2.2.2.2.2.2.2.1, hf.2.2.2.2.2.2.2.2.2.2.1, hf.2.2.2.2.2.2.2.2.2.2.2.1, hf.2.2.2.2.2.2.2.2.2.2.2.2.1, hf.2.2.2.2.2.2.2.2.2.2.2.2.2.1, hf.2.2.2.2.2.2.2.2.2.2.2.2.2.2.1, hf.2.2.2.2.2.2.2.2.2.2.2.2.2.2.2.1, hf.2.2.2.2.2.2.2.2.2.2.2.2.2.2.2.2.1, hf.2.2.2.2.2.2.2.2.2.2.2.2.2.2.2.2.2.1, hf.2.2.2.2.2.2.2.2.2.2.2.2.2.2.2.2.2.2.1, hf.2.2.2.2.2.2.2.2.2.2.2.2.2.2.2.2.2.2.2.1, hf.2.2.2.2.2.2.2.2.2.2.2.2.2.2.2.2.2.2.2.2⟩ h11) ?_
        obtain ⟨r14, z15, h13, h⟩ := bd_s h
        refine SA.tr (ff_X1_platesFilled  k_34 trivial h13) ?_
        cases h
        exact SA.rf
      · rw [if_neg c10] at h
        cases h
        exact SA.rf
theorem ff_X11_back {a k : Nat} {v1 : Int32} {z : St} {Rz : Int32 × St}  (hf : Nf_X11_back  a k) (h : fn_X11_back  v1 z = some Rz) : SA z Rz.2 a k := by
  unfold fn_X11_back at h
  obtain ⟨r2, z3, h1, h⟩ := bd_s h
  refine SA.tr (ff_X7_isGuest  k_2 trivial h1) ?_
  rcases Decidable.em (r2 = 0) with c4 | c4
  · rw [if_pos c4] at h
    cases h
    exact SA.rf
  · rw [if_neg c4] at h
    obtain ⟨g5, h⟩ := gd_s h
    rcases Decidable.em ((z3.1 60 (Int32.toNatClampNeg v1)) = (-1)) with c6 | c6
    · rw [if_pos c6] at h
      cases h
      exact SA.rf
    · rw [if_neg c6] at h
      obtain ⟨g7, h⟩ := gd_s h
      obtain ⟨v2_8, e_v2_8, h⟩ := nm_s h
      obtain ⟨z10, h9, h⟩ := bv_s h
      refine SA.tr (ff_X0_perform   ⟨hf.1, hf.2.1, hf.2.2.1, hf.2.2.2.1, hf.2.2.2.2.1, hf.2.2.2.2.2.1, hf.2.2.2.2.2.2.1, hf.2.2.2.2.2.2.2.1, hf.2.2.2.2.2.2.2.2.1, hf.2.2.2.2.2.2.2.2.2.1, hf.2.2.2.2.2.2.2.2.2.2.1, hf.2.2.2.2.2.2.2.2.2.2.2.1, hf.2.2.2.2.2.2.2.2.2.2.2.2.1, hf.2.2.2.2.2.2.2.2.2.2.2.2.2.1, hf.2.2.2.2.2.2.2.2.2.2.2.2.2.2.1, hf.2.2.2.2.2.2.2.2.2.2.2.2.2.2.2.1, hf.2.2.2.2.2.2.2.2.2.2.2.2.2.2.2.2.1, hf.2.2.2.2.2.2.2.2.2.2.2.2.2.2.2.2.2.1, hf.2.2.2.2.2.2.2.2.2.2.2.2.2.2.2.2.2.2.1, hf.2.2.2.2.2.2.2.2.2.2.2.2.2.2.2.2.2.2.2.1, hf.2.2.2.2.2.2.2.2.2.2.2.2.2.2.2.2.2.2.2.2⟩ h9) ?_
      cases h
      exact SA.rf
theorem ff_X11_areTwoGuests {a k : Nat} {v1 : Int32} {v2 : Int32} {z : St} {Rz : Int32 × St}  (hf : Nf_X11_areTwoGuests  a k) (h : fn_X11_areTwoGuests  v1 v2 z = some Rz) : SA z Rz.2 a k := by
  unfold fn_X11_areTwoGuests at h
  obtain ⟨r2, z3, h1, h⟩ := bd_s h
  refine SA.tr (ff_X7_isGuest  k_2 trivial h1) ?_
  rcases Decidable.em (r2 = 0) with c4 | c4
  · rw [if_pos c4] at h
    cases h
    exact SA.rf
  · rw [if_neg c4] at h
    obtain ⟨r6, z7, h5, h⟩ := bd_s h
    refine SA.tr (ff_X7_isGuest  k_2 trivial h5) ?_
    rcases Decidable.em (r6 = 0) with c8 | c8
    · rw [if_pos c8] at h
      cases h
      exact SA.rf
    · rw [if_neg c8] at h
      rcases Decidable.em (v1 = v2) with c9 | c9
      · rw [if_pos c9] at h
        cases h
        exact SA.rf
      · rw [if_neg c9] at h
        cases h
        exact SA.rf
theorem ff_X11_exchange {a k : Nat} {v1 : Int32} {v2 : Int32} {z : St} {Rz : Int32 × St}  (hf : Nf_X11_exchange  a k) (h : fn_X11_exchange  v1 v2 z = some Rz) : SA z Rz.2 a k := by
  unfold fn_X11_exchange at h
  obtain ⟨r2, z3, h1, h⟩ := bd_s h
  refine SA.tr (ff_X11_areTwoGuests   trivial h1) ?_
  rcases Decidable.em (r2 = 0) with c4 | c4
  · rw [if_pos c4] at h
    cases h
    exact SA.rf
  · rw [if_neg c4] at h
    obtain ⟨g5, h⟩ := gd_s h
    rcases Decidable.em ((z3.1 60 (Int32.toNatClampNeg v1)) = (-1)) with c6 | c6
    · rw [if_pos c6] at h
      cases h
      exact SA.rf
    · rw [if_neg c6] at h
      obtain ⟨g7, h⟩ := gd_s h
      rcases Decidable.em ((z3.1 60 (Int32.toNatClampNeg v2)) = (-1)) with c8 | c8
      · rw [if_pos c8] at h
        cases h
        exact SA.rf
      · rw [if_neg c8] at h
        obtain ⟨z10, h9, h⟩ := bv_s h
        refine SA.tr (ff_X0_perform   ⟨hf.1, hf.2.1, hf.2.2.1, hf.2.2.2.1, hf.2.2.2.2.1, hf.2.2.2.2.2.1, hf.2.2.2.2.2.2.1, hf.2.2.2.2.2.2.2.1, hf.2.2.2.2.2.2.2.2.1, hf.2.2.2.2.2.2.2.2.2.1, hf.2.2.2.2.2.2.2.2.2.2.1, hf.2.2.2.2.2.2.2.2.2.2.2.1, hf.2.2.2.2.2.2.2.2.2.2.2.2.1, hf.2.2.2.2.2.2.2.2.2.2.2.2.2.1, hf.2.2.2.2.2.2.2.2.2.2.2.2.2.2.1, hf.2.2.2.2.2.2.2.2.2.2.2.2.2.2.2.1, hf.2.2.2.2.2.2.2.2.2.2.2.2.2.2.2.2.1, hf.2.2.2.2.2.2.2.2.2.2.2.2.2.2.2.2.2.1, hf.2.2.2.2.2.2.2.2.2.2.2.2.2.2.2.2.2.2.1, hf.2.2.2.2.2.2.2.2.2.2.2.2.2.2.2.2.2.2.2.1, hf.2.2.2.2.2.2.2.2.2.2.2.2.2.2.2.2.2.2.2.2⟩ h9) ?_
        obtain ⟨g11, h⟩ := gd_s h
        cases h
        exact SA.rf
theorem ff_X11_undo {a k : Nat}  {z : St} {Rz : Int32 × St}  (hf : Nf_X11_undo  a k) (h : fn_X11_undo   z = some Rz) : SA z Rz.2 a k := by
  unfold fn_X11_undo at h
  obtain ⟨r2, z3, h1, h⟩ := bd_s h
  refine SA.tr (ff_X0_takeBack   ⟨hf.1, hf.2.1, hf.2.2.1, hf.2.2.2.1, hf.2.2.2.2.1, hf.2.2.2.2.2.1, hf.2.2.2.2.2.2.1, hf.2.2.2.2.2.2.2⟩ h1) ?_
  obtain ⟨g4, h⟩ := gd_s h
  cases h
  exact SA.rf
theorem ff_X11_redo {a k : Nat}  {z : St} {Rz : Int32 × St}  (hf : Nf_X11_redo  a k) (h : fn_X11_redo   z = some Rz) : SA z Rz.2 a k := by
  unfold fn_X11_redo at h
  obtain ⟨r2, z3, h1, h⟩ := bd_s h
  refine SA.tr (ff_X0_doAgain   ⟨hf.1, hf.2.1, hf.2.2.1, hf.2.2.2.1, hf.2.2.2.2.1, hf.2.2.2.2.2.1, hf.2.2.2.2.2.2.1, hf.2.2.2.2.2.2.2.1, hf.2.2.2.2.2.2.2.2.1, hf.2.2.2.2.2.2.2.2.2.1, hf.2.2.2.2.2.2.2.2.2.2.1, hf.2.2.2.2.2.2.2.2.2.2.2.1, hf.2.2.2.2.2.2.2.2.2.2.2.2.1, hf.2.2.2.2.2.2.2.2.2.2.2.2.2⟩ h1) ?_
  obtain ⟨g4, h⟩ := gd_s h
  cases h
  exact SA.rf
theorem ff_X11_feeds {a k : Nat} {v1 : Int32} {z : St} {Rz : Int32 × St}  (hf : Nf_X11_feeds  a k) (h : fn_X11_feeds  v1 z = some Rz) : SA z Rz.2 a k := by
  unfold fn_X11_feeds at h
  obtain ⟨r2, z3, h1, h⟩ := bd_s h
  refine SA.tr (ff_X7_isGuest  k_2 trivial h1) ?_
  rcases Decidable.em (r2 = 0) with c4 | c4
  · rw [if_pos c4] at h
    cases h
    exact SA.rf
  · rw [if_neg c4] at h
    obtain ⟨r6, z7, h5, h⟩ := bd_s h
    refine SA.tr (ff_X8_feeders   trivial h5) ?_
    cases h
    exact SA.rf
theorem ff_X11_served {a k : Nat}  {z : St} {Rz : Int32 × St}  (hf : Nf_X11_served  a k) (h : fn_X11_served   z = some Rz) : SA z Rz.2 a k := by
  unfold fn_X11_served at h
  obtain ⟨r2, z3, h1, h⟩ := bd_s h
  refine SA.tr (ff_X8_servedIf   ⟨hf.1, hf.2.1, hf.2.2⟩ h1) ?_
  cases h
  exact SA.rf
theorem ff_X11_next {a k : Nat} {v1 : Int32} {z : St} {Rz : Int32 × St}  (hf : Nf_X11_next  a k) (h : fn_X11_next  v1 z = some Rz) : SA z Rz.2 a k := by
  unfold fn_X11_next at h
  obtain ⟨r2, z3, h1, h⟩ := bd_s h
  refine SA.tr (ff_X8_findCut   ⟨hf.1, hf.2.1, hf.2.2.1, hf.2.2.2.1, hf.2.2.2.2.1, hf.2.2.2.2.2.1, hf.2.2.2.2.2.2⟩ h1) ?_
  rcases Decidable.em (r2 = 0) with c4 | c4
  · rw [if_pos c4] at h
    cases h
    exact SA.rf
  · rw [if_neg c4] at h
    by_cases c5 : v1 = 0
    · rw [if_pos c5] at h
      cases h
      exact SA.rf
    rw [if_neg c5] at h
    by_cases c6 : v1 = 1
    · rw [if_pos c6] at h
      cases h
      exact SA.rf
    rw [if_neg c6] at h
    by_cases c7 : v1 = 2
    · rw [if_pos c7] at h
      cases h
      exact SA.rf
    rw [if_neg c7] at h
    by_cases c8 : v1 = 3
    · rw [if_pos c8] at h
      cases h
      exact SA.rf
    rw [if_neg c8] at h
    cases h
    exact SA.rf
theorem ff_X11_room {a k : Nat} {v1 : Int32} {z : St} {Rz : Int32 × St}  (hf : Nf_X11_room  a k) (h : fn_X11_room  v1 z = some Rz) : SA z Rz.2 a k := by
  unfold fn_X11_room at h
  obtain ⟨r2, z3, h1, h⟩ := bd_s h
  refine SA.tr (ff_X7_isGuest  k_2 trivial h1) ?_
  rcases Decidable.em (r2 = 0) with c4 | c4
  · rw [if_pos c4] at h
    cases h
    exact SA.rf
  · rw [if_neg c4] at h
    obtain ⟨g5, h⟩ := gd_s h
    rcases Decidable.em ((z3.1 60 (Int32.toNatClampNeg v1)) = (-1)) with c6 | c6
    · rw [if_pos c6] at h
      obtain ⟨r8, z9, h7, h⟩ := bd_s h
      refine SA.tr (ff_X8_roomOf   ⟨hf.1, hf.2.1, hf.2.2⟩ h7) ?_
      cases h
      exact SA.rf
    · rw [if_neg c6] at h
      cases h
      exact SA.rf
theorem ff_X11_hungry_45 {a k : Nat} (hf : Nf_X11_hungry  a k) {k4 : Int32 → Int32 → St → Option (Int32 × St)} (hk_4 : ∀ (v1 : Int32) (v2 : Int32) (z : St)  (Rz : Int32 × St), k4 v1 v2 z = some Rz → SA z Rz.2 a k) (v1 : Int32) (v2 : Int32) (z : St)  {Rz : Int32 × St} (h : fn_X11_hungry_45  k4 v1 v2 z = some Rz) : SA z Rz.2 a k := by
  unfold fn_X11_hungry_45 at h
  exact hk_4 v1 (v2 + 1) z  _ h
theorem ff_X11_hungry_4 {a k : Nat} (hf : Nf_X11_hungry  a k) : ∀ (n : Nat) (v1 : Int32) (v2 : Int32) (z : St)  (Rz : Int32 × St), fn_X11_hungry_4   n v1 v2 z = some Rz → SA z Rz.2 a k := by
  intro n
  induction n with
  | zero => intro v1 v2 z  Rz h; cases h
  | succ n ih =>
    intro v1 v2 z  Rz h
    rw [fn_X11_hungry_4] at h
    rcases Decidable.em ((z.1 2 5) ≤ v2) with c1 | c1
    · rw [if_pos c1] at h
      cases h
      exact SA.rf
    · rw [if_neg c1] at h
      obtain ⟨g2, h⟩ := gd_s h
      rcases Decidable.em ((z.1 60 (Int32.toNatClampNeg v2)) = (-1)) with c3 | c3
      · rw [if_pos c3] at h
        obtain ⟨r5, z6, h4, h⟩ := bd_s h
        refine SA.tr (ff_X8_feeders   trivial h4) ?_
        rcases Decidable.em (r5 = 0) with c7 | c7
        · rw [if_pos c7] at h
          obtain ⟨v1_8, e_v1_8, h⟩ := nm_s h
          exact ff_X11_hungry_45  hf  ih v1_8 v2 z6  h
        · rw [if_neg c7] at h
          exact ff_X11_hungry_45  hf  ih v1 v2 z6  h
      · rw [if_neg c3] at h
        exact ff_X11_hungry_45  hf  ih v1 v2 z  h
theorem ff_X11_hungry {a k : Nat}  {z : St} {Rz : Int32 × St}  (hf : Nf_X11_hungry  a k) (h : fn_X11_hungry   z = some Rz) : SA z Rz.2 a k := by
  unfold fn_X11_hungry at h
  exact ff_X11_hungry_4  hf   fu 0 0 z  _ h
theorem ff_X11_law {a k : Nat} {v1 : Int32} {z : St} {Rz : Int32 × St}  (hf : Nf_X11_law  a k) (h : fn_X11_law  v1 z = some Rz) : SA z Rz.2 a k := by
  unfold fn_X11_law at h
  rcases Decidable.em (v1 < (-99)) with c1 | c1
  · rw [if_pos c1] at h
    cases h
    exact SA.rf
  · rw [if_neg c1] at h
    rcases Decidable.em (v1 ≤ 99) with c2 | c2
    · rw [if_pos c2] at h
      obtain ⟨r4, z5, h3, h⟩ := bd_s h
      refine SA.tr (ff_X8_servedIf   ⟨hf.1, hf.2.1, hf.2.2⟩ h3) ?_
      cases h
      exact SA.rf
    · rw [if_neg c2] at h
      cases h
      exact SA.rf
theorem ff_X11_envies {a k : Nat} {v1 : Int32} {z : St} {Rz : Int32 × St}  (hf : Nf_X11_envies  a k) (h : fn_X11_envies  v1 z = some Rz) : SA z Rz.2 a k := by
  unfold fn_X11_envies at h
  obtain ⟨r2, z3, h1, h⟩ := bd_s h
  refine SA.tr (ff_X7_isGuest  k_2 trivial h1) ?_
  rcases Decidable.em (r2 = 0) with c4 | c4
  · rw [if_pos c4] at h
    cases h
    exact SA.rf
  · rw [if_neg c4] at h
    obtain ⟨r6, z7, h5, h⟩ := bd_s h
    refine SA.tr (ff_X10_enviedBy   ⟨hf.1, hf.2⟩ h5) ?_
    cases h
    exact SA.rf
theorem ff_X11_quarrel_4 {a k : Nat} (hf : Nf_X11_quarrel  a k) : ∀ (n : Nat) (v1 : Int32) (v2 : Int32) (z : St)  (Rz : Int32 × St), fn_X11_quarrel_4   n v1 v2 z = some Rz → SA z Rz.2 a k := by
  intro n
  induction n with
  | zero => intro v1 v2 z  Rz h; cases h
  | succ n ih =>
    intro v1 v2 z  Rz h
    rw [fn_X11_quarrel_4] at h
    rcases Decidable.em ((z.1 2 5) ≤ v2) with c1 | c1
    · rw [if_pos c1] at h
      cases h
      exact SA.rf
    · rw [if_neg c1] at h
      obtain ⟨r3, z4, h2, h⟩ := bd_s h
      refine SA.tr (ff_X10_enviedBy   ⟨hf.1, hf.2⟩ h2) ?_
      obtain ⟨r6, z7, h5, h⟩ := bd_s h
      refine SA.tr (ff_J6_bitCount_0f7a4   trivial h5) ?_
      obtain ⟨v1_8, e_v1_8, h⟩ := nm_s h
      exact ih v1_8 (v2 + 1) z7  _ h
theorem ff_X11_quarrel {a k : Nat}  {z : St} {Rz : Int32 × St}  (hf : Nf_X11_quarrel  a k) (h : fn_X11_quarrel   z = some Rz) : SA z Rz.2 a k := by
  unfold fn_X11_quarrel at h
  exact ff_X11_quarrel_4  hf   fu 0 0 z  _ h
theorem ff_X11_calm {a k : Nat} {v1 : Int32} {z : St} {Rz : Int32 × St}  (hf : Nf_X11_calm  a k) (h : fn_X11_calm  v1 z = some Rz) : SA z Rz.2 a k := by
  unfold fn_X11_calm at h
  obtain ⟨r2, z3, h1, h⟩ := bd_s h
  refine SA.tr (ff_X10_findCalm   ⟨hf.1, hf.2.1, hf.2.2.1, hf.2.2.2.1, hf.2.2.2.2.1, hf.2.2.2.2.2⟩ h1) ?_
  rcases Decidable.em (r2 = 0) with c4 | c4
  · rw [if_pos c4] at h
    cases h
    exact SA.rf
  · rw [if_neg c4] at h
    by_cases c5 : v1 = 0
    · rw [if_pos c5] at h
      cases h
      exact SA.rf
    rw [if_neg c5] at h
    by_cases c6 : v1 = 1
    · rw [if_pos c6] at h
      cases h
      exact SA.rf
    rw [if_neg c6] at h
    by_cases c7 : v1 = 2
    · rw [if_pos c7] at h
      cases h
      exact SA.rf
    rw [if_neg c7] at h
    cases h
    exact SA.rf
theorem ff_X11_halve {a k : Nat} {v1 : Int32} {v2 : Int32} {v3 : Int32} {v4 : Int32} {z : St} {Rz : Int32 × St}  (hf : Nf_X11_halve  a k) (h : fn_X11_halve  v1 v2 v3 v4 z = some Rz) : SA z Rz.2 a k := by
  unfold fn_X11_halve at h
  obtain ⟨r2, z3, h1, h⟩ := bd_s h
  refine SA.tr (ff_X11_areTwoGuests   trivial h1) ?_
  rcases Decidable.em (r2 = 0) with c4 | c4
  · rw [if_pos c4] at h
    cases h
    exact SA.rf
  · rw [if_neg c4] at h
    obtain ⟨r6, z7, h5, h⟩ := bd_s h
    refine SA.tr (ff_X5_findHalves   ⟨hf.1, hf.2.1, hf.2.2.1, hf.2.2.2.1, hf.2.2.2.2.1, hf.2.2.2.2.2.1, hf.2.2.2.2.2.2.1, hf.2.2.2.2.2.2.2.1, hf.2.2.2.2.2.2.2.2.1, hf.2.2.2.2.2.2.2.2.2.1, hf.2.2.2.2.2.2.2.2.2.2.1, hf.2.2.2.2.2.2.2.2.2.2.2.1, hf.2.2.2.2.2.2.2.2.2.2.2.2.1, hf.2.2.2.2.2.2.2.2.2.2.2.2.2.1, hf.2.2.2.2.2.2.2.2.2.2.2.2.2.2.1, hf.2.2.2.2.2.2.2.2.2.2.2.2.2.2.2.1, hf.2.2.2.2.2.2.2.2.2.2.2.2.2.2.2.2.1, hf.2.2.2.2.2.2.2.2.2.2.2.2.2.2.2.2.2.1, hf.2.2.2.2.2.2.2.2.2.2.2.2.2.2.2.2.2.2.1, hf.2.2.2.2.2.2.2.2.2.2.2.2.2.2.2.2.2.2.2⟩ h5) ?_
    rcases Decidable.em (r6 = 0) with c8 | c8
    · rw [if_pos c8] at h
      cases h
      exact SA.rf
    · rw [if_neg c8] at h
      by_cases c9 : v4 = 0
      · rw [if_pos c9] at h
        cases h
        exact SA.rf
      rw [if_neg c9] at h
      by_cases c10 : v4 = 1
      · rw [if_pos c10] at h
        cases h
        exact SA.rf
      rw [if_neg c10] at h
      by_cases c11 : v4 = 2
      · rw [if_pos c11] at h
        cases h
        exact SA.rf
      rw [if_neg c11] at h
      cases h
      exact SA.rf
theorem ff_X11_share {a k : Nat} {v1 : Int32} {v2 : Int32} {v3 : Int32} {z : St} {Rz : Int32 × St}  (hf : Nf_X11_share  a k) (h : fn_X11_share  v1 v2 v3 z = some Rz) : SA z Rz.2 a k := by
  unfold fn_X11_share at h
  obtain ⟨r2, z3, h1, h⟩ := bd_s h
  refine SA.tr (ff_X11_areTwoGuests   trivial h1) ?_
  rcases Decidable.em (r2 = 0) with c4 | c4
  · rw [if_pos c4] at h
    cases h
    exact SA.rf
  · rw [if_neg c4] at h
    obtain ⟨r6, z7, h5, h⟩ := bd_s h
    refine SA.tr (ff_X5_findHalves   ⟨hf.1, hf.2.1, hf.2.2.1, hf.2.2.2.1, hf.2.2.2.2.1, hf.2.2.2.2.2.1, hf.2.2.2.2.2.2.1, hf.2.2.2.2.2.2.2.1, hf.2.2.2.2.2.2.2.2.1, hf.2.2.2.2.2.2.2.2.2.1, hf.2.2.2.2.2.2.2.2.2.2.1, hf.2.2.2.2.2.2.2.2.2.2.2.1, hf.2.2.2.2.2.2.2.2.2.2.2.2.1, hf.2.2.2.2.2.2.2.2.2.2.2.2.2.1, hf.2.2.2.2.2.2.2.2.2.2.2.2.2.2.1, hf.2.2.2.2.2.2.2.2.2.2.2.2.2.2.2.1, hf.2.2.2.2.2.2.2.2.2.2.2.2.2.2.2.2.1, hf.2.2.2.2.2.2.2.2.2.2.2.2.2.2.2.2.2.1, hf.2.2.2.2.2.2.2.2.2.2.2.2.2.2.2.2.2.2.1, hf.2.2.2.2.2.2.2.2.2.2.2.2.2.2.2.2.2.2.2⟩ h5) ?_
    rcases Decidable.em (r6 = 0) with c8 | c8
    · rw [if_pos c8] at h
      cases h
      exact SA.rf
    · rw [if_neg c8] at h
      cases h
      exact SA.rf
theorem ff_X11_picks {a k : Nat}  {z : St} {Rz : Int32 × St}  (hf : Nf_X11_picks  a k) (h : fn_X11_picks   z = some Rz) : SA z Rz.2 a k := by
  unfold fn_X11_picks at h
  obtain ⟨z1, e_z1, h⟩ := nm_s h
  refine SA.tr (sa_I e_z1 hf.1) ?_
  obtain ⟨r3, z4, h2, h⟩ := bd_s h
  refine SA.tr (ff_X5_pickByNumber  k_171 ⟨hf.2.1, hf.2.2.1, hf.2.2.2.1, hf.2.2.2.2.1, hf.2.2.2.2.2.1, hf.2.2.2.2.2.2.1, hf.2.2.2.2.2.2.2⟩ h2) ?_
  cases h
  exact SA.rf
theorem ff_X11_order {a k : Nat}  {z : St} {Rz : Int32 × St}  (hf : Nf_X11_order  a k) (h : fn_X11_order   z = some Rz) : SA z Rz.2 a k := by
  unfold fn_X11_order at h
  obtain ⟨r2, z3, h1, h⟩ := bd_s h
  refine SA.tr (ff_X5_findOrder  k_171 ⟨hf.1, hf.2.1, hf.2.2.1, hf.2.2.2.1, hf.2.2.2.2.1, hf.2.2.2.2.2.1, hf.2.2.2.2.2.2.1, hf.2.2.2.2.2.2.2.1, hf.2.2.2.2.2.2.2.2.1, hf.2.2.2.2.2.2.2.2.2.1⟩ h1) ?_
  obtain ⟨z4, e_z4, h⟩ := nm_s h
  refine SA.tr (sa_I e_z4 hf.2.2.2.2.2.2.2.2.2.2) ?_
  rcases Decidable.em ((z4.1 0 14) = 0) with c5 | c5
  · rw [if_pos c5] at h
    cases h
    exact SA.rf
  · rw [if_neg c5] at h
    cases h
    exact SA.rf
theorem ff_X11_best_74 {a k : Nat} (hf : Nf_X11_best  a k) {k20 : Int32 → Int32 → Int32 → Int32 → St → Option (Int32 × St)} (hk_20 : ∀ (v1 : Int32) (v2 : Int32) (v3 : Int32) (v4 : Int32) (z : St)  (Rz : Int32 × St), k20 v1 v2 v3 v4 z = some Rz → SA z Rz.2 a k) (v1 : Int32) (v2 : Int32) (v3 : Int32) (v4 : Int32) (z : St)  {Rz : Int32 × St} (h : fn_X11_best_74  k20 v1 v2 v3 v4 z = some Rz) : SA z Rz.2 a k := by
  unfold fn_X11_best_74 at h
  exact hk_20 v1 v2 v3 (v4 + 1) z  _ h
theorem ff_X11_best_68 {a k : Nat} (hf : Nf_X11_best  a k) {k20 : Int32 → Int32 → Int32 → Int32 → St → Option (Int32 × St)} (hk_20 : ∀ (v1 : Int32) (v2 : Int32) (v3 : Int32) (v4 : Int32) (z : St)  (Rz : Int32 × St), k20 v1 v2 v3 v4 z = some Rz → SA z Rz.2 a k) (v1 : Int32) (v4 : Int32) (v5 : Int32) (z : St)  {Rz : Int32 × St} (h : fn_X11_best_68  k20 v1 v4 v5 z = some Rz) : SA z Rz.2 a k := by
  unfold fn_X11_best_68 at h
  exact ff_X11_best_74  hf  hk_20 v1 v4 v5 v4 z  h
theorem ff_X11_best_20 {a k : Nat} (hf : Nf_X11_best  a k) : ∀ (n : Nat) (v1 : Int32) (v2 : Int32) (v3 : Int32) (v4 : Int32) (z : St)  (Rz : Int32 × St), fn_X11_best_20   n v1 v2 v3 v4 z = some Rz → SA z Rz.2 a k := by
  intro n
  induction n with
  | zero => intro v1 v2 v3 v4 z  Rz h; cases h
  | succ n ih =>
    intro v1 v2 v3 v4 z  Rz h
    rw [fn_X11_best_20] at h
    rcases Decidable.em ((z.1 34 2) ≤ v4) with c1 | c1
    · rw [if_pos c1] at h
      cases h
      exact SA.rf
    · rw [if_neg c1] at h
      obtain ⟨r3, z4, h2, h⟩ := bd_s h
      refine SA.tr (ff_X1_isFree  k_34 trivial h2) ?_
      rcases Decidable.em (r3 = 0) with c5 | c5
      · rw [if_pos c5] at h
        exact ff_X11_best_74  hf  ih v1 v2 v3 v4 z4  h
      · rw [if_neg c5] at h
        obtain ⟨r7, z8, h6, h⟩ := bd_s h
        refine SA.tr (ff_X10_ofPiece   ⟨hf.1, hf.2⟩ h6) ?_
        rcases Decidable.em (v2 = (-1)) with c9 | c9
        · rw [if_pos c9] at h
          exact ff_X11_best_68  hf  ih v1 v4 r7 z8  h
        · rw [if_neg c9] at h
          rcases Decidable.em (r7 ≤ v3) with c10 | c10
          · rw [if_pos c10] at h
            exact ff_X11_best_74  hf  ih v1 v2 v3 v4 z8  h
          · rw [if_neg c10] at h
            exact ff_X11_best_68  hf  ih v1 v4 r7 z8  h
theorem ff_X11_best {a k : Nat} {v1 : Int32} {z : St} {Rz : Int32 × St}  (hf : Nf_X11_best  a k) (h : fn_X11_best  v1 z = some Rz) : SA z Rz.2 a k := by
  unfold fn_X11_best at h
  obtain ⟨r2, z3, h1, h⟩ := bd_s h
  refine SA.tr (ff_X7_isGuest  k_2 trivial h1) ?_
  rcases Decidable.em (r2 = 0) with c4 | c4
  · rw [if_pos c4] at h
    cases h
    exact SA.rf
  · rw [if_neg c4] at h
    exact ff_X11_best_20  hf   fu v1 (-1) 0 0 z3  _ h
theorem ff_X11_lies {a k : Nat} {v1 : Int32} {z : St} {Rz : Int32 × St}  (hf : Nf_X11_lies  a k) (h : fn_X11_lies  v1 z = some Rz) : SA z Rz.2 a k := by
  unfold fn_X11_lies at h
  rcases Decidable.em (v1 < 0) with c1 | c1
  · rw [if_pos c1] at h
    cases h
    exact SA.rf
  · rw [if_neg c1] at h
    rcases Decidable.em ((z.1 0 14) ≤ v1) with c2 | c2
    · rw [if_pos c2] at h
      cases h
      exact SA.rf
    · rw [if_neg c2] at h
      rcases Decidable.em (v1 < 6) with c3 | c3
      · rw [if_pos c3] at h
        obtain ⟨g4, h⟩ := gd_s h
        cases h
        exact SA.rf
      · rw [if_neg c3] at h
        cases h
        exact SA.rf
theorem ff_X11_canBeAlike {a k : Nat} {v1 : Int32} {v2 : Int32} {z : St} {Rz : Int32 × St}  (hf : Nf_X11_canBeAlike  a k) (h : fn_X11_canBeAlike  v1 v2 z = some Rz) : SA z Rz.2 a k := by
  unfold fn_X11_canBeAlike at h
  obtain ⟨r2, z3, h1, h⟩ := bd_s h
  refine SA.tr (ff_X7_isTier  k_2 trivial h1) ?_
  rcases Decidable.em (r2 = 0) with c4 | c4
  · rw [if_pos c4] at h
    cases h
    exact SA.rf
  · rw [if_neg c4] at h
    rcases Decidable.em (v2 < 1) with c5 | c5
    · rw [if_pos c5] at h
      cases h
      exact SA.rf
    · rw [if_neg c5] at h
      rcases Decidable.em (64 < v2) with c6 | c6
      · rw [if_pos c6] at h
        cases h
        exact SA.rf
      · rw [if_neg c6] at h
        cases h
        exact SA.rf
theorem ff_X11_grid {a k : Nat} {v1 : Int32} {v2 : Int32} {v3 : Int32} {z : St} {Rz : Int32 × St}  (hf : Nf_X11_grid  a k) (h : fn_X11_grid  v1 v2 v3 z = some Rz) : SA z Rz.2 a k := by
  unfold fn_X11_grid at h
  obtain ⟨r2, z3, h1, h⟩ := bd_s h
  refine SA.tr (ff_X11_canBeAlike   trivial h1) ?_
  rcases Decidable.em (r2 = 0) with c4 | c4
  · rw [if_pos c4] at h
    cases h
    exact SA.rf
  · rw [if_neg c4] at h
    obtain ⟨g5, h⟩ := gd_s h
    obtain ⟨g6, h⟩ := gd_s h
    obtain ⟨r8, z9, h7, h⟩ := bd_s h
    refine SA.tr (ff_X3_search   ⟨hf.1, hf.2.1, hf.2.2.1, hf.2.2.2⟩ h7) ?_
    rcases Decidable.em (r8 = 0) with c10 | c10
    · rw [if_pos c10] at h
      cases h
      exact SA.rf
    · rw [if_neg c10] at h
      by_cases c11 : v3 = 0
      · rw [if_pos c11] at h
        cases h
        exact SA.rf
      rw [if_neg c11] at h
      by_cases c12 : v3 = 1
      · rw [if_pos c12] at h
        cases h
        exact SA.rf
      rw [if_neg c12] at h
      by_cases c13 : v3 = 2
      · rw [if_pos c13] at h
        cases h
        exact SA.rf
      rw [if_neg c13] at h
      by_cases c14 : v3 = 3
      · rw [if_pos c14] at h
        cases h
        exact SA.rf
      rw [if_neg c14] at h
      cases h
      exact SA.rf
theorem ff_X11_ways {a k : Nat} {v1 : Int32} {v2 : Int32} {z : St} {Rz : Int32 × St}  (hf : Nf_X11_ways  a k) (h : fn_X11_ways  v1 v2 z = some Rz) : SA z Rz.2 a k := by
  unfold fn_X11_ways at h
  obtain ⟨r2, z3, h1, h⟩ := bd_s h
  refine SA.tr (ff_X11_canBeAlike   trivial h1) ?_
  rcases Decidable.em (r2 = 0) with c4 | c4
  · rw [if_pos c4] at h
    cases h
    exact SA.rf
  · rw [if_neg c4] at h
    obtain ⟨g5, h⟩ := gd_s h
    obtain ⟨g6, h⟩ := gd_s h
    obtain ⟨r8, z9, h7, h⟩ := bd_s h
    refine SA.tr (ff_X3_search   ⟨hf.1, hf.2.1, hf.2.2.1, hf.2.2.2⟩ h7) ?_
    cases h
    exact SA.rf
theorem ff_X11_most_122 {a k : Nat} (hf : Nf_X11_most  a k) {k60 : Int32 → Int32 → Int32 → Int32 → Int32 → St → Option (Int32 × St)} (hk_60 : ∀ (v1 : Int32) (v2 : Int32) (v3 : Int32) (v4 : Int32) (v5 : Int32) (z : St)  (Rz : Int32 × St), k60 v1 v2 v3 v4 v5 z = some Rz → SA z Rz.2 a k) (v1 : Int32) (v2 : Int32) (v3 : Int32) (v4 : Int32) (v5 : Int32) (z : St)  {Rz : Int32 × St} (h : fn_X11_most_122  k60 v1 v2 v3 v4 v5 z = some Rz) : SA z Rz.2 a k := by
  unfold fn_X11_most_122 at h
  exact hk_60 v1 v2 v3 v4 (v5 + (-1)) z  _ h
theorem ff_X11_most_82 {a k : Nat} (hf : Nf_X11_most  a k) {k60 : Int32 → Int32 → Int32 → Int32 → Int32 → St → Option (Int32 × St)} (hk_60 : ∀ (v1 : Int32) (v2 : Int32) (v3 : Int32) (v4 : Int32) (v5 : Int32) (z : St)  (Rz : Int32 × St), k60 v1 v2 v3 v4 v5 z = some Rz → SA z Rz.2 a k) (v1 : Int32) (v2 : Int32) (v3 : Int32) (v4 : Int32) (v5 : Int32) (tv0 : Int32) (z : St)  {Rz : Int32 × St} (h : fn_X11_most_82  k60 v1 v2 v3 v4 v5 tv0 z = some Rz) : SA z Rz.2 a k := by
  unfold fn_X11_most_82 at h
  rcases Decidable.em (tv0 = 0) with c1 | c1
  · rw [if_pos c1] at h
    exact ff_X11_most_122  hf  hk_60 v1 v2 v3 v4 v5 z  h
  · rw [if_neg c1] at h
    obtain ⟨g2, h⟩ := gd_s h
    obtain ⟨g3, h⟩ := gd_s h
    obtain ⟨r5, z6, h4, h⟩ := bd_s h
    refine SA.tr (ff_X3_search   ⟨hf.1, hf.2.1, hf.2.2.1, hf.2.2.2⟩ h4) ?_
    rcases Decidable.em (r5 ≤ 0) with c7 | c7
    · rw [if_pos c7] at h
      exact ff_X11_most_122  hf  hk_60 v1 v2 v3 v4 v5 z6  h
    · rw [if_neg c7] at h
      cases h
      exact SA.rf
theorem ff_X11_most_60 {a k : Nat} (hf : Nf_X11_most  a k) : ∀ (n : Nat) (v1 : Int32) (v2 : Int32) (v3 : Int32) (v4 : Int32) (v5 : Int32) (z : St)  (Rz : Int32 × St), fn_X11_most_60   n v1 v2 v3 v4 v5 z = some Rz → SA z Rz.2 a k := by
  intro n
  induction n with
  | zero => intro v1 v2 v3 v4 v5 z  Rz h; cases h
  | succ n ih =>
    intro v1 v2 v3 v4 v5 z  Rz h
    rw [fn_X11_most_60] at h
    rcases Decidable.em (v5 < 1) with c1 | c1
    · rw [if_pos c1] at h
      cases h
      exact SA.rf
    · rw [if_neg c1] at h
      obtain ⟨g2, h⟩ := gd_s h
      rcases Decidable.em (((v4 / v5) * v3) < v2) with c3 | c3
      · rw [if_pos c3] at h
        exact ff_X11_most_82  hf  ih v1 v2 v3 v4 v5 0 z  h
      · rw [if_neg c3] at h
        exact ff_X11_most_82  hf  ih v1 v2 v3 v4 v5 1 z  h
theorem ff_X11_most {a k : Nat} {v1 : Int32} {v2 : Int32} {z : St} {Rz : Int32 × St}  (hf : Nf_X11_most  a k) (h : fn_X11_most  v1 v2 z = some Rz) : SA z Rz.2 a k := by
  unfold fn_X11_most at h
  obtain ⟨r2, z3, h1, h⟩ := bd_s h
  refine SA.tr (ff_X7_isTier  k_2 trivial h1) ?_
  rcases Decidable.em (r2 = 0) with c4 | c4
  · rw [if_pos c4] at h
    cases h
    exact SA.rf
  · rw [if_neg c4] at h
    rcases Decidable.em (v2 < 1) with c5 | c5
    · rw [if_pos c5] at h
      cases h
      exact SA.rf
    · rw [if_neg c5] at h
      rcases Decidable.em (v2 ≤ 999) with c6 | c6
      · rw [if_pos c6] at h
        obtain ⟨g7, h⟩ := gd_s h
        obtain ⟨v3_8, e_v3_8, h⟩ := nm_s h
        obtain ⟨g9, h⟩ := gd_s h
        obtain ⟨g10, h⟩ := gd_s h
        obtain ⟨v4_11, e_v4_11, h⟩ := nm_s h
        exact ff_X11_most_60  hf   fu v1 v2 v3_8 v4_11 v4_11 z3  _ h
      · rw [if_neg c6] at h
        cases h
        exact SA.rf
theorem ff_X11_where_3 {a k : Nat} (hf : Nf_X11_where  a k) : ∀ (n : Nat) (v1 : Int32) (v2 : Int32) (v3 : Int32) (v4 : Int32) (z : St)  (Rz : Int32 × St), fn_X11_where_3   n v1 v2 v3 v4 z = some Rz → SA z Rz.2 a k := by
  intro n
  induction n with
  | zero => intro v1 v2 v3 v4 z  Rz h; cases h
  | succ n ih =>
    intro v1 v2 v3 v4 z  Rz h
    rw [fn_X11_where_3] at h
    rcases Decidable.em ((z.1 34 2) ≤ v4) with c1 | c1
    · rw [if_pos c1] at h
      cases h
      exact SA.rf
    · rw [if_neg c1] at h
      obtain ⟨g2, h⟩ := gd_s h
      obtain ⟨r4, z5, h3, h⟩ := bd_s h
      refine SA.tr (ff_X9_holds  (ke_18 k_35 (ix_lt g2)) trivial h3) ?_
      rcases Decidable.em (r4 = 0) with c6 | c6
      · rw [if_pos c6] at h
        exact ih v1 v2 v3 (v4 + 1) z5  _ h
      · rw [if_neg c6] at h
        cases h
        exact SA.rf
theorem ff_X11_where {a k : Nat} {v1 : Int32} {v2 : Int32} {v3 : Int32} {z : St} {Rz : Int32 × St}  (hf : Nf_X11_where  a k) (h : fn_X11_where  v1 v2 v3 z = some Rz) : SA z Rz.2 a k := by
  unfold fn_X11_where at h
  exact ff_X11_where_3  hf   fu v1 v2 v3 0 z  _ h
theorem ff_X11_left_45 {a k : Nat} (hf : Nf_X11_left  a k) {k4 : Int32 → Int32 → St → Option (Int32 × St)} (hk_4 : ∀ (v1 : Int32) (v2 : Int32) (z : St)  (Rz : Int32 × St), k4 v1 v2 z = some Rz → SA z Rz.2 a k) (v1 : Int32) (v2 : Int32) (z : St)  {Rz : Int32 × St} (h : fn_X11_left_45  k4 v1 v2 z = some Rz) : SA z Rz.2 a k := by
  unfold fn_X11_left_45 at h
  exact hk_4 v1 (v2 + 1) z  _ h
theorem ff_X11_left_4 {a k : Nat} (hf : Nf_X11_left  a k) : ∀ (n : Nat) (v1 : Int32) (v2 : Int32) (z : St)  (Rz : Int32 × St), fn_X11_left_4   n v1 v2 z = some Rz → SA z Rz.2 a k := by
  intro n
  induction n with
  | zero => intro v1 v2 z  Rz h; cases h
  | succ n ih =>
    intro v1 v2 z  Rz h
    rw [fn_X11_left_4] at h
    rcases Decidable.em ((z.1 34 2) ≤ v2) with c1 | c1
    · rw [if_pos c1] at h
      cases h
      exact SA.rf
    · rw [if_neg c1] at h
      obtain ⟨r3, z4, h2, h⟩ := bd_s h
      refine SA.tr (ff_X1_isFree  k_34 trivial h2) ?_
      rcases Decidable.em (r3 = 0) with c5 | c5
      · rw [if_pos c5] at h
        exact ff_X11_left_45  hf  ih v1 v2 z4  h
      · rw [if_neg c5] at h
        obtain ⟨g6, h⟩ := gd_s h
        obtain ⟨r8, z9, h7, h⟩ := bd_s h
        refine SA.tr (ff_X7_areaOf  k_2 (ke_18 k_35 (ix_lt g6)) trivial h7) ?_
        obtain ⟨v1_10, e_v1_10, h⟩ := nm_s h
        exact ff_X11_left_45  hf  ih v1_10 v2 z9  h
theorem ff_X11_left {a k : Nat}  {z : St} {Rz : Int32 × St}  (hf : Nf_X11_left  a k) (h : fn_X11_left   z = some Rz) : SA z Rz.2 a k := by
  unfold fn_X11_left at h
  exact ff_X11_left_4  hf   fu 0 0 z  _ h
theorem ff_X11_iced_64 {a k : Nat} (hf : Nf_X11_iced  a k) {k16 : Int32 → Int32 → Int32 → St → Option (Int32 × St)} (hk_16 : ∀ (v1 : Int32) (v2 : Int32) (v3 : Int32) (z : St)  (Rz : Int32 × St), k16 v1 v2 v3 z = some Rz → SA z Rz.2 a k) (v1 : Int32) (v2 : Int32) (v3 : Int32) (z : St)  {Rz : Int32 × St} (h : fn_X11_iced_64  k16 v1 v2 v3 z = some Rz) : SA z Rz.2 a k := by
  unfold fn_X11_iced_64 at h
  exact hk_16 v1 v2 (v3 + 1) z  _ h
theorem ff_X11_iced_16 {a k : Nat} (hf : Nf_X11_iced  a k) : ∀ (n : Nat) (v1 : Int32) (v2 : Int32) (v3 : Int32) (z : St)  (Rz : Int32 × St), fn_X11_iced_16   n v1 v2 v3 z = some Rz → SA z Rz.2 a k := by
  intro n
  induction n with
  | zero => intro v1 v2 v3 z  Rz h; cases h
  | succ n ih =>
    intro v1 v2 v3 z  Rz h
    rw [fn_X11_iced_16] at h
    rcases Decidable.em ((z.1 34 2) ≤ v3) with c1 | c1
    · rw [if_pos c1] at h
      cases h
      exact SA.rf
    · rw [if_neg c1] at h
      obtain ⟨r3, z4, h2, h⟩ := bd_s h
      refine SA.tr (ff_X1_isFree  k_34 trivial h2) ?_
      rcases Decidable.em (r3 = 0) with c5 | c5
      · rw [if_pos c5] at h
        exact ff_X11_iced_64  hf  ih v1 v2 v3 z4  h
      · rw [if_neg c5] at h
        obtain ⟨g6, h⟩ := gd_s h
        obtain ⟨r8, z9, h7, h⟩ := bd_s h
        refine SA.tr (ff_X7_icingOf  k_2 (ke_18 k_35 (ix_lt g6)) trivial h7) ?_
        rcases Decidable.em (r8 < v1) with c10 | c10
        · rw [if_pos c10] at h
          exact ff_X11_iced_64  hf  ih v1 v2 v3 z9  h
        · rw [if_neg c10] at h
          obtain ⟨v2_11, e_v2_11, h⟩ := nm_s h
          exact ff_X11_iced_64  hf  ih v1 v2_11 v3 z9  h
theorem ff_X11_iced {a k : Nat} {v1 : Int32} {z : St} {Rz : Int32 × St}  (hf : Nf_X11_iced  a k) (h : fn_X11_iced  v1 z = some Rz) : SA z Rz.2 a k := by
  unfold fn_X11_iced at h
  rcases Decidable.em (v1 < 0) with c1 | c1
  · rw [if_pos c1] at h
    cases h
    exact SA.rf
  · rw [if_neg c1] at h
    rcases Decidable.em (v1 ≤ 32) with c2 | c2
    · rw [if_pos c2] at h
      exact ff_X11_iced_16  hf   fu v1 0 0 z  _ h
    · rw [if_neg c2] at h
      cases h
      exact SA.rf
theorem ff_X11_commonDivisor_7 {a k : Nat} (hf : Nf_X11_commonDivisor  a k) : ∀ (n : Nat) (v2 : Int32) (v3 : Int32) (v4 : Int32) (z : St)  (Rz : Int32 × St), fn_X11_commonDivisor_7   n v2 v3 v4 z = some Rz → SA z Rz.2 a k := by
  intro n
  induction n with
  | zero => intro v2 v3 v4 z  Rz h; cases h
  | succ n ih =>
    intro v2 v3 v4 z  Rz h
    rw [fn_X11_commonDivisor_7] at h
    rcases Decidable.em (64 ≤ v4) with c1 | c1
    · rw [if_pos c1] at h
      cases h
      exact SA.rf
    · rw [if_neg c1] at h
      rcases Decidable.em (v3 = 0) with c2 | c2
      · rw [if_pos c2] at h
        cases h
        exact SA.rf
      · rw [if_neg c2] at h
        obtain ⟨g3, h⟩ := gd_s h
        obtain ⟨v5_4, e_v5_4, h⟩ := nm_s h
        exact ih v3 v5_4 (v4 + 1) z  _ h
theorem ff_X11_commonDivisor {a k : Nat} {v0 : Int32} {v1 : Int32} {z : St} {Rz : Int32 × St}  (hf : Nf_X11_commonDivisor  a k) (h : fn_X11_commonDivisor  v0 v1 z = some Rz) : SA z Rz.2 a k := by
  unfold fn_X11_commonDivisor at h
  exact ff_X11_commonDivisor_7  hf   fu v0 v1 0 z  _ h
theorem ff_X11_come_86 {a k : Nat} (hf : Nf_X11_come  a k) {k44 : Int32 → Int32 → Int32 → Int32 → Int32 → St → Option (Int32 × St)} (hk_44 : ∀ (v1 : Int32) (v2 : Int32) (v3 : Int32) (v4 : Int32) (v5 : Int32) (z : St)  (Rz : Int32 × St), k44 v1 v2 v3 v4 v5 z = some Rz → SA z Rz.2 a k) (v1 : Int32) (v2 : Int32) (v3 : Int32) (v4 : Int32) (v5 : Int32) (z : St)  {Rz : Int32 × St} (h : fn_X11_come_86  k44 v1 v2 v3 v4 v5 z = some Rz) : SA z Rz.2 a k := by
  unfold fn_X11_come_86 at h
  exact hk_44 v1 v2 v3 v4 (v5 + 1) z  _ h
theorem ff_X11_come_44 {a k : Nat} (hf : Nf_X11_come  a k) : ∀ (n : Nat) (v1 : Int32) (v2 : Int32) (v3 : Int32) (v4 : Int32) (v5 : Int32) (z : St)  (Rz : Int32 × St), fn_X11_come_44   n v1 v2 v3 v4 v5 z = some Rz → SA z Rz.2 a k := by
  intro n
  induction n with
  | zero => intro v1 v2 v3 v4 v5 z  Rz h; cases h
  | succ n ih =>
    intro v1 v2 v3 v4 v5 z  Rz h
    rw [fn_X11_come_44] at h
    rcases Decidable.em ((z.1 2 5) ≤ v5) with c1 | c1
    · rw [if_pos c1] at h
      obtain ⟨r3, z4, h2, h⟩ := bd_s h
      refine SA.tr (ff_X11_commonDivisor   trivial h2) ?_
      rcases Decidable.em (r3 = 0) with c5 | c5
      · rw [if_pos c5] at h
        cases h
        exact SA.rf
      · rw [if_neg c5] at h
        rcases Decidable.em (v2 = 0) with c6 | c6
        · rw [if_pos c6] at h
          obtain ⟨g8, h⟩ := gd_s h
          cases h
          exact SA.rf
        · rw [if_neg c6] at h
          obtain ⟨g7, h⟩ := gd_s h
          cases h
          exact SA.rf
    · rw [if_neg c1] at h
      rcases Decidable.em (((v1 >>> (v5 &&& 31)) &&& 1) = 1) with c9 | c9
      · rw [if_pos c9] at h
        obtain ⟨g10, h⟩ := gd_s h
        obtain ⟨v3_11, e_v3_11, h⟩ := nm_s h
        obtain ⟨v4_12, e_v4_12, h⟩ := nm_s h
        exact ff_X11_come_86  hf  ih v1 v2 v3_11 v4_12 v5 z  h
      · rw [if_neg c9] at h
        exact ff_X11_come_86  hf  ih v1 v2 v3 v4 v5 z  h
theorem ff_X11_come {a k : Nat} {v1 : Int32} {v2 : Int32} {z : St} {Rz : Int32 × St}  (hf : Nf_X11_come  a k) (h : fn_X11_come  v1 v2 z = some Rz) : SA z Rz.2 a k := by
  unfold fn_X11_come at h
  rcases Decidable.em (v1 < 0) with c1 | c1
  · rw [if_pos c1] at h
    cases h
    exact SA.rf
  · rw [if_neg c1] at h
    rcases Decidable.em ((1 <<< ((z.1 2 5) &&& 31)) ≤ v1) with c2 | c2
    · rw [if_pos c2] at h
      cases h
      exact SA.rf
    · rw [if_neg c2] at h
      obtain ⟨r4, z5, h3, h⟩ := bd_s h
      refine SA.tr (ff_J6_bitCount_0f7a4   trivial h3) ?_
      rcases Decidable.em (4 < r4) with c6 | c6
      · rw [if_pos c6] at h
        cases h
        exact SA.rf
      · rw [if_neg c6] at h
        rcases Decidable.em (v2 < 0) with c7 | c7
        · rw [if_pos c7] at h
          cases h
          exact SA.rf
        · rw [if_neg c7] at h
          rcases Decidable.em (v2 ≤ 1) with c8 | c8
          · rw [if_pos c8] at h
            exact ff_X11_come_44  hf   fu v1 v2 1 1 0 z5  _ h
          · rw [if_neg c8] at h
            cases h
            exact SA.rf
theorem ff_X11_sized {a k : Nat} {v1 : Int32} {v2 : Int32} {z : St} {Rz : Int32 × St}  (hf : Nf_X11_sized  a k) (h : fn_X11_sized  v1 v2 z = some Rz) : SA z Rz.2 a k := by
  unfold fn_X11_sized at h
  rcases Decidable.em (v1 < 1) with c1 | c1
  · rw [if_pos c1] at h
    cases h
    exact SA.rf
  · rw [if_neg c1] at h
    rcases Decidable.em (v1 ≤ 64) with c2 | c2
    · rw [if_pos c2] at h
      obtain ⟨r4, z5, h3, h⟩ := bd_s h
      refine SA.tr (ff_X4_tell   ⟨hf.1, hf.2.1, hf.2.2.1, hf.2.2.2.1, hf.2.2.2.2.1, hf.2.2.2.2.2⟩ h3) ?_
      cases h
      exact SA.rf
    · rw [if_neg c2] at h
      cases h
      exact SA.rf
theorem ff_X11_rimmed {a k : Nat} {v1 : Int32} {v2 : Int32} {z : St} {Rz : Int32 × St}  (hf : Nf_X11_rimmed  a k) (h : fn_X11_rimmed  v1 v2 z = some Rz) : SA z Rz.2 a k := by
  unfold fn_X11_rimmed at h
  rcases Decidable.em (v1 < 0) with c1 | c1
  · rw [if_pos c1] at h
    cases h
    exact SA.rf
  · rw [if_neg c1] at h
    rcases Decidable.em (v1 ≤ 32) with c2 | c2
    · rw [if_pos c2] at h
      obtain ⟨r4, z5, h3, h⟩ := bd_s h
      refine SA.tr (ff_X4_tell   ⟨hf.1, hf.2.1, hf.2.2.1, hf.2.2.2.1, hf.2.2.2.2.1, hf.2.2.2.2.2⟩ h3) ?_
      cases h
      exact SA.rf
    · rw [if_neg c2] at h
      cases h
      exact SA.rf
theorem ff_X11_untell {a k : Nat} {v1 : Int32} {z : St} {Rz : Int32 × St}  (hf : Nf_X11_untell  a k) (h : fn_X11_untell  v1 z = some Rz) : SA z Rz.2 a k := by
  unfold fn_X11_untell at h
  obtain ⟨r2, z3, h1, h⟩ := bd_s h
  refine SA.tr (ff_X4_takeAway   hf h1) ?_
  obtain ⟨g4, h⟩ := gd_s h
  cases h
  exact SA.rf
theorem ff_X11_later {a k : Nat} {v1 : Int32} {z : St} {Rz : Int32 × St}  (hf : Nf_X11_later  a k) (h : fn_X11_later  v1 z = some Rz) : SA z Rz.2 a k := by
  unfold fn_X11_later at h
  obtain ⟨r2, z3, h1, h⟩ := bd_s h
  refine SA.tr (ff_X4_goOn   hf h1) ?_
  cases h
  exact SA.rf
theorem ff_X11_fits {a k : Nat} {v1 : Int32} {z : St} {Rz : Int32 × St}  (hf : Nf_X11_fits  a k) (h : fn_X11_fits  v1 z = some Rz) : SA z Rz.2 a k := by
  unfold fn_X11_fits at h
  obtain ⟨r2, z3, h1, h⟩ := bd_s h
  refine SA.tr (ff_X4_gather   ⟨hf.1, hf.2.1, hf.2.2.1, hf.2.2.2⟩ h1) ?_
  cases h
  exact SA.rf
theorem ff_X11_sure_47 {a k : Nat} (hf : Nf_X11_sure  a k) (tp1 : Nat) (z : St) (hkt1 : kd tp1 = 14) {Rz : Int32 × St} (h : fn_X11_sure_47   tp1 z = some Rz) : SA z Rz.2 a k := by
  unfold fn_X11_sure_47 at h
  obtain ⟨r2, z3, h1, h⟩ := bd_s h
  refine SA.tr (ff_X4_sameInAll  hkt1 trivial h1) ?_
  cases h
  exact SA.rf
theorem ff_X11_sure {a k : Nat} {v1 : Int32} {v2 : Int32} {z : St} {Rz : Int32 × St}  (hf : Nf_X11_sure  a k) (h : fn_X11_sure  v1 v2 z = some Rz) : SA z Rz.2 a k := by
  unfold fn_X11_sure at h
  rcases Decidable.em (v1 < 0) with c1 | c1
  · rw [if_pos c1] at h
    cases h
    exact SA.rf
  · rw [if_neg c1] at h
    rcases Decidable.em (1 < v1) with c2 | c2
    · rw [if_pos c2] at h
      cases h
      exact SA.rf
    · rw [if_neg c2] at h
      obtain ⟨r4, z5, h3, h⟩ := bd_s h
      refine SA.tr (ff_X4_gather   ⟨hf.1, hf.2.1, hf.2.2.1, hf.2.2.2⟩ h3) ?_
      rcases Decidable.em (r4 = 0) with c6 | c6
      · rw [if_pos c6] at h
        cases h
        exact SA.rf
      · rw [if_neg c6] at h
        rcases Decidable.em (v1 = 0) with c7 | c7
        · rw [if_pos c7] at h
          exact ff_X11_sure_47  hf   168 z5 k_168 h
        · rw [if_neg c7] at h
          exact ff_X11_sure_47  hf   169 z5 k_169 h
theorem ff_X11_ask {a k : Nat} {v1 : Int32} {v2 : Int32} {z : St} {Rz : Int32 × St}  (hf : Nf_X11_ask  a k) (h : fn_X11_ask  v1 v2 z = some Rz) : SA z Rz.2 a k := by
  unfold fn_X11_ask at h
  rcases Decidable.em (v1 < 0) with c1 | c1
  · rw [if_pos c1] at h
    cases h
    exact SA.rf
  · rw [if_neg c1] at h
    rcases Decidable.em (1 < v1) with c2 | c2
    · rw [if_pos c2] at h
      cases h
      exact SA.rf
    · rw [if_neg c2] at h
      obtain ⟨r4, z5, h3, h⟩ := bd_s h
      refine SA.tr (ff_X4_gather   ⟨hf.1, hf.2.1, hf.2.2.1, hf.2.2.2.1⟩ h3) ?_
      rcases Decidable.em (r4 = 0) with c6 | c6
      · rw [if_pos c6] at h
        cases h
        exact SA.rf
      · rw [if_neg c6] at h
        obtain ⟨z8, h7, h⟩ := bv_s h
        refine SA.tr (ff_X4_findQuestion   ⟨hf.2.2.2.2.1, hf.2.2.2.2.2⟩ h7) ?_
        rcases Decidable.em (v1 = 0) with c9 | c9
        · rw [if_pos c9] at h
          cases h
          exact SA.rf
        · rw [if_neg c9] at h
          cases h
          exact SA.rf
theorem ff_X11_image {a k : Nat} {v1 : Int32} {z : St} {Rz : Int32 × St}  (hf : Nf_X11_image  a k) (h : fn_X11_image  v1 z = some Rz) : SA z Rz.2 a k := by
  unfold fn_X11_image at h
  rcases Decidable.em (v1 < 0) with c1 | c1
  · rw [if_pos c1] at h
    cases h
    exact SA.rf
  · rw [if_neg c1] at h
    rcases Decidable.em (v1 < 3) with c2 | c2
    · rw [if_pos c2] at h
      obtain ⟨g3, h⟩ := gd_s h
      obtain ⟨z5, h4, h⟩ := bv_s h
      refine SA.tr (ff_X1_takeFrom  (ke_17 k_61 (ix_lt g3)) k_34 ⟨(fun q => hf.1 ⟨by rw [q.1]; exact (ke_17 k_61 (ix_lt g3)), q.2⟩), (fun q => hf.2.1 ⟨by rw [q.1]; exact (ke_17 k_61 (ix_lt g3)), q.2⟩), (fun q => hf.2.2.1 ⟨by rw [q.1]; exact (ke_17 k_61 (ix_lt g3)), q.2⟩), (fun q => hf.2.2.2.1 (by rw [q]; exact (kf_1_1 (ke_17 k_61 (ix_lt g3))))), hf.2.2.2.2.1, hf.2.2.2.2.2.1, hf.2.2.2.2.2.2.1, hf.2.2.2.2.2.2.2.1, hf.2.2.2.2.2.2.2.2.1, hf.2.2.2.2.2.2.2.2.2.1, hf.2.2.2.2.2.2.2.2.2.2.1⟩ h4) ?_
      obtain ⟨g6, h⟩ := gd_s h
      obtain ⟨z7, e_z7, h⟩ := nm_s h
      refine SA.tr (sa_I e_z7 (fun q => hf.2.2.2.2.2.2.2.2.2.2.2 ⟨by rw [q.1]; exact (ke_17 k_61 (ix_lt g6)), q.2⟩)) ?_
      cases h
      exact SA.rf
    · rw [if_neg c2] at h
      cases h
      exact SA.rf
theorem ff_X11_restore {a k : Nat} {v1 : Int32} {z : St} {Rz : Int32 × St}  (hf : Nf_X11_restore  a k) (h : fn_X11_restore  v1 z = some Rz) : SA z Rz.2 a k := by
  unfold fn_X11_restore at h
  rcases Decidable.em (v1 < 0) with c1 | c1
  · rw [if_pos c1] at h
    cases h
    exact SA.rf
  · rw [if_neg c1] at h
    rcases Decidable.em (3 ≤ v1) with c2 | c2
    · rw [if_pos c2] at h
      cases h
      exact SA.rf
    · rw [if_neg c2] at h
      obtain ⟨g3, h⟩ := gd_s h
      rcases Decidable.em ((z.1 (61 + 1 + 27 * (Int32.toNatClampNeg v1)) 5) = 0) with c4 | c4
      · rw [if_pos c4] at h
        cases h
        exact SA.rf
      · rw [if_neg c4] at h
        obtain ⟨g5, h⟩ := gd_s h
        obtain ⟨z7, h6, h⟩ := bv_s h
        refine SA.tr (ff_X1_takeFrom  k_34 (ke_17 k_61 (ix_lt g5)) ⟨hf.1, hf.2.1, hf.2.2.1, hf.2.2.2.1, hf.2.2.2.2.1, hf.2.2.2.2.2.1, hf.2.2.2.2.2.2.1, hf.2.2.2.2.2.2.2.1, hf.2.2.2.2.2.2.2.2.1, hf.2.2.2.2.2.2.2.2.2.1, hf.2.2.2.2.2.2.2.2.2.2.1⟩ h6) ?_
        obtain ⟨z9, h8, h⟩ := bv_s h
        refine SA.tr (ff_X0_forget   ⟨hf.2.2.2.2.2.2.2.2.2.2.2.1, hf.2.2.2.2.2.2.2.2.2.2.2.2⟩ h8) ?_
        cases h
        exact SA.rf
theorem ff_X11_about {a k : Nat} {v1 : Int32} {z : St} {Rz : Int32 × St}  (hf : Nf_X11_about  a k) (h : fn_X11_about  v1 z = some Rz) : SA z Rz.2 a k := by
  unfold fn_X11_about at h
  by_cases c1 : v1 = 0
  · rw [if_pos c1] at h
    cases h
    exact SA.rf
  rw [if_neg c1] at h
  by_cases c2 : v1 = 1
  · rw [if_pos c2] at h
    cases h
    exact SA.rf
  rw [if_neg c2] at h
  by_cases c3 : v1 = 2
  · rw [if_pos c3] at h
    cases h
    exact SA.rf
  rw [if_neg c3] at h
  by_cases c4 : v1 = 3
  · rw [if_pos c4] at h
    cases h
    exact SA.rf
  rw [if_neg c4] at h
  by_cases c5 : v1 = 4
  · rw [if_pos c5] at h
    cases h
    exact SA.rf
  rw [if_neg c5] at h
  by_cases c6 : v1 = 5
  · rw [if_pos c6] at h
    obtain ⟨r8, z9, h7, h⟩ := bd_s h
    refine SA.tr (ff_X1_brokenSet  k_34 trivial h7) ?_
    cases h
    exact SA.rf
  rw [if_neg c6] at h
  by_cases c10 : v1 = 6
  · rw [if_pos c10] at h
    cases h
    exact SA.rf
  rw [if_neg c10] at h
  by_cases c11 : v1 = 7
  · rw [if_pos c11] at h
    cases h
    exact SA.rf
  rw [if_neg c11] at h
  by_cases c12 : v1 = 8
  · rw [if_pos c12] at h
    cases h
    exact SA.rf
  rw [if_neg c12] at h
  by_cases c13 : v1 = 9
  · rw [if_pos c13] at h
    cases h
    exact SA.rf
  rw [if_neg c13] at h
  by_cases c14 : v1 = 10
  · rw [if_pos c14] at h
    cases h
    exact SA.rf
  rw [if_neg c14] at h
  by_cases c15 : v1 = 11
  · rw [if_pos c15] at h
    cases h
    exact SA.rf
  rw [if_neg c15] at h
  by_cases c16 : v1 = 12
  · rw [if_pos c16] at h
    cases h
    exact SA.rf
  rw [if_neg c16] at h
  cases h
  exact SA.rf
