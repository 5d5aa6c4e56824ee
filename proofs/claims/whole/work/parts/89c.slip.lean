section
variable {z w : St} {c : RC} {F0 F1 : FO} {b : BD} {n y k : Int}
abbrev cs (b : BD) (n y k : Int) : Prop := 0 ≤ n ∧ n < b 168 ∧ pc b n.toNat 6 = -1 ∧ b 168 < 24 ∧ ((y = 0 ∧ 1 ≤ k ∧ k < pc b n.toNat 3) ∨ (y = 1 ∧ 1 ≤ k ∧ k < pc b n.toNat 4))
theorem x_isFree (hC : VC c) {q : Nat} (hB : XB q z b) (hV : VB c b) (hn : -2147483648 ≤ n ∧ n < 2147483648) : fn_X1_isFree q (iI n) z = some (iI (tr (0 ≤ n ∧ n < b 168 ∧ pc b n.toNat 6 = -1)), z) := by
  by_cases h1 : 0 ≤ n ∧ n < b 168
  · rw [nn h1.1, x_isFreeP hC hB hV (by omega), tr_c (Q := 0 ≤ n ∧ n < b 168 ∧ pc b n.toNat 6 = -1) ⟨fun h => ⟨h1.1, h1.2, h⟩, fun h => h.2.2⟩]
  · rw [x_isFreeN hC hB hV hn h1, tr_n (fun h => h1 ⟨h.1, h.2.1⟩), q_0]
theorem x_isCut (hC : VC c) {q : Nat} (hB : XB q z b) (hV : VB c b) (hn : -2147483648 ≤ n ∧ n < 2147483648) : fn_X1_isCuttable q (iI n) z = some (iI (tr (0 ≤ n ∧ n < b 168 ∧ pc b n.toNat 6 = -1 ∧ b 168 < 24)), z) := by
  have h0 := hV.1
  unfold fn_X1_isCuttable
  rw [bd_o (x_isFree hC hB hV hn), hB.1, q_24]
  by_cases h1 : 0 ≤ n ∧ n < b 168 ∧ pc b n.toNat 6 = -1
  · rw [tr_1 h1, if_neg (by decide)]
    by_cases h2 : b 168 < 24
    · rw [if_neg (nle (by omega) (by omega) (by omega)), tr_1 ⟨h1.1, h1.2.1, h1.2.2, h2⟩, q_1]
    · rw [if_pos (yle (by omega) (by omega) (by omega)), tr_n (fun h => h2 h.2.2.2), q_0]
  · rw [tr_n h1, if_pos (show iI 0 = 0 from q_0.symm), tr_n (fun h => h1 ⟨h.1, h.2.1, h.2.2.1⟩), q_0]
theorem x_canSplit (hC : VC c) (hB : XB 34 z b) (hV : VB c b) (hn : -2147483648 ≤ n ∧ n < 2147483648) (hy : -2147483648 ≤ y ∧ y < 2147483648) (hk : -2147483648 ≤ k ∧ k < 2147483648) : fn_X1_canSplit 34 (iI n) (iI y) (iI k) z = some (iI (tr (cs b n y k)), z) := by
  unfold fn_X1_canSplit
  rw [bd_o (x_isCut hC hB hV hn)]
  by_cases h1 : 0 ≤ n ∧ n < b 168 ∧ pc b n.toNat 6 = -1 ∧ b 168 < 24
  · have hp : ((n.toNat : Nat) : Int) < b 168 := by omega
    have h24 := hV.n hp
    have hS := hB.2.2.2.1 _ hp
    have hs := (hV.2.2.1 _ hp).s hC
    have key : ∀ f : Nat, f = 3 ∨ f = 4 → (iI y = 0 ↔ f = 3) → fn_X1_canSplit_17 34 (iI n) (iI y) (iI k) z = some (iI (tr (1 ≤ k ∧ k < pc b n.toNat f)), z) := by
      intro f hf hy3
      have hpf : 1 ≤ pc b n.toNat f ∧ pc b n.toNat f ≤ 8 := by rcases hf with rfl | rfl <;> omega
      unfold fn_X1_canSplit_17
      by_cases g1 : k < 1
      · rw [if_pos (by rw [q_1]; exact ylt (by omega) (by omega) g1), tr_n (by omega), q_0]
      · rw [if_neg (by rw [q_1]; exact nlt (by omega) (by omega) g1), nn h1.1, gd_t (iI_ix (by omega)), iI_clampN (by omega)]
        have e9 : fn_X9_extent (34 + 1 + 1 + n.toNat) (iI y) z = some (iI (pc b n.toNat f), z) := by
          unfold fn_X9_extent
          rw [show 34 + 1 + 1 + n.toNat = 34 + 2 + n.toNat from rfl, hS 3 (by omega), hS 4 (by omega)]
          by_cases g : iI y = 0
          · rw [if_pos g, hy3.mp g]
          · rw [if_neg g, show f = 4 from hf.resolve_left (fun q => g (hy3.mpr q))]
        rw [bd_o e9]
        by_cases g2 : pc b n.toNat f ≤ k
        · rw [if_pos (yle (by omega) (by omega) g2), tr_n (by omega), q_0]
        · rw [if_neg (nle (by omega) (by omega) g2), tr_1 (by omega), q_1]
    rw [tr_1 h1, if_neg (by decide)]
    by_cases y0 : y = 0
    · rw [if_pos (by rw [y0]; rfl), key 3 (Or.inl rfl) ⟨fun _ => rfl, fun _ => by rw [y0]; rfl⟩]
      congr 3
      refine tr_c ⟨fun h => ⟨h1.1, h1.2.1, h1.2.2.1, h1.2.2.2, Or.inl ⟨y0, h.1, h.2⟩⟩, fun h => ?_⟩
      rcases h.2.2.2.2 with g | g
      · exact g.2
      · omega
    · have hy0 : ¬ iI y = 0 := by rw [q_0]; exact neq (by omega) (by omega) y0
      rw [if_neg hy0]
      by_cases y1 : y = 1
      · rw [if_pos (by rw [y1]; rfl), key 4 (Or.inr rfl) ⟨fun g => absurd g hy0, fun g => by omega⟩]
        congr 3
        refine tr_c ⟨fun h => ⟨h1.1, h1.2.1, h1.2.2.1, h1.2.2.2, Or.inr ⟨y1, h.1, h.2⟩⟩, fun h => ?_⟩
        rcases h.2.2.2.2 with g | g
        · omega
        · exact g.2
      · rw [if_neg (by rw [q_1]; exact neq (by omega) (by omega) y1), tr_n (by
          intro h
          rcases h.2.2.2.2 with g | g <;> omega), q_0]
  · rw [tr_n h1, if_pos (show iI 0 = 0 from q_0.symm), tr_n (fun h => h1 ⟨h.1, h.2.1, h.2.2.1, h.2.2.2.1⟩), q_0]
theorem m_canCut (hC : VC c) (hB : MB 198 0 z b) (hV : VB c b) (hn : -2147483648 ≤ n ∧ n < 2147483648) (hy : -2147483648 ≤ y ∧ y < 2147483648) (hk : -2147483648 ≤ k ∧ k < 2147483648) : fn_X12_canCut (iI n) (iI y) (iI k) z = some (iI (tr (cs b n y k)), z) := by
  have h0 := hV.1
  have e168 : z.1 198 168 = iI (b 168) := hB.1
  unfold fn_X12_canCut
  rw [c_168, e168]
  by_cases g1 : n < 0
  · rw [if_pos (by rw [q_0]; exact ylt (by omega) (by omega) g1), tr_n (fun h => by omega), q_0]
  · rw [if_neg (by rw [q_0]; exact nlt (by omega) (by omega) g1)]
    by_cases g2 : b 168 ≤ n
    · rw [if_pos (yle (by omega) (by omega) g2), tr_n (fun h => by omega), q_0]
    · rw [if_neg (nle (by omega) (by omega) g2)]
      by_cases g3 : 24 ≤ b 168
      · rw [if_pos (by rw [q_24]; exact yle (by omega) (by omega) g3), tr_n (fun h => by omega), q_0]
      · have hp : ((n.toNat : Nat) : Int) < b 168 := by omega
        have h24 := hV.n hp
        have hs := (hV.2.2.1 _ hp).s hC
        have e := hB.2.2.2 _ hp
        simp only [Nat.zero_add] at e
        rw [if_neg (by rw [q_24]; exact nle (by omega) (by omega) g3), bd_o (show fn_X12_isIn (iI y) 0 1 z = some (iI (tr (0 ≤ y ∧ y ≤ 1)), z) from by rw [q_0, q_1]; exact m_isIn hy (by omega) (by omega))]
        by_cases g4 : 0 ≤ y ∧ y ≤ 1
        · rw [tr_1 g4, if_neg (by decide), nn (show 0 ≤ n from by omega), bd_o (m_isFree hC hB hV hp)]
          by_cases g5 : pc b n.toNat 6 = -1
          · rw [tr_1 g5, if_neg (by decide)]
            unfold fn_X12_canCut_65
            by_cases y0 : y = 0
            · rw [if_pos (by rw [y0]; rfl), gd_t (x7_3 h24), c7_3 h24, e 3 (by omega), bd_o (show fn_X12_isIn (iI k) 1 (iI (pc b n.toNat 3) - 1) z = some (iI (tr (1 ≤ k ∧ k ≤ pc b n.toNat 3 - 1)), z) from by rw [q_1, iI_sub]; exact m_isIn hk (by omega) (by omega))]
              by_cases g6 : 1 ≤ k ∧ k ≤ pc b n.toNat 3 - 1
              · rw [tr_1 g6, if_neg (by decide), tr_1 ⟨by omega, by omega, g5, by omega, Or.inl ⟨y0, by omega, by omega⟩⟩, q_1]
              · rw [tr_n g6, if_pos (show iI 0 = 0 from q_0.symm), tr_n (fun h => by rcases h.2.2.2.2 with g | g <;> omega), q_0]
            · rw [if_neg (by rw [q_0]; exact neq (by omega) (by omega) y0), gd_t (x7_4 h24), c7_4 h24, e 4 (by omega), bd_o (show fn_X12_isIn (iI k) 1 (iI (pc b n.toNat 4) - 1) z = some (iI (tr (1 ≤ k ∧ k ≤ pc b n.toNat 4 - 1)), z) from by rw [q_1, iI_sub]; exact m_isIn hk (by omega) (by omega))]
              by_cases g6 : 1 ≤ k ∧ k ≤ pc b n.toNat 4 - 1
              · rw [tr_1 g6, if_neg (by decide), tr_1 ⟨by omega, by omega, g5, by omega, Or.inr ⟨by omega, by omega, by omega⟩⟩, q_1]
              · rw [tr_n g6, if_pos (show iI 0 = 0 from q_0.symm), tr_n (fun h => by rcases h.2.2.2.2 with g | g <;> omega), q_0]
          · rw [tr_n g5, if_pos (show iI 0 = 0 from q_0.symm), tr_n (fun h => g5 h.2.2.1), q_0]
        · rw [tr_n g4, if_pos (show iI 0 = 0 from q_0.symm), tr_n (fun h => by rcases h.2.2.2.2 with g | g <;> omega), q_0]
theorem clp_e (r : Int32) : (if 0 < (if r < 100 then r else 100) then (if r < 100 then r else 100) else 0) = clp r := by
  obtain ⟨n, rfl, hn⟩ := ii r
  unfold clp
  by_cases h1 : n < 100
  · rw [if_pos (show iI n < 100 from by rw [q_100]; exact ylt (by omega) (by omega) h1)]
    by_cases h2 : 0 ≤ n
    · rw [if_pos (show 0 ≤ iI n from by rw [q_0]; exact yle (by omega) (by omega) h2), if_pos (show iI n ≤ 100 from by rw [q_100]; exact yle (by omega) (by omega) (by omega))]
      by_cases h3 : n = 0
      · rw [h3, ← q_0]; rfl
      · rw [if_pos (show 0 < iI n from by rw [q_0]; exact ylt (by omega) (by omega) (by omega))]
    · rw [if_neg (show ¬ 0 ≤ iI n from by rw [q_0]; exact nle (by omega) (by omega) h2), if_neg (show ¬ 0 < iI n from by rw [q_0]; exact nlt (by omega) (by omega) (by omega))]
  · rw [if_neg (show ¬ iI n < 100 from by rw [q_100]; exact nlt (by omega) (by omega) h1), if_pos (show 0 ≤ iI n from by rw [q_0]; exact yle (by omega) (by omega) (by omega)), if_pos (by decide)]
    by_cases h3 : n = 100
    · rw [h3, ← q_100]; rfl
    · rw [if_neg (show ¬ iI n ≤ 100 from by rw [q_100]; exact nle (by omega) (by omega) (by omega))]
def al (b : BD) (n y : Int) : Int := if iI y = 0 then pc b n.toNat 4 else pc b n.toNat 3
theorem s_slip (u v x : Int32) (h : RD z c F0 F1 b) : Same (fn_X11_slip u v x) (fn_X12_slip u v x) z := by
  obtain ⟨n, rfl, hn⟩ := ii u
  obtain ⟨y, rfl, hy⟩ := ii v
  obtain ⟨k, rfl, hk⟩ := ii x
  have hV := h.vb
  have hC := h.vc
  refine qry (if cs b n y k then clp (so c F1 (pc b n.toNat) (al b n y) (b 169)) else -1) h (fun z h => ?_) (fun z w e a k h => ff_X11_slip (by unfold PS at h; show ¬ a = 144 ∧ ¬ a = 16; omega) e) (fun z h => ?_) (fun z w e a k h => ff_X12_slip (by unfold PS at h; show ¬ a = 198 ∧ ¬ a = 184 ∧ ¬ a = 182; omega) e)
  · unfold fn_X11_slip
    rw [bd_o (x_canSplit hC h.xb hV hn hy hk)]
    by_cases h1 : cs b n y k
    · obtain ⟨w, hw⟩ := x_slipOf (y := iI y) (p := n.toNat) h.xr hC h.xb hV h.xf1 h.vf1 (by have := h1.1; have := h1.2.1; omega)
      refine ⟨w, ?_⟩
      rw [tr_1 h1, if_neg (by decide), if_pos h1, nn h1.1, bd_o hw, clp_e]
      rfl
    · refine ⟨z, ?_⟩
      rw [tr_n h1, if_pos (show iI 0 = 0 from q_0.symm), if_neg h1]
  · unfold fn_X12_slip
    obtain ⟨-, -, -, hF, hR, hB, -, hX⟩ := h.ld
    rw [bv_o (m_load z), bd_o (m_canCut hC hB hV hn hy hk)]
    by_cases h1 : cs b n y k
    · obtain ⟨w, hw⟩ := m_slipOf (y := iI y) (p := n.toNat) hR hC hB hV hX hF (by have := h1.1; have := h1.2.1; omega)
      refine ⟨w, ?_⟩
      rw [tr_1 h1, if_neg (by decide), if_pos h1, nn h1.1, bd_o hw]
      rfl
    · refine ⟨ldz z, ?_⟩
      rw [tr_n h1, if_pos (show iI 0 = 0 from q_0.symm), if_neg h1]
end
