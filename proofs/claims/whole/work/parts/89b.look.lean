section
variable {z w : St} {c : RC} {F0 F1 : FO} {b : BD}
theorem nn {n : Int} (h : 0 ≤ n) : iI n = iI ((n.toNat : Nat) : Int) := by congr 1; omega
/-! piece -/
def spiece (c : RC) (b : BD) (n : Int) (v : Int32) : Int32 := if 0 ≤ n ∧ n < b 168 then (if v = 0 then iI (pc b n.toNat 0) else if v = 1 then iI (pc b n.toNat 1) else if v = 2 then iI (pc b n.toNat 2) else if v = 3 then iI (pc b n.toNat 3) else if v = 4 then iI (pc b n.toNat 4) else if v = 5 then iI (ar c (pc b n.toNat)) else if v = 6 then iI (ic c (pc b n.toNat)) else if v = 7 then iI (pc b n.toNat 5) else if v = 8 then iI (pc b n.toNat 6) else -2) else -2
theorem s_piece (u v : Int32) (h : RD z c F0 F1 b) : Same (fn_X11_piece u v) (fn_X12_piece u v) z := by
  obtain ⟨n, rfl, hn⟩ := ii u
  have hV := h.vb
  refine qry (spiece c b n v) h (fun z h => ⟨z, ?_⟩) (fun z w e a k h => ff_X11_piece (by trivial) e) (fun z h => ?_) (fun z w e a k h => ff_X12_piece (by unfold PS at h; show ¬ a = 198; omega) e)
  · unfold fn_X11_piece spiece
    rw [bd_o (x_isPiece h.xb hV hn)]
    by_cases h1 : 0 ≤ n ∧ n < b 168
    · have hp : ((n.toNat : Nat) : Int) < b 168 := by omega
      have h24 := hV.n hp
      have hS := h.xb.2.2.2.1 _ hp
      have h5 := (hV.2.2.1 _ hp).2.2.2.1
      have e5 : (if iI (pc b n.toNat 5) = 0 then some ((0 : Int32), z) else some (1, z)) = some (iI (pc b n.toNat 5), z) := by
        by_cases hq : pc b n.toNat 5 = 0
        · rw [hq, if_pos (show iI 0 = 0 from q_0.symm), q_0]
        · rw [show pc b n.toNat 5 = 1 from by omega, if_neg (by decide), q_1]
      rw [tr_1 h1, if_neg (by decide), if_pos h1, nn h1.1, gd_t (iI_ix (by omega)), iI_clampN (by omega), show 35 + 1 + n.toNat = 34 + 2 + n.toNat from by omega, hS 0 (by omega), hS 1 (by omega), hS 2 (by omega), hS 3 (by omega), hS 4 (by omega), hS 5 (by omega), hS 6 (by omega), bd_o (x_area h.xr h.vc hS (hV.2.2.1 _ hp)), bd_o (x_icing h.xr h.vc hS (hV.2.2.1 _ hp)), e5]
      repeat' split
      all_goals rfl
    · rw [tr_n h1, if_pos (show iI 0 = 0 from q_0.symm), if_neg h1]
  · unfold fn_X12_piece spiece
    rw [bd_o (m_isPiece h.mb hV hn)]
    by_cases h1 : 0 ≤ n ∧ n < b 168
    · have hp : ((n.toNat : Nat) : Int) < b 168 := by omega
      have h24 := hV.n hp
      obtain ⟨-, -, -, -, hR, hB, -, -⟩ := h.ld
      have e := hB.2.2.2 _ hp
      simp only [Nat.zero_add] at e
      refine ⟨ldz z, ?_⟩
      rw [tr_1 h1, if_neg (by decide), if_pos h1, nn h1.1, bv_o (m_load z), gd_t (x7_0 h24), gd_t (x7_1 h24), gd_t (x7_2 h24), gd_t (x7_3 h24), gd_t (x7_4 h24), gd_t (x7_5 h24), gd_t (x7_6 h24), c7_0 h24, c7_1 h24, c7_2 h24, c7_3 h24, c7_4 h24, c7_5 h24, c7_6 h24, show (ldz z).1 198 (7 * n.toNat) = iI (pc b n.toNat 0) from e 0 (by omega), e 1 (by omega), e 2 (by omega), e 3 (by omega), e 4 (by omega), e 5 (by omega), e 6 (by omega), bd_o (m_area hR h.vc hB hV hp), bd_o (m_icing hR h.vc hB hV hp)]
      repeat' split
      all_goals rfl
    · refine ⟨z, ?_⟩
      rw [tr_n h1, if_pos (show iI 0 = 0 from q_0.symm), if_neg h1]
/-! guest, worth -/
/-- what a guest's piece is worth to g -/
def wop (c : RC) (F0 : FO) (b : BD) (g : Nat) (p : Int) (o : Int32) : Int32 := if 0 ≤ p ∧ p < b 168 then wo c F0 (pc b p.toNat) (c 4 g) (b 169) else o
theorem x_wop {g : Nat} (h : RXs z c F0 F1 b) (hg : (g : Int) < c 6 1) {n : Int} (hn : -2147483648 ≤ n ∧ n < 2147483648) (o : Int32) : ∃ w, fn_X10_ofPiece (iI g) (iI n) o z = some (wop c F0 b g n o, w) := by
  obtain ⟨hC, hV, hF, -, hR, hB, hX, -⟩ := h
  unfold wop
  by_cases h1 : 0 ≤ n ∧ n < b 168
  · rw [if_pos h1, nn h1.1]
    exact x_ofPiece hR hC hB hV hX hF hg (by omega) o
  · rw [if_neg h1]
    exact ⟨z, x_ofPieceN hB hV hn h1 o⟩
def sguest (c : RC) (F0 : FO) (b : BD) (n : Int) (v : Int32) : Int32 := if 0 ≤ n ∧ n < c 6 1 then (if v = 0 then iI (c 3 n.toNat) else if v = 1 then iI (c 4 n.toNat) else if v = 2 then iI (c 5 n.toNat) else if v = 3 then iI (hp b n.toNat) else if v = 4 then wop c F0 b n.toNat (hp b n.toNat) 0 else -2) else -2
theorem s_guest (u v : Int32) (h : RD z c F0 F1 b) : Same (fn_X11_guest u v) (fn_X12_guest u v) z := by
  obtain ⟨n, rfl, hn⟩ := ii u
  have hV := h.vb
  have hC := h.vc
  refine qry (sguest c F0 b n v) h (fun z h => ?_) (fun z w e a k h => ff_X11_guest (by unfold PS at h; show ¬ a = 144 ∧ ¬ a = 13; omega) e) (fun z h => ?_) (fun z w e a k h => ff_X12_guest (by unfold PS at h; show ¬ a = 198 ∧ ¬ a = 184 ∧ ¬ a = 182; omega) e)
  · unfold fn_X11_guest sguest
    rw [bd_o (x_isGuest h.xr hC hn)]
    by_cases h1 : 0 ≤ n ∧ n < c 6 1
    · have hg : ((n.toNat : Nat) : Int) < c 6 1 := by omega
      have h6 := hC.g hg
      have hr := h.xr.2.2.2.2 _ hg
      have hb := hp_b hV n.toNat
      have hv := hV.1
      obtain ⟨w, hw⟩ := x_wop h.xs hg (n := hp b n.toNat) (by omega) 0
      rw [tr_1 h1, if_neg (by decide), if_pos h1, nn h1.1, gd_t (iI_ix (by omega)), gd_t (iI_ix (by omega)), gd_t (iI_ix (by omega)), gd_t (iI_ix (by omega)), gd_t (iI_ix (by omega)), iI_clampN (by omega), hr.1, hr.2.1, hr.2.2, show z.1 60 n.toNat = iI (hp b n.toNat) from h.xb.2.2.2.2 _ h6, bd_o hw]
      repeat' split
      all_goals exact ⟨_, rfl⟩
    · refine ⟨z, ?_⟩
      rw [tr_n h1, if_pos (show iI 0 = 0 from q_0.symm), if_neg h1]
  · unfold fn_X12_guest sguest
    rw [bd_o (m_isGuest h.mr hC hn)]
    by_cases h1 : 0 ≤ n ∧ n < c 6 1
    · have hg : ((n.toNat : Nat) : Int) < c 6 1 := by omega
      have h6 := hC.g hg
      obtain ⟨-, -, hF, -, hR, hB, hX, -⟩ := h.ld
      have hr := hR.2.2.2.2 _ hg
      have hb := hp_b hV n.toNat
      have hv := hV.1
      have e4 : ∃ w, (if 0 ≤ iI (hp b n.toNat) then bd (fn_X12_worthOf (iI (n.toNat : Int)) (iI (hp b n.toNat)) (ldz z)) (fun r20 z21 => some (r20, z21)) else some (0, ldz z)) = some (wop c F0 b n.toNat (hp b n.toNat) 0, w) := by
        unfold wop
        by_cases hq : 0 ≤ hp b n.toNat
        · obtain ⟨w, hw⟩ := m_worthOf (p := (hp b n.toNat).toNat) hR hC hB hV hX hF hg (by omega)
          refine ⟨w, ?_⟩
          rw [if_pos (by rw [q_0]; exact yle (by omega) (by omega) hq), if_pos (by omega), nn hq, bd_o hw]
        · refine ⟨ldz z, ?_⟩
          rw [if_neg (by rw [q_0]; exact nle (by omega) (by omega) hq), if_neg (by omega)]
      obtain ⟨w, hw⟩ := e4
      rw [tr_1 h1, if_neg (by decide), if_pos h1, nn h1.1, bv_o (m_load z), bd_o (m_pieceOf hC hB hV (by omega)), gd_t (iI_ix (by omega)), gd_t (iI_ix (by omega)), gd_t (iI_ix (by omega)), iI_clampN (by omega), hr.1, hr.2.1, hr.2.2, hw]
      repeat' split
      all_goals exact ⟨_, rfl⟩
    · refine ⟨z, ?_⟩
      rw [tr_n h1, if_pos (show iI 0 = 0 from q_0.symm), if_neg h1]
theorem s_worth (u v : Int32) (h : RD z c F0 F1 b) : Same (fn_X11_worth u v) (fn_X12_worth u v) z := by
  obtain ⟨n, rfl, hn⟩ := ii u
  obtain ⟨y, rfl, hy⟩ := ii v
  have hV := h.vb
  have hC := h.vc
  refine qry (if 0 ≤ n ∧ n < c 6 1 then wop c F0 b n.toNat y (-1000000000) else -1000000000) h (fun z h => ?_) (fun z w e a k h => ff_X11_worth (by unfold PS at h; show ¬ a = 144 ∧ ¬ a = 13; omega) e) (fun z h => ?_) (fun z w e a k h => ff_X12_worth (by unfold PS at h; show ¬ a = 198 ∧ ¬ a = 184 ∧ ¬ a = 182; omega) e)
  · unfold fn_X11_worth
    rw [bd_o (x_isGuest h.xr hC hn)]
    by_cases h1 : 0 ≤ n ∧ n < c 6 1
    · obtain ⟨w, hw⟩ := x_wop (g := n.toNat) h.xs (by omega) hy (-1000000000)
      refine ⟨w, ?_⟩
      rw [tr_1 h1, if_neg (by decide), if_pos h1, nn h1.1, bd_o hw]
    · refine ⟨z, ?_⟩
      rw [tr_n h1, if_pos (show iI 0 = 0 from q_0.symm), if_neg h1]
  · unfold fn_X12_worth
    rw [bd_o (m_isGuest h.mr hC hn)]
    by_cases h1 : 0 ≤ n ∧ n < c 6 1
    · rw [tr_1 h1, if_neg (by decide), if_pos h1, bd_o (m_isPiece h.mb hV hy)]
      unfold wop
      by_cases h2 : 0 ≤ y ∧ y < b 168
      · obtain ⟨-, -, hF, -, hR, hB, hX, -⟩ := h.ld
        obtain ⟨w, hw⟩ := m_worthOf (g := n.toNat) (p := y.toNat) hR hC hB hV hX hF (by omega) (by omega)
        refine ⟨w, ?_⟩
        rw [tr_1 h2, if_neg (by decide), if_pos h2, bv_o (m_load z), nn h1.1, nn h2.1, bd_o hw]
      · refine ⟨z, ?_⟩
        rw [tr_n h2, if_pos (show iI 0 = 0 from q_0.symm), if_neg h2]
    · refine ⟨z, ?_⟩
      rw [tr_n h1, if_pos (show iI 0 = 0 from q_0.symm), if_neg h1]
end
