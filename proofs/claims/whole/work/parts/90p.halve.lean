section
variable {z w : St} {c : RC} {F0 F1 : FO} {b : BD}
theorem hvJ_np {n : Int} {g o : Nat} (h0 : 0 ≤ n) (h : ¬ n < b 168) : (hvJ c F0 b n.toNat g o 16).1 = -1 := by rw [hvJ_no fun j => canB_no (fun q => by omega) j]
theorem s_share (v1 v2 v3 : Int32) (h : RD z c F0 F1 b) : Same (fn_X11_share v1 v2 v3) (fn_X12_share v1 v2 v3) z := by
  obtain ⟨n, rfl, hn⟩ := ii v1
  obtain ⟨y, rfl, hy⟩ := ii v2
  obtain ⟨x, rfl, hx⟩ := ii v3
  have hC := h.vc
  generalize hS : hvJ c F0 b n.toNat y.toNat x.toNat 16 = S
  have hb := hvJ_b (c := c) (F0 := F0) (b := b) (p := n.toNat) (g := y.toNat) (o := x.toNat) 16
  rw [hS] at hb
  refine qry (if ((0 ≤ y ∧ y < c 6 1) ∧ (0 ≤ x ∧ x < c 6 1) ∧ y ≠ x) ∧ 0 ≤ n ∧ 0 ≤ S.1 then S.2.2 else -1000000000) h (fun z h => ?_) (fun z w e a k h => ff_X11_share (by unfold PS at h; show ¬ (a = 156 ∧ k = 14) ∧ ¬ (a = 156 ∧ k = 15) ∧ ¬ (a = 156 ∧ k = 12) ∧ ¬ (a = 156 ∧ k = 13) ∧ ¬ a = 144 ∧ ¬ a = 13 ∧ ¬ (a = 157 ∧ k = 0) ∧ ¬ (a = 157 ∧ k = 1) ∧ ¬ (a = 157 ∧ k = 2) ∧ ¬ (a = 157 ∧ k = 3) ∧ ¬ (a = 157 ∧ k = 4) ∧ ¬ (a = 157 ∧ k = 5) ∧ ¬ (a = 157 ∧ k = 6) ∧ ¬ (a = 158 ∧ k = 0) ∧ ¬ (a = 158 ∧ k = 1) ∧ ¬ (a = 158 ∧ k = 2) ∧ ¬ (a = 158 ∧ k = 3) ∧ ¬ (a = 158 ∧ k = 4) ∧ ¬ (a = 158 ∧ k = 5) ∧ ¬ (a = 158 ∧ k = 6); omega) e) (fun z h => ?_) (fun z w e a k h => ff_X12_share (by unfold PS at h; show ¬ (a = 172 ∧ k = 58) ∧ ¬ (a = 172 ∧ k = 59) ∧ ¬ (a = 172 ∧ k = 60) ∧ ¬ a = 184 ∧ ¬ a = 182 ∧ ¬ a = 198; omega) e)
  · unfold fn_X11_share
    rw [bd_o (x_two h.xr hC hy hx)]
    by_cases hG : (0 ≤ y ∧ y < c 6 1) ∧ (0 ≤ x ∧ x < c 6 1) ∧ y ≠ x
    · obtain ⟨u, e, i⟩ := x_findHalves (n := n) (g := y.toNat) (o := x.toNat) h.xs hn (by omega) (by omega)
      rw [hS] at e i
      rw [tr_1 hG, if_neg (show ¬ iI 1 = 0 from by decide), nn hG.1.1, nn hG.2.1.1, bd_o e]
      by_cases hs : 0 ≤ n ∧ 0 ≤ S.1
      · rw [tr_1 hs, if_neg (show ¬ iI 1 = 0 from by decide), if_pos ⟨hG, hs⟩]
        rcases i hs.1 with q | ⟨q1, q2, q3, q4, q5⟩
        · omega
        · exact ⟨u, by rw [q5]⟩
      · rw [tr_n hs, if_pos (show iI 0 = 0 from q_0.symm), if_neg (fun q => hs q.2)]
        exact ⟨u, rfl⟩
    · rw [tr_n hG, if_pos (show iI 0 = 0 from q_0.symm), if_neg (fun q => hG q.1)]
      exact ⟨z, rfl⟩
  · unfold fn_X12_share
    rw [bd_o (m_canHalve h hn hy hx)]
    by_cases hG : (0 ≤ n ∧ n < b 168) ∧ (0 ≤ y ∧ y < c 6 1) ∧ (0 ≤ x ∧ x < c 6 1) ∧ y ≠ x
    · obtain ⟨u, e, i1, i2⟩ := m_layHalve (p := n.toNat) (g := y.toNat) (o := x.toNat) h (by omega) (by omega) (by omega)
      rw [hS] at i1 i2
      rw [tr_1 hG, if_neg (show ¬ iI 1 = 0 from by decide), nn hG.1.1, nn hG.2.1.1, nn hG.2.2.1.1, bv_o e, i1]
      by_cases hs : 0 ≤ S.1
      · rw [if_pos (show 0 ≤ iI S.1 from by rw [q_0]; exact yle (by omega) (by omega) hs), if_pos ⟨hG.2, hG.1.1, hs⟩, (i2 hs).2]
        exact ⟨u, rfl⟩
      · rw [if_neg (show ¬ 0 ≤ iI S.1 from by rw [q_0]; exact nle (by omega) (by omega) hs), if_neg (fun q => hs q.2.2)]
        exact ⟨u, rfl⟩
    · rw [tr_n hG, if_pos (show iI 0 = 0 from q_0.symm), if_neg (fun q => by
        by_cases q1 : n < b 168
        · exact hG ⟨⟨q.2.1, q1⟩, q.1⟩
        · have := hvJ_np (c := c) (F0 := F0) (g := y.toNat) (o := x.toNat) q.2.1 q1
          rw [hS] at this
          omega)]
      exact ⟨z, rfl⟩
theorem s_halve (v1 v2 v3 v4 : Int32) (h : RD z c F0 F1 b) : Same (fn_X11_halve v1 v2 v3 v4) (fn_X12_halve v1 v2 v3 v4) z := by
  obtain ⟨n, rfl, hn⟩ := ii v1
  obtain ⟨y, rfl, hy⟩ := ii v2
  obtain ⟨x, rfl, hx⟩ := ii v3
  obtain ⟨t, rfl, ht⟩ := ii v4
  have hC := h.vc
  generalize hS : hvJ c F0 b n.toNat y.toNat x.toNat 16 = S
  have hb := hvJ_b (c := c) (F0 := F0) (b := b) (p := n.toNat) (g := y.toNat) (o := x.toNat) 16
  rw [hS] at hb
  refine qry (if ((0 ≤ y ∧ y < c 6 1) ∧ (0 ≤ x ∧ x < c 6 1) ∧ y ≠ x) ∧ 0 ≤ n ∧ 0 ≤ S.1 then (if t = 0 then iI (S.1 / 8) else if t = 1 then iI (S.1 % 8) else if t = 2 then iI S.2.1 else -1) else -1) h (fun z h => ?_) (fun z w e a k h => ff_X11_halve (by unfold PS at h; show ¬ (a = 156 ∧ k = 14) ∧ ¬ (a = 156 ∧ k = 15) ∧ ¬ (a = 156 ∧ k = 12) ∧ ¬ (a = 156 ∧ k = 13) ∧ ¬ a = 144 ∧ ¬ a = 13 ∧ ¬ (a = 157 ∧ k = 0) ∧ ¬ (a = 157 ∧ k = 1) ∧ ¬ (a = 157 ∧ k = 2) ∧ ¬ (a = 157 ∧ k = 3) ∧ ¬ (a = 157 ∧ k = 4) ∧ ¬ (a = 157 ∧ k = 5) ∧ ¬ (a = 157 ∧ k = 6) ∧ ¬ (a = 158 ∧ k = 0) ∧ ¬ (a = 158 ∧ k = 1) ∧ ¬ (a = 158 ∧ k = 2) ∧ ¬ (a = 158 ∧ k = 3) ∧ ¬ (a = 158 ∧ k = 4) ∧ ¬ (a = 158 ∧ k = 5) ∧ ¬ (a = 158 ∧ k = 6); omega) e) (fun z h => ?_) (fun z w e a k h => ff_X12_halve (by unfold PS at h; show ¬ (a = 172 ∧ k = 58) ∧ ¬ (a = 172 ∧ k = 59) ∧ ¬ (a = 172 ∧ k = 60) ∧ ¬ a = 184 ∧ ¬ a = 182 ∧ ¬ a = 198; omega) e)
  · unfold fn_X11_halve
    rw [bd_o (x_two h.xr hC hy hx)]
    by_cases hG : (0 ≤ y ∧ y < c 6 1) ∧ (0 ≤ x ∧ x < c 6 1) ∧ y ≠ x
    · obtain ⟨u, e, i⟩ := x_findHalves (n := n) (g := y.toNat) (o := x.toNat) h.xs hn (by omega) (by omega)
      rw [hS] at e i
      rw [tr_1 hG, if_neg (show ¬ iI 1 = 0 from by decide), nn hG.1.1, nn hG.2.1.1, bd_o e]
      by_cases hs : 0 ≤ n ∧ 0 ≤ S.1
      · rw [tr_1 hs, if_neg (show ¬ iI 1 = 0 from by decide), if_pos (show ((0 ≤ y ∧ y < c 6 1) ∧ (0 ≤ x ∧ x < c 6 1) ∧ y ≠ x) ∧ 0 ≤ n ∧ 0 ≤ S.1 from ⟨hG, hs⟩)]
        rcases i hs.1 with q | ⟨q1, q2, q3, q4, q5⟩
        · omega
        · rw [q2, q3, q4]
          refine ⟨u, ?_⟩
          by_cases t0 : t = 0
          · rw [if_pos (show iI t = 0 from by rw [t0]; exact q_0.symm), if_pos t0]
          · rw [if_neg (show ¬ iI t = 0 from i0_ne ht t0), if_neg t0]
            by_cases t1 : t = 1
            · rw [if_pos (show iI t = 1 from by rw [t1]; exact q_1.symm), if_pos t1]
            · rw [if_neg (show ¬ iI t = 1 from i1_ne ht t1), if_neg t1]
              by_cases t2 : t = 2
              · rw [if_pos (show iI t = 2 from by rw [t2]; exact q_2.symm), if_pos t2]
              · rw [if_neg (show ¬ iI t = 2 from by rw [q_2]; exact neq ht (by omega) t2), if_neg t2]
      · rw [tr_n hs, if_pos (show iI 0 = 0 from q_0.symm), if_neg (fun q => hs q.2)]
        exact ⟨u, rfl⟩
    · rw [tr_n hG, if_pos (show iI 0 = 0 from q_0.symm), if_neg (fun q => hG q.1)]
      exact ⟨z, rfl⟩
  · unfold fn_X12_halve
    rw [bd_o (m_canHalve h hn hy hx)]
    by_cases hG : (0 ≤ n ∧ n < b 168) ∧ (0 ≤ y ∧ y < c 6 1) ∧ (0 ≤ x ∧ x < c 6 1) ∧ y ≠ x
    · rw [tr_1 hG, if_neg (show ¬ iI 1 = 0 from by decide), bd_o (show fn_X12_isIn (iI t) 0 2 z = some (iI (tr (0 ≤ t ∧ t ≤ 2)), z) from by rw [q_0, q_2]; exact m_isIn ht (by omega) (by omega))]
      by_cases hT : 0 ≤ t ∧ t ≤ 2
      · obtain ⟨u, e, i1, i2⟩ := m_layHalve (p := n.toNat) (g := y.toNat) (o := x.toNat) h (by omega) (by omega) (by omega)
        rw [hS] at i1 i2
        rw [tr_1 hT, if_neg (show ¬ iI 1 = 0 from by decide), nn hG.1.1, nn hG.2.1.1, nn hG.2.2.1.1, bv_o e, i1]
        by_cases hs : 0 ≤ S.1
        · rw [if_pos (show 0 ≤ iI S.1 from by rw [q_0]; exact yle (by omega) (by omega) hs), if_pos (show ((0 ≤ y ∧ y < c 6 1) ∧ (0 ≤ x ∧ x < c 6 1) ∧ y ≠ x) ∧ 0 ≤ n ∧ 0 ≤ S.1 from ⟨hG.2, hG.1.1, hs⟩), (i2 hs).1, q_8, iI_mod (by omega) (by omega), iI_div (by omega) (by omega)]
          refine ⟨u, ?_⟩
          by_cases t0 : t = 0
          · rw [if_pos (show iI t = 0 from by rw [t0]; exact q_0.symm), if_pos t0]
          · rw [if_neg (show ¬ iI t = 0 from i0_ne ht t0), if_neg t0]
            by_cases t1 : t = 1
            · rw [if_pos (show iI t = 1 from by rw [t1]; exact q_1.symm), if_pos t1]
            · rw [if_neg (show ¬ iI t = 1 from i1_ne ht t1), if_neg t1, if_pos (show t = 2 from by omega)]
        · rw [if_neg (show ¬ 0 ≤ iI S.1 from by rw [q_0]; exact nle (by omega) (by omega) hs), if_neg (fun q => hs q.2.2)]
          exact ⟨u, rfl⟩
      · rw [tr_n hT, if_pos (show iI 0 = 0 from q_0.symm)]
        refine ⟨z, ?_⟩
        rw [if_neg (show ¬ t = 0 from by omega), if_neg (show ¬ t = 1 from by omega), if_neg (show ¬ t = 2 from by omega)]
        split <;> rfl
    · rw [tr_n hG, if_pos (show iI 0 = 0 from q_0.symm), if_neg (fun q => by
        by_cases q1 : n < b 168
        · exact hG ⟨⟨q.2.1, q1⟩, q.1⟩
        · have := hvJ_np (c := c) (F0 := F0) (g := y.toNat) (o := x.toNat) q.2.1 q1
          rw [hS] at this
          omega)]
      exact ⟨z, rfl⟩
end
