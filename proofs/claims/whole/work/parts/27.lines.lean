def fn_X6_formulaLine (p1 : Nat) (z : St) : Option (St) := (if (z.1 p1 4) = 0 then bv (fn_X6_advance   z) (fun z3 => bv (fn_X2_begin  p1 z3) (fun z5 => bv ((rec6 12).1 p1 0 z5) (fun z7 => bv (fn_X6_expectSign  59 z7) (fun z9 => some z9)))) else bv (fn_X6_refuse   z) (fun z11 => some z11))
set_option maxHeartbeats 4000000 in
set_option maxRecDepth 100000 in
theorem m_X6_formulaLine {l : Launch} {G : wG} (hG : Ok G) {p1 : Nat} {z : St} {Rz : St} (hk1 : kd p1 = 2) (h : fn_X6_formulaLine  p1 z = some Rz) : Met l yX6_formulaLine (wsU yX6_formulaLine cX6_formulaLine 2 none) (rmd 107) (va_Pc [.ref (G.2.2 32), .ref (G.2.2 p1)] (Pre G z)) (va_Qv (fun u => u = Rz) (Pre G) (AW G)) 0 0 (AW G) := by
  refine Met.ofW (cc := cX6_formulaLine) (maxL := 2) (ret := none) (by decide) rfl ?_
  intro p e s m args below meth c s₁ B hml hv
  obtain ⟨rfl, hP, hK⟩ := hv
  have C : CX p s m ([.ref (G.2.2 32), .ref (G.2.2 p1)] : List Value).toArray meth c cX6_formulaLine 2 (wsU yX6_formulaLine cX6_formulaLine 2 none) RX6 none G := ⟨B.exec, B.bytes, hml, findClass_of_methodNamed B.named, atoms_spec (ws := (wsU yX6_formulaLine cX6_formulaLine 2 none)) B.pre, B.returns, B.notSynchronized, hK, hG⟩
  obtain ⟨hx, hb, -, hown, hts, hr, hlocks, -, -⟩ := id C
  have hS : va_S (AW G) s.heap s.heap [] := va_S.rf
  have hl := lv_entry [.ref (G.2.2 32), .ref (G.2.2 p1)] (n := 2) (Nat.le_of_ble_eq_true rfl)
  rw [lg_entry_eq]
  generalize (lg_sl [.ref (G.2.2 32), .ref (G.2.2 p1)] ++ List.replicate (2 - (lg_sl [.ref (G.2.2 32), .ref (G.2.2 p1)]).length) Slot.unset).toArray = ls at hl ⊢
  have hl : lv_has ls 2 [(0, .ref (G.2.2 32)), (1, .ref (G.2.2 p1))] := hl
  unfold fn_X6_formulaLine at h
  refine lv_aload_n hx hb dX6_formulaLine_0 rfl (lv_at hl 1 rfl) ?_
  refine ge_2_4 hx hb hts (inU inW_X2) hown hK hP hk1 (hts _ (List.mem_cons_of_mem _ lw_162)) dX6_formulaLine_1 ?_
  refine lv_if_eq (tgt := 12) hx hb dX6_formulaLine_4 (by decide) (fun c1 => ?_) (fun c1 => ?_)
  · rw [if_pos c1] at h
    refine lv_aload_n hx hb dX6_formulaLine_12 rfl (lv_at hl 0 rfl) ?_
    obtain ⟨z3, h2, h⟩ := bv_s h
    refine x_Vv (Rz := z3) (As := []) (rest := []) ⟨hx, hb, hml, hown, hts⟩ hK hP hS (kd_lt k_32 (by decide)) (cell_6 k_32) rfl (m_X6_advance hG   h2) (cwV 0 hts (gV lw_777 lw_779 lw_1 lw_112 lw_780) rfl rfl rfl (by decide +kernel) (rmd_ok (by decide) (by decide))) rfl hl.1 rfl (Nat.le_of_ble_eq_true rfl) dX6_formulaLine_13 ⟨Nat.le_refl _, Nat.le_refl _⟩ (fun H locs hP hS => ?_)
    refine lv_aload_n hx hb dX6_formulaLine_16 rfl (lv_at hl 1 rfl) ?_
    obtain ⟨z5, h4, h⟩ := bv_s h
    refine x_Vv (Rz := z5) (As := []) (rest := []) ⟨hx, hb, hml, hown, hts⟩ hK hP hS (kd_lt hk1 (by decide)) (cell_2 hk1) rfl (m_X2_begin hG  hk1 h4) (cwV 0 hts (gV lw_861 lw_862 lw_863 lw_111 lw_864) rfl rfl rfl (by decide +kernel) (rmd_ok (by decide) (by decide))) rfl hl.1 rfl (Nat.le_of_ble_eq_true rfl) dX6_formulaLine_17 ⟨Nat.le_refl _, Nat.le_refl _⟩ (fun H locs hP hS => ?_)
    refine lv_aload_n hx hb dX6_formulaLine_20 rfl (lv_at hl 0 rfl) ?_
    refine lv_aload_n hx hb dX6_formulaLine_21 rfl (lv_at hl 1 rfl) ?_
    refine lv_iconst (v := 0) hx hb dX6_formulaLine_22 (by decide) ?_
    obtain ⟨z7, h6, h⟩ := bv_s h
    refine x_Vv (Rz := z7) (As := [.ref (G.2.2 p1), .int 0]) (rest := []) ⟨hx, hb, hml, hown, hts⟩ hK hP hS (kd_lt k_32 (by decide)) (cell_6 k_32) rfl (m_rec6E hG hk1 h6) (cwV 2 hts (gV lw_865 lw_867 lw_17 lw_112 lw_868) rfl rfl rfl (by decide +kernel) (rmd_ok (by decide) (by decide))) rfl hl.1 rfl (Nat.le_of_ble_eq_true rfl) dX6_formulaLine_23 ⟨Nat.le_refl _, Nat.le_refl _⟩ (fun H locs hP hS => ?_)
    refine lv_aload_n hx hb dX6_formulaLine_26 rfl (lv_at hl 0 rfl) ?_
    refine lv_bipush (v := 59) hx hb dX6_formulaLine_27 (by decide) ?_
    obtain ⟨z9, h8, h⟩ := bv_s h
    refine x_Vv (Rz := z9) (As := [.int 59]) (rest := []) ⟨hx, hb, hml, hown, hts⟩ hK hP hS (kd_lt k_32 (by decide)) (cell_6 k_32) rfl (m_X6_expectSign hG   h8) (cwV 1 hts (gV lw_837 lw_839 lw_13 lw_112 lw_840) rfl rfl rfl (by decide +kernel) (rmd_ok (by decide) (by decide))) rfl hl.1 rfl (Nat.le_of_ble_eq_true rfl) dX6_formulaLine_29 ⟨Nat.le_refl _, Nat.le_refl _⟩ (fun H locs hP hS => ?_)
    exact x_vret hx hb hr hlocks hK hP hS h dX6_formulaLine_32
  · rw [if_neg c1] at h
    refine lv_aload_n hx hb dX6_formulaLine_7 rfl (lv_at hl 0 rfl) ?_
    obtain ⟨z11, h10, h⟩ := bv_s h
    refine x_Vv (Rz := z11) (As := []) (rest := []) ⟨hx, hb, hml, hown, hts⟩ hK hP hS (kd_lt k_32 (by decide)) (cell_6 k_32) rfl (m_X6_refuse hG   h10) (cwV 0 hts (gV lw_813 lw_815 lw_7 lw_112 lw_816) rfl rfl rfl (by decide +kernel) (rmd_ok (by decide) (by decide))) rfl hl.1 rfl (Nat.le_of_ble_eq_true rfl) dX6_formulaLine_8 ⟨Nat.le_refl _, Nat.le_refl _⟩ (fun H locs hP hS => ?_)
    exact x_vret hx hb hr hlocks hK hP hS h dX6_formulaLine_11
def fn_X6_line_16 (tv0 : Int32) (z : St) : Option (St) := (if tv0 = 0 then bv (fn_X6_tierLine   z) (fun z3 => some z3) else (if tv0 = 1 then bv (fn_X6_refuse   z) (fun z6 => some z6) else (if tv0 = 2 then bv (fn_X6_refuse   z) (fun z9 => some z9) else (if tv0 = 3 then bv (fn_X6_guestLine   z) (fun z12 => some z12) else (if tv0 = 4 then bv (fn_X6_refuse   z) (fun z15 => some z15) else (if tv0 = 5 then bv (fn_X6_refuse   z) (fun z18 => some z18) else (if tv0 = 6 then bv (fn_X6_refuse   z) (fun z21 => some z21) else (if tv0 = 7 then bv (fn_X6_formulaLine  26 z) (fun z24 => some z24) else (if tv0 = 8 then bv (fn_X6_formulaLine  29 z) (fun z27 => some z27) else (if tv0 = 9 then bv (fn_X6_paceLine   z) (fun z30 => some z30) else (if tv0 = 10 then bv (fn_X6_drawLine   z) (fun z33 => some z33) else (bv (fn_X6_refuse   z) (fun z35 => some z35)))))))))))))
set_option maxHeartbeats 4000000 in
set_option maxRecDepth 100000 in
theorem pf_X6_line_16 {p : Program} {l : Launch} {e : Env} {s : State} {m : MethodId} {args : Array Value} {below : List Frame} {meth : Method} {c : Code} {G : wG} (C : CX p s m args meth c cX6_line 1 (wsU yX6_line cX6_line 1 none) RX6 none G) {Rz : St} (tv0 : Int32) (z : St)  {H : Heap} {locs : List Loc} {ls : Array Slot} (hP : WP G z H) (hS : va_S (AW G) s.heap H locs) (hl : lv_has ls 1 [(0, .ref (G.2.2 32))]) (h : fn_X6_line_16   tv0 z = some Rz) : W p l e (rmd 108) s m args below meth c H locs 0 0 (QV below args s G Rz) (F0 m 16 ls [.int tv0]) := by
  obtain ⟨hx, hb, hml, hown, hts, hr, hlocks, hK, hG⟩ := id C
  unfold fn_X6_line_16 at h
  by_cases c1 : tv0 = 0
  · rw [if_pos c1] at h
    refine lv_tableIn (off := 60) (tgt := 76) hx hb dX6_line_16 (by rw [c1]; decide) (by rw [c1]; decide) (by rw [c1]; rfl) (by decide) ?_
    refine lv_aload_n hx hb dX6_line_76 rfl (lv_at hl 0 rfl) ?_
    obtain ⟨z3, h2, h⟩ := bv_s h
    refine x_Vv (Rz := z3) (As := []) (rest := []) ⟨hx, hb, hml, hown, hts⟩ hK hP hS (kd_lt k_32 (by decide)) (cell_6 k_32) rfl (m_X6_tierLine hG   h2) (cwV 0 hts (gV lw_809 lw_811 lw_6 lw_112 lw_812) rfl rfl rfl (by decide +kernel) (rmd_ok (by decide) (by decide))) rfl hl.1 rfl (Nat.le_of_ble_eq_true rfl) dX6_line_77 ⟨Nat.le_refl _, Nat.le_refl _⟩ (fun H locs hP hS => ?_)
    refine lv_goto (tgt := 136) hx hb dX6_line_80 (by decide) ?_
    exact x_vret hx hb hr hlocks hK hP hS h dX6_line_136
  rw [if_neg c1] at h
  by_cases c4 : tv0 = 1
  · rw [if_pos c4] at h
    refine lv_tableIn (off := 116) (tgt := 132) hx hb dX6_line_16 (by rw [c4]; decide) (by rw [c4]; decide) (by rw [c4]; rfl) (by decide) ?_
    refine lv_aload_n hx hb dX6_line_132 rfl (lv_at hl 0 rfl) ?_
    obtain ⟨z6, h5, h⟩ := bv_s h
    refine x_Vv (Rz := z6) (As := []) (rest := []) ⟨hx, hb, hml, hown, hts⟩ hK hP hS (kd_lt k_32 (by decide)) (cell_6 k_32) rfl (m_X6_refuse hG   h5) (cwV 0 hts (gV lw_813 lw_815 lw_7 lw_112 lw_816) rfl rfl rfl (by decide +kernel) (rmd_ok (by decide) (by decide))) rfl hl.1 rfl (Nat.le_of_ble_eq_true rfl) dX6_line_133 ⟨Nat.le_refl _, Nat.le_refl _⟩ (fun H locs hP hS => ?_)
    exact x_vret hx hb hr hlocks hK hP hS h dX6_line_136
  rw [if_neg c4] at h
  by_cases c7 : tv0 = 2
  · rw [if_pos c7] at h
    refine lv_tableIn (off := 116) (tgt := 132) hx hb dX6_line_16 (by rw [c7]; decide) (by rw [c7]; decide) (by rw [c7]; rfl) (by decide) ?_
    refine lv_aload_n hx hb dX6_line_132 rfl (lv_at hl 0 rfl) ?_
    obtain ⟨z9, h8, h⟩ := bv_s h
    refine x_Vv (Rz := z9) (As := []) (rest := []) ⟨hx, hb, hml, hown, hts⟩ hK hP hS (kd_lt k_32 (by decide)) (cell_6 k_32) rfl (m_X6_refuse hG   h8) (cwV 0 hts (gV lw_813 lw_815 lw_7 lw_112 lw_816) rfl rfl rfl (by decide +kernel) (rmd_ok (by decide) (by decide))) rfl hl.1 rfl (Nat.le_of_ble_eq_true rfl) dX6_line_133 ⟨Nat.le_refl _, Nat.le_refl _⟩ (fun H locs hP hS => ?_)
    exact x_vret hx hb hr hlocks hK hP hS h dX6_line_136
  rw [if_neg c7] at h
  by_cases c10 : tv0 = 3
  · rw [if_pos c10] at h
    refine lv_tableIn (off := 67) (tgt := 83) hx hb dX6_line_16 (by rw [c10]; decide) (by rw [c10]; decide) (by rw [c10]; rfl) (by decide) ?_
    refine lv_aload_n hx hb dX6_line_83 rfl (lv_at hl 0 rfl) ?_
    obtain ⟨z12, h11, h⟩ := bv_s h
    refine x_Vv (Rz := z12) (As := []) (rest := []) ⟨hx, hb, hml, hown, hts⟩ hK hP hS (kd_lt k_32 (by decide)) (cell_6 k_32) rfl (m_X6_guestLine hG   h11) (cwV 0 hts (gV lw_849 lw_851 lw_15 lw_112 lw_852) rfl rfl rfl (by decide +kernel) (rmd_ok (by decide) (by decide))) rfl hl.1 rfl (Nat.le_of_ble_eq_true rfl) dX6_line_84 ⟨Nat.le_refl _, Nat.le_refl _⟩ (fun H locs hP hS => ?_)
    refine lv_goto (tgt := 136) hx hb dX6_line_87 (by decide) ?_
    exact x_vret hx hb hr hlocks hK hP hS h dX6_line_136
  rw [if_neg c10] at h
  by_cases c13 : tv0 = 4
  · rw [if_pos c13] at h
    refine lv_tableIn (off := 116) (tgt := 132) hx hb dX6_line_16 (by rw [c13]; decide) (by rw [c13]; decide) (by rw [c13]; rfl) (by decide) ?_
    refine lv_aload_n hx hb dX6_line_132 rfl (lv_at hl 0 rfl) ?_
    obtain ⟨z15, h14, h⟩ := bv_s h
    refine x_Vv (Rz := z15) (As := []) (rest := []) ⟨hx, hb, hml, hown, hts⟩ hK hP hS (kd_lt k_32 (by decide)) (cell_6 k_32) rfl (m_X6_refuse hG   h14) (cwV 0 hts (gV lw_813 lw_815 lw_7 lw_112 lw_816) rfl rfl rfl (by decide +kernel) (rmd_ok (by decide) (by decide))) rfl hl.1 rfl (Nat.le_of_ble_eq_true rfl) dX6_line_133 ⟨Nat.le_refl _, Nat.le_refl _⟩ (fun H locs hP hS => ?_)
    exact x_vret hx hb hr hlocks hK hP hS h dX6_line_136
  rw [if_neg c13] at h
  by_cases c16 : tv0 = 5
  · rw [if_pos c16] at h
    refine lv_tableIn (off := 116) (tgt := 132) hx hb dX6_line_16 (by rw [c16]; decide) (by rw [c16]; decide) (by rw [c16]; rfl) (by decide) ?_
    refine lv_aload_n hx hb dX6_line_132 rfl (lv_at hl 0 rfl) ?_
    obtain ⟨z18, h17, h⟩ := bv_s h
    refine x_Vv (Rz := z18) (As := []) (rest := []) ⟨hx, hb, hml, hown, hts⟩ hK hP hS (kd_lt k_32 (by decide)) (cell_6 k_32) rfl (m_X6_refuse hG   h17) (cwV 0 hts (gV lw_813 lw_815 lw_7 lw_112 lw_816) rfl rfl rfl (by decide +kernel) (rmd_ok (by decide) (by decide))) rfl hl.1 rfl (Nat.le_of_ble_eq_true rfl) dX6_line_133 ⟨Nat.le_refl _, Nat.le_refl _⟩ (fun H locs hP hS => ?_)
    exact x_vret hx hb hr hlocks hK hP hS h dX6_line_136
  rw [if_neg c16] at h
  by_cases c19 : tv0 = 6
  · rw [if_pos c19] at h
    refine lv_tableIn (off := 116) (tgt := 132) hx hb dX6_line_16 (by rw [c19]; decide) (by rw [c19]; decide) (by rw [c19]; rfl) (by decide) ?_
    refine lv_aload_n hx hb dX6_line_132 rfl (lv_at hl 0 rfl) ?_
    obtain ⟨z21, h20, h⟩ := bv_s h
    refine x_Vv (Rz := z21) (As := []) (rest := []) ⟨hx, hb, hml, hown, hts⟩ hK hP hS (kd_lt k_32 (by decide)) (cell_6 k_32) rfl (m_X6_refuse hG   h20) (cwV 0 hts (gV lw_813 lw_815 lw_7 lw_112 lw_816) rfl rfl rfl (by decide +kernel) (rmd_ok (by decide) (by decide))) rfl hl.1 rfl (Nat.le_of_ble_eq_true rfl) dX6_line_133 ⟨Nat.le_refl _, Nat.le_refl _⟩ (fun H locs hP hS => ?_)
    exact x_vret hx hb hr hlocks hK hP hS h dX6_line_136
  rw [if_neg c19] at h
  by_cases c22 : tv0 = 7
  · rw [if_pos c22] at h
    refine lv_tableIn (off := 74) (tgt := 90) hx hb dX6_line_16 (by rw [c22]; decide) (by rw [c22]; decide) (by rw [c22]; rfl) (by decide) ?_
    refine lv_aload_n hx hb dX6_line_90 rfl (lv_at hl 0 rfl) ?_
    refine lv_aload_n hx hb dX6_line_91 rfl (lv_at hl 0 rfl) ?_
    refine ge_6_1 hx hb hts (inU inW_X6) hown hK hP k_32 (hts _ (List.mem_cons_of_mem _ lw_321)) dX6_line_92 ?_
    refine ge_7_10 hx hb hts (inU inW_X7) hown hK hP k_17 (hts _ (List.mem_cons_of_mem _ lw_212)) dX6_line_95 ?_
    obtain ⟨z24, h23, h⟩ := bv_s h
    refine x_Vv (Rz := z24) (As := [.ref (G.2.2 26)]) (rest := []) ⟨hx, hb, hml, hown, hts⟩ hK hP hS (kd_lt k_32 (by decide)) (cell_6 k_32) rfl (m_X6_formulaLine hG  k_26 h23) (cwV 1 hts (gV lw_857 lw_859 lw_16 lw_112 lw_860) rfl rfl rfl (by decide +kernel) (rmd_ok (by decide) (by decide))) rfl hl.1 rfl (Nat.le_of_ble_eq_true rfl) dX6_line_98 ⟨Nat.le_refl _, Nat.le_refl _⟩ (fun H locs hP hS => ?_)
    refine lv_goto (tgt := 136) hx hb dX6_line_101 (by decide) ?_
    exact x_vret hx hb hr hlocks hK hP hS h dX6_line_136
  rw [if_neg c22] at h
  by_cases c25 : tv0 = 8
  · rw [if_pos c25] at h
    refine lv_tableIn (off := 88) (tgt := 104) hx hb dX6_line_16 (by rw [c25]; decide) (by rw [c25]; decide) (by rw [c25]; rfl) (by decide) ?_
    refine lv_aload_n hx hb dX6_line_104 rfl (lv_at hl 0 rfl) ?_
    refine lv_aload_n hx hb dX6_line_105 rfl (lv_at hl 0 rfl) ?_
    refine ge_6_1 hx hb hts (inU inW_X6) hown hK hP k_32 (hts _ (List.mem_cons_of_mem _ lw_321)) dX6_line_106 ?_
    refine ge_7_11 hx hb hts (inU inW_X7) hown hK hP k_17 (hts _ (List.mem_cons_of_mem _ lw_215)) dX6_line_109 ?_
    obtain ⟨z27, h26, h⟩ := bv_s h
    refine x_Vv (Rz := z27) (As := [.ref (G.2.2 29)]) (rest := []) ⟨hx, hb, hml, hown, hts⟩ hK hP hS (kd_lt k_32 (by decide)) (cell_6 k_32) rfl (m_X6_formulaLine hG  k_29 h26) (cwV 1 hts (gV lw_857 lw_859 lw_16 lw_112 lw_860) rfl rfl rfl (by decide +kernel) (rmd_ok (by decide) (by decide))) rfl hl.1 rfl (Nat.le_of_ble_eq_true rfl) dX6_line_112 ⟨Nat.le_refl _, Nat.le_refl _⟩ (fun H locs hP hS => ?_)
    refine lv_goto (tgt := 136) hx hb dX6_line_115 (by decide) ?_
    exact x_vret hx hb hr hlocks hK hP hS h dX6_line_136
  rw [if_neg c25] at h
  by_cases c28 : tv0 = 9
  · rw [if_pos c28] at h
    refine lv_tableIn (off := 102) (tgt := 118) hx hb dX6_line_16 (by rw [c28]; decide) (by rw [c28]; decide) (by rw [c28]; rfl) (by decide) ?_
    refine lv_aload_n hx hb dX6_line_118 rfl (lv_at hl 0 rfl) ?_
    obtain ⟨z30, h29, h⟩ := bv_s h
    refine x_Vv (Rz := z30) (As := []) (rest := []) ⟨hx, hb, hml, hown, hts⟩ hK hP hS (kd_lt k_32 (by decide)) (cell_6 k_32) rfl (m_X6_paceLine hG   h29) (cwV 0 hts (gV lw_902 lw_904 lw_25 lw_112 lw_905) rfl rfl rfl (by decide +kernel) (rmd_ok (by decide) (by decide))) rfl hl.1 rfl (Nat.le_of_ble_eq_true rfl) dX6_line_119 ⟨Nat.le_refl _, Nat.le_refl _⟩ (fun H locs hP hS => ?_)
    refine lv_goto (tgt := 136) hx hb dX6_line_122 (by decide) ?_
    exact x_vret hx hb hr hlocks hK hP hS h dX6_line_136
  rw [if_neg c28] at h
  by_cases c31 : tv0 = 10
  · rw [if_pos c31] at h
    refine lv_tableIn (off := 109) (tgt := 125) hx hb dX6_line_16 (by rw [c31]; decide) (by rw [c31]; decide) (by rw [c31]; rfl) (by decide) ?_
    refine lv_aload_n hx hb dX6_line_125 rfl (lv_at hl 0 rfl) ?_
    obtain ⟨z33, h32, h⟩ := bv_s h
    refine x_Vv (Rz := z33) (As := []) (rest := []) ⟨hx, hb, hml, hown, hts⟩ hK hP hS (kd_lt k_32 (by decide)) (cell_6 k_32) rfl (m_X6_drawLine hG   h32) (cwV 0 hts (gV lw_906 lw_908 lw_26 lw_112 lw_909) rfl rfl rfl (by decide +kernel) (rmd_ok (by decide) (by decide))) rfl hl.1 rfl (Nat.le_of_ble_eq_true rfl) dX6_line_126 ⟨Nat.le_refl _, Nat.le_refl _⟩ (fun H locs hP hS => ?_)
    refine lv_goto (tgt := 136) hx hb dX6_line_129 (by decide) ?_
    exact x_vret hx hb hr hlocks hK hP hS h dX6_line_136
  rw [if_neg c31] at h
  have n36 : (tv0 : Int32).toInt < 0 ∨ 10 < (tv0 : Int32).toInt := by
    have c1_n := lv_neT (a := 0) c1 (by decide)
    have c4_n := lv_neT (a := 1) c4 (by decide)
    have c7_n := lv_neT (a := 2) c7 (by decide)
    have c10_n := lv_neT (a := 3) c10 (by decide)
    have c13_n := lv_neT (a := 4) c13 (by decide)
    have c16_n := lv_neT (a := 5) c16 (by decide)
    have c19_n := lv_neT (a := 6) c19 (by decide)
    have c22_n := lv_neT (a := 7) c22 (by decide)
    have c25_n := lv_neT (a := 8) c25 (by decide)
    have c28_n := lv_neT (a := 9) c28 (by decide)
    have c31_n := lv_neT (a := 10) c31 (by decide)
    omega
  refine lv_tableOut (tgt := 132) hx hb dX6_line_16 n36 (by decide) ?_
  refine lv_aload_n hx hb dX6_line_132 rfl (lv_at hl 0 rfl) ?_
  obtain ⟨z35, h34, h⟩ := bv_s h
  refine x_Vv (Rz := z35) (As := []) (rest := []) ⟨hx, hb, hml, hown, hts⟩ hK hP hS (kd_lt k_32 (by decide)) (cell_6 k_32) rfl (m_X6_refuse hG   h34) (cwV 0 hts (gV lw_813 lw_815 lw_7 lw_112 lw_816) rfl rfl rfl (by decide +kernel) (rmd_ok (by decide) (by decide))) rfl hl.1 rfl (Nat.le_of_ble_eq_true rfl) dX6_line_133 ⟨Nat.le_refl _, Nat.le_refl _⟩ (fun H locs hP hS => ?_)
  exact x_vret hx hb hr hlocks hK hP hS h dX6_line_136
def fn_X6_line  (z : St) : Option (St) := (if (z.1 32 5) = 1 then fn_X6_line_16   (z.1 32 9) z else fn_X6_line_16   (-1) z)
set_option maxHeartbeats 4000000 in
set_option maxRecDepth 100000 in
theorem m_X6_line {l : Launch} {G : wG} (hG : Ok G)  {z : St} {Rz : St}  (h : fn_X6_line   z = some Rz) : Met l yX6_line (wsU yX6_line cX6_line 1 none) (rmd 108) (va_Pc [.ref (G.2.2 32)] (Pre G z)) (va_Qv (fun u => u = Rz) (Pre G) (AW G)) 0 0 (AW G) := by
  refine Met.ofW (cc := cX6_line) (maxL := 1) (ret := none) (by decide) rfl ?_
  intro p e s m args below meth c s₁ B hml hv
  obtain ⟨rfl, hP, hK⟩ := hv
  have C : CX p s m ([.ref (G.2.2 32)] : List Value).toArray meth c cX6_line 1 (wsU yX6_line cX6_line 1 none) RX6 none G := ⟨B.exec, B.bytes, hml, findClass_of_methodNamed B.named, atoms_spec (ws := (wsU yX6_line cX6_line 1 none)) B.pre, B.returns, B.notSynchronized, hK, hG⟩
  obtain ⟨hx, hb, -, hown, hts, hr, hlocks, -, -⟩ := id C
  have hS : va_S (AW G) s.heap s.heap [] := va_S.rf
  have hl := lv_entry [.ref (G.2.2 32)] (n := 1) (Nat.le_of_ble_eq_true rfl)
  rw [lg_entry_eq]
  generalize (lg_sl [.ref (G.2.2 32)] ++ List.replicate (1 - (lg_sl [.ref (G.2.2 32)]).length) Slot.unset).toArray = ls at hl ⊢
  have hl : lv_has ls 1 [(0, .ref (G.2.2 32))] := hl
  unfold fn_X6_line at h
  refine lv_aload_n hx hb dX6_line_0 rfl (lv_at hl 0 rfl) ?_
  refine ge_6_5 hx hb hts (inU inW_X6) hown hK hP k_32 (hts _ (List.mem_cons_of_mem _ lw_325)) dX6_line_1 ?_
  refine lv_iconst (v := 1) hx hb dX6_line_4 (by decide) ?_
  refine lv_icmp_ne (tgt := 15) hx hb dX6_line_5 (by decide) (fun c1 => ?_) (fun c1 => ?_)
  · rw [if_neg c1] at h
    refine lv_iconst (v := (-1)) hx hb dX6_line_15 (by decide) ?_
    exact pf_X6_line_16 C   (-1) z  hP hS (lv_sub hl [0] rfl) h
  · rw [if_pos c1] at h
    refine lv_aload_n hx hb dX6_line_8 rfl (lv_at hl 0 rfl) ?_
    refine ge_6_9 hx hb hts (inU inW_X6) hown hK hP k_32 (hts _ (List.mem_cons_of_mem _ lw_329)) dX6_line_9 ?_
    refine lv_goto (tgt := 16) hx hb dX6_line_12 (by decide) ?_
    exact pf_X6_line_16 C   (z.1 32 9) z  hP hS (lv_sub hl [0] rfl) h
def fn_X6_readAll_72  (z : St) : Option (Int32 × St) := (if (z.1 32 11) = 0 then some (1, z) else some (0, z))
set_option maxHeartbeats 4000000 in
set_option maxRecDepth 100000 in
theorem pf_X6_readAll_72 {p : Program} {l : Launch} {e : Env} {s : State} {m : MethodId} {args : Array Value} {below : List Frame} {meth : Method} {c : Code} {G : wG} (C : CX p s m args meth c cX6_readAll 3 (wsU yX6_readAll cX6_readAll 3 (some .boolean)) RX6 (some .boolean) G) {Rz : Int32 × St}  (z : St)  {H : Heap} {locs : List Loc} {ls : Array Slot} (hP : WP G z H) (hS : va_S (AW G) s.heap H locs) (hl : lv_has ls 3 [(0, .ref (G.2.2 32))]) (h : fn_X6_readAll_72    z = some Rz) : W p l e (rmd 109) s m args below meth c H locs 0 0 (QI below args s G Rz) (F0 m 72 ls []) := by
  obtain ⟨hx, hb, hml, hown, hts, hr, hlocks, hK, hG⟩ := id C
  unfold fn_X6_readAll_72 at h
  refine lv_aload_n hx hb dX6_readAll_72 rfl (lv_at hl 0 rfl) ?_
  refine ge_6_11 hx hb hts (inU inW_X6) hown hK hP k_32 (hts _ (List.mem_cons_of_mem _ lw_331)) dX6_readAll_73 ?_
  refine lv_if_ne (tgt := 83) hx hb dX6_readAll_76 (by decide) (fun c1 => ?_) (fun c1 => ?_)
  · rw [if_neg c1] at h
    refine lv_iconst (v := 0) hx hb dX6_readAll_83 (by decide) ?_
    exact x_zret hx hb hr hlocks hK hP hS rfl h dX6_readAll_84
  · rw [if_pos c1] at h
    refine lv_iconst (v := 1) hx hb dX6_readAll_79 (by decide) ?_
    refine lv_goto (tgt := 84) hx hb dX6_readAll_80 (by decide) ?_
    exact x_zret hx hb hr hlocks hK hP hS rfl h dX6_readAll_84
def fn_X6_readAll_41 : Nat → Int32 → St → Option (Int32 × St)
  | 0, _, _ => none
  | n + 1, v2, z => (if 1600 ≤ v2 then fn_X6_readAll_72    z else (if (z.1 32 11) = 0 then (if (z.1 32 5) = 0 then fn_X6_readAll_72    z else bv (fn_X6_line   z) (fun z5 => fn_X6_readAll_41   n (v2 + 1) z5)) else fn_X6_readAll_72    z))
set_option maxHeartbeats 4000000 in
set_option maxRecDepth 100000 in
theorem pf_X6_readAll_41 {p : Program} {l : Launch} {e : Env} {s : State} {m : MethodId} {args : Array Value} {below : List Frame} {meth : Method} {c : Code} {G : wG} (C : CX p s m args meth c cX6_readAll 3 (wsU yX6_readAll cX6_readAll 3 (some .boolean)) RX6 (some .boolean) G) {Rz : Int32 × St} : ∀ (n : Nat) (v2 : Int32) (z : St)  (H : Heap) (locs : List Loc) (ls : Array Slot), WP G z H → va_S (AW G) s.heap H locs → lv_has ls 3 [(0, .ref (G.2.2 32)), (2, .int v2)] → fn_X6_readAll_41   n v2 z = some Rz → W p l e (rmd 109) s m args below meth c H locs 0 0 (QI below args s G Rz) (F0 m 41 ls []) := by
  obtain ⟨hx, hb, hml, hown, hts, hr, hlocks, hK, hG⟩ := id C
  intro n
  induction n with
  | zero => intro v2 z  H locs ls hP hS hl h; cases h
  | succ n ih =>
    intro v2 z  H locs ls hP hS hl h
    rw [fn_X6_readAll_41] at h
    refine lv_iload_n hx hb dX6_readAll_41 rfl (lv_at hl 1 rfl) ?_
    refine lv_sipush (v := 1600) hx hb dX6_readAll_42 (by decide) ?_
    refine lv_icmp_ge (tgt := 72) hx hb dX6_readAll_45 (by decide) (fun c1 => ?_) (fun c1 => ?_)
    · rw [if_pos c1] at h
      exact pf_X6_readAll_72 C    z  hP hS (lv_sub hl [0] rfl) h
    · rw [if_neg c1] at h
      refine lv_aload_n hx hb dX6_readAll_48 rfl (lv_at hl 0 rfl) ?_
      refine ge_6_11 hx hb hts (inU inW_X6) hown hK hP k_32 (hts _ (List.mem_cons_of_mem _ lw_331)) dX6_readAll_49 ?_
      refine lv_if_ne (tgt := 72) hx hb dX6_readAll_52 (by decide) (fun c2 => ?_) (fun c2 => ?_)
      · rw [if_neg c2] at h
        exact pf_X6_readAll_72 C    z  hP hS (lv_sub hl [0] rfl) h
      · rw [if_pos c2] at h
        refine lv_aload_n hx hb dX6_readAll_55 rfl (lv_at hl 0 rfl) ?_
        refine ge_6_5 hx hb hts (inU inW_X6) hown hK hP k_32 (hts _ (List.mem_cons_of_mem _ lw_325)) dX6_readAll_56 ?_
        refine lv_if_eq (tgt := 72) hx hb dX6_readAll_59 (by decide) (fun c3 => ?_) (fun c3 => ?_)
        · rw [if_pos c3] at h
          exact pf_X6_readAll_72 C    z  hP hS (lv_sub hl [0] rfl) h
        · rw [if_neg c3] at h
          refine lv_aload_n hx hb dX6_readAll_62 rfl (lv_at hl 0 rfl) ?_
          obtain ⟨z5, h4, h⟩ := bv_s h
          refine x_Vv (Rz := z5) (As := []) (rest := []) ⟨hx, hb, hml, hown, hts⟩ hK hP hS (kd_lt k_32 (by decide)) (cell_6 k_32) rfl (m_X6_line hG   h4) (cwV 0 hts (gV lw_805 lw_807 lw_5 lw_112 lw_808) rfl rfl rfl (by decide +kernel) (rmd_ok (by decide) (by decide))) rfl hl.1 rfl (Nat.le_of_ble_eq_true rfl) dX6_readAll_63 ⟨Nat.le_refl _, Nat.le_refl _⟩ (fun H locs hP hS => ?_)
          refine lv_iinc (v := (v2 + 1)) (lv' := [(2, .int (v2 + 1)), (0, .ref (G.2.2 32))]) hx hb dX6_readAll_66 hl (k := 1) rfl rfl (by decide) rfl (fun ls hl => ?_)
          refine lv_goto (tgt := 41) hx hb dX6_readAll_69 (by decide) ?_
          exact ih (v2 + 1) z5  _ _ _ hP hS (lv_sub hl [1, 0] rfl) h
def fn_X6_readAll (v1 : Int32) (z : St) : Option (Int32 × St) := nm (sI z 32 3 (if 1600 < v1 then 1600 else v1)) (fun z1 => nm (sI z1 32 4 0) (fun z2 => nm (sI z2 32 11 0) (fun z3 => nm (sI z3 32 12 (-1)) (fun z4 => bv (fn_X7_clear  17 z4) (fun z6 => bv (fn_X6_advance   z6) (fun z8 => fn_X6_readAll_41   fu 0 z8))))))
set_option maxHeartbeats 4000000 in
set_option maxRecDepth 100000 in
theorem m_X6_readAll {l : Launch} {G : wG} (hG : Ok G) {v1 : Int32} {z : St} {Rz : Int32 × St}  (h : fn_X6_readAll  v1 z = some Rz) : Met l yX6_readAll (wsU yX6_readAll cX6_readAll 3 (some .boolean)) (rmd 109) (va_Pc [.ref (G.2.2 32), .int v1] (Pre G z)) (va_Qi (fun r u => (r, u) = Rz) (Pre G) (AW G)) 0 0 (AW G) := by
  refine Met.ofW (cc := cX6_readAll) (maxL := 3) (ret := (some .boolean)) (by decide) rfl ?_
  intro p e s m args below meth c s₁ B hml hv
  obtain ⟨rfl, hP, hK⟩ := hv
  have C : CX p s m ([.ref (G.2.2 32), .int v1] : List Value).toArray meth c cX6_readAll 3 (wsU yX6_readAll cX6_readAll 3 (some .boolean)) RX6 (some .boolean) G := ⟨B.exec, B.bytes, hml, findClass_of_methodNamed B.named, atoms_spec (ws := (wsU yX6_readAll cX6_readAll 3 (some .boolean))) B.pre, B.returns, B.notSynchronized, hK, hG⟩
  obtain ⟨hx, hb, -, hown, hts, hr, hlocks, -, -⟩ := id C
  have hS : va_S (AW G) s.heap s.heap [] := va_S.rf
  have hl := lv_entry [.ref (G.2.2 32), .int v1] (n := 3) (Nat.le_of_ble_eq_true rfl)
  rw [lg_entry_eq]
  generalize (lg_sl [.ref (G.2.2 32), .int v1] ++ List.replicate (3 - (lg_sl [.ref (G.2.2 32), .int v1]).length) Slot.unset).toArray = ls at hl ⊢
  have hl : lv_has ls 3 [(0, .ref (G.2.2 32)), (1, .int v1)] := hl
  unfold fn_X6_readAll at h
  refine lv_aload_n hx hb dX6_readAll_0 rfl (lv_at hl 0 rfl) ?_
  refine lv_iload_n hx hb dX6_readAll_1 rfl (lv_at hl 1 rfl) ?_
  refine lv_aload_n hx hb dX6_readAll_2 rfl (lv_at hl 0 rfl) ?_
  refine ge_6_0 hx hb hts (inU inW_X6) hown hK hP k_32 (hts _ (List.mem_cons_of_mem _ lw_320)) dX6_readAll_3 ?_
  refine xn_13 (v := 1600) hx hb hK hP k_1 l_1 rfl dX6_readAll_6 ?_
  refine va_mmin hx hb (by rw [hml]; exact hl.1.symm) hown (hts _ (List.mem_cons_of_mem _ lw_769)) (hts _ (List.mem_cons_of_mem _ lw_770)) (hts _ (List.mem_cons_of_mem _ lw_126)) (hts _ (List.mem_cons_of_mem _ lw_771)) (rmd_f (by decide)) (rmd_l (by decide) (Nat.le_of_ble_eq_true rfl)) (Nat.le_refl _) (Nat.le_refl _) dX6_readAll_7 ?_
  obtain ⟨z1, e_z1, h⟩ := nm_s h
  refine pu_6_3 hx hb hts (inU inW_X6) hown hK hG hP hS k_32 (hts _ (List.mem_cons_of_mem _ lw_323)) dX6_readAll_10 (fun H locs hP hS => ?_)
  rw [← e_z1] at hP
  refine lv_aload_n hx hb dX6_readAll_13 rfl (lv_at hl 0 rfl) ?_
  refine lv_iconst (v := 0) hx hb dX6_readAll_14 (by decide) ?_
  obtain ⟨z2, e_z2, h⟩ := nm_s h
  refine pu_6_4 hx hb hts (inU inW_X6) hown hK hG hP hS k_32 (hts _ (List.mem_cons_of_mem _ lw_324)) dX6_readAll_15 (fun H locs hP hS => ?_)
  rw [← e_z2] at hP
  refine lv_aload_n hx hb dX6_readAll_18 rfl (lv_at hl 0 rfl) ?_
  refine lv_iconst (v := 0) hx hb dX6_readAll_19 (by decide) ?_
  obtain ⟨z3, e_z3, h⟩ := nm_s h
  refine pu_6_11 hx hb hts (inU inW_X6) hown hK hG hP hS k_32 (hts _ (List.mem_cons_of_mem _ lw_331)) dX6_readAll_20 (fun H locs hP hS => ?_)
  rw [← e_z3] at hP
  refine lv_aload_n hx hb dX6_readAll_23 rfl (lv_at hl 0 rfl) ?_
  refine lv_iconst (v := (-1)) hx hb dX6_readAll_24 (by decide) ?_
  obtain ⟨z4, e_z4, h⟩ := nm_s h
  refine pu_6_12 hx hb hts (inU inW_X6) hown hK hG hP hS k_32 (hts _ (List.mem_cons_of_mem _ lw_333)) dX6_readAll_25 (fun H locs hP hS => ?_)
  rw [← e_z4] at hP
  refine lv_aload_n hx hb dX6_readAll_28 rfl (lv_at hl 0 rfl) ?_
  refine ge_6_1 hx hb hts (inU inW_X6) hown hK hP k_32 (hts _ (List.mem_cons_of_mem _ lw_321)) dX6_readAll_29 ?_
  obtain ⟨z6, h5, h⟩ := bv_s h
  refine x_Vv (Rz := z6) (As := []) (rest := []) ⟨hx, hb, hml, hown, hts⟩ hK hP hS (kd_lt k_17 (by decide)) (cell_7 k_17) rfl (m_X7_clear hG  k_17 h5) (cwV 0 hts (gV lw_772 lw_773 lw_774 lw_110 lw_775) rfl rfl rfl (by decide +kernel) (rmd_ok (by decide) (by decide))) rfl hl.1 rfl (Nat.le_of_ble_eq_true rfl) dX6_readAll_32 ⟨Nat.le_refl _, Nat.le_refl _⟩ (fun H locs hP hS => ?_)
  refine lv_aload_n hx hb dX6_readAll_35 rfl (lv_at hl 0 rfl) ?_
  obtain ⟨z8, h7, h⟩ := bv_s h
  refine x_Vv (Rz := z8) (As := []) (rest := []) ⟨hx, hb, hml, hown, hts⟩ hK hP hS (kd_lt k_32 (by decide)) (cell_6 k_32) rfl (m_X6_advance hG   h7) (cwV 0 hts (gV lw_777 lw_779 lw_1 lw_112 lw_780) rfl rfl rfl (by decide +kernel) (rmd_ok (by decide) (by decide))) rfl hl.1 rfl (Nat.le_of_ble_eq_true rfl) dX6_readAll_36 ⟨Nat.le_refl _, Nat.le_refl _⟩ (fun H locs hP hS => ?_)
  refine lv_iconst (v := 0) hx hb dX6_readAll_39 (by decide) ?_
  refine lv_istore_n (lv' := [(2, .int 0), (0, .ref (G.2.2 32)), (1, .int v1)]) hx hb dX6_readAll_40 rfl hl (by decide) rfl (fun ls hl => ?_)
  exact pf_X6_readAll_41 C   fu 0 z8  _ _ _ hP hS (lv_sub hl [1, 0] rfl) h
