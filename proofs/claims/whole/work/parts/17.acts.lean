def fn_X0_forget  (z : St) : Option (St) := nm (sI z 146 9 0) (fun z1 => nm (sI z1 146 10 0) (fun z2 => some z2))
set_option maxHeartbeats 4000000 in
set_option maxRecDepth 100000 in
theorem m_X0_forget {l : Launch} {G : wG} (hG : Ok G)  {z : St} {Rz : St}  (h : fn_X0_forget   z = some Rz) : Met l yX0_forget (wsU yX0_forget cX0_forget 1 none) (rmd 1) (va_Pc [.ref (G.2.2 146)] (Pre G z)) (va_Qv (fun u => u = Rz) (Pre G) (AW G)) 0 0 (AW G) := by
  refine Met.ofW (cc := cX0_forget) (maxL := 1) (ret := none) (by decide) rfl ?_
  intro p e s m args below meth c s₁ B hml hv
  obtain ⟨rfl, hP, hK⟩ := hv
  have C : CX p s m ([.ref (G.2.2 146)] : List Value).toArray meth c cX0_forget 1 (wsU yX0_forget cX0_forget 1 none) RX0 none G := ⟨B.exec, B.bytes, hml, findClass_of_methodNamed B.named, atoms_spec (ws := (wsU yX0_forget cX0_forget 1 none)) B.pre, B.returns, B.notSynchronized, hK, hG⟩
  obtain ⟨hx, hb, -, hown, hts, hr, hlocks, -, -⟩ := id C
  have hS : va_S (AW G) s.heap s.heap [] := va_S.rf
  have hl := lv_entry [.ref (G.2.2 146)] (n := 1) (Nat.le_of_ble_eq_true rfl)
  rw [lg_entry_eq]
  generalize (lg_sl [.ref (G.2.2 146)] ++ List.replicate (1 - (lg_sl [.ref (G.2.2 146)]).length) Slot.unset).toArray = ls at hl ⊢
  have hl : lv_has ls 1 [(0, .ref (G.2.2 146))] := hl
  unfold fn_X0_forget at h
  refine lv_aload_n hx hb dX0_forget_0 rfl (lv_at hl 0 rfl) ?_
  refine lv_iconst (v := 0) hx hb dX0_forget_1 (by decide) ?_
  obtain ⟨z1, e_z1, h⟩ := nm_s h
  refine pu_0_9 hx hb hts (inU inW_X0) hown hK hG hP hS k_146 (hts _ (List.mem_cons_of_mem _ lw_494)) dX0_forget_2 (fun H locs hP hS => ?_)
  rw [← e_z1] at hP
  refine lv_aload_n hx hb dX0_forget_5 rfl (lv_at hl 0 rfl) ?_
  refine lv_iconst (v := 0) hx hb dX0_forget_6 (by decide) ?_
  obtain ⟨z2, e_z2, h⟩ := nm_s h
  refine pu_0_10 hx hb hts (inU inW_X0) hown hK hG hP hS k_146 (hts _ (List.mem_cons_of_mem _ lw_496)) dX0_forget_7 (fun H locs hP hS => ?_)
  rw [← e_z2] at hP
  exact x_vret hx hb hr hlocks hK hP hS h dX0_forget_10
def fn_X0_carryOut (v1 : Int32) (z : St) : Option (St) := gd (ix v1 40) ((if (z.1 147 (Int32.toNatClampNeg v1)) = 0 then gd (ix v1 40) (gd (ix v1 40) (gd (ix v1 40) (gd (ix v1 40) (gd (ix v1 40) (bd (fn_X10_slipOf  (z.1 148 (Int32.toNatClampNeg v1)) (z.1 149 (Int32.toNatClampNeg v1)) z) (fun r9 z10 => bv (fn_X1_split  34 (z.1 148 (Int32.toNatClampNeg v1)) (z.1 149 (Int32.toNatClampNeg v1)) (z.1 150 (Int32.toNatClampNeg v1)) r9 (z10.1 2 12) z10) (fun z12 => some z12))))))) else (if (z.1 147 (Int32.toNatClampNeg v1)) = 1 then gd (ix v1 40) (gd (ix v1 40) (bv (fn_X1_put  34 (z.1 148 (Int32.toNatClampNeg v1)) (z.1 149 (Int32.toNatClampNeg v1)) z) (fun z17 => some z17))) else (if (z.1 147 (Int32.toNatClampNeg v1)) = 2 then gd (ix v1 40) (gd (ix v1 40) (bv (fn_X1_lift  34 (z.1 148 (Int32.toNatClampNeg v1)) (z.1 149 (Int32.toNatClampNeg v1)) z) (fun z22 => some z22))) else (gd (ix v1 40) (gd (ix v1 40) (bv (fn_X1_trade  34 (z.1 148 (Int32.toNatClampNeg v1)) (z.1 149 (Int32.toNatClampNeg v1)) z) (fun z26 => some z26))))))))
set_option maxHeartbeats 4000000 in
set_option maxRecDepth 100000 in
theorem m_X0_carryOut {l : Launch} {G : wG} (hG : Ok G) {v1 : Int32} {z : St} {Rz : St}  (h : fn_X0_carryOut  v1 z = some Rz) : Met l yX0_carryOut (wsU yX0_carryOut cX0_carryOut 2 none) (rmd 6) (va_Pc [.ref (G.2.2 146), .int v1] (Pre G z)) (va_Qv (fun u => u = Rz) (Pre G) (AW G)) 0 0 (AW G) := by
  refine Met.ofW (cc := cX0_carryOut) (maxL := 2) (ret := none) (by decide) rfl ?_
  intro p e s m args below meth c s₁ B hml hv
  obtain ⟨rfl, hP, hK⟩ := hv
  have C : CX p s m ([.ref (G.2.2 146), .int v1] : List Value).toArray meth c cX0_carryOut 2 (wsU yX0_carryOut cX0_carryOut 2 none) RX0 none G := ⟨B.exec, B.bytes, hml, findClass_of_methodNamed B.named, atoms_spec (ws := (wsU yX0_carryOut cX0_carryOut 2 none)) B.pre, B.returns, B.notSynchronized, hK, hG⟩
  obtain ⟨hx, hb, -, hown, hts, hr, hlocks, -, -⟩ := id C
  have hS : va_S (AW G) s.heap s.heap [] := va_S.rf
  have hl := lv_entry [.ref (G.2.2 146), .int v1] (n := 2) (Nat.le_of_ble_eq_true rfl)
  rw [lg_entry_eq]
  generalize (lg_sl [.ref (G.2.2 146), .int v1] ++ List.replicate (2 - (lg_sl [.ref (G.2.2 146), .int v1]).length) Slot.unset).toArray = ls at hl ⊢
  have hl : lv_has ls 2 [(0, .ref (G.2.2 146)), (1, .int v1)] := hl
  unfold fn_X0_carryOut at h
  refine lv_aload_n hx hb dX0_carryOut_0 rfl (lv_at hl 0 rfl) ?_
  refine ge_0_3 hx hb hts (inU inW_X0) hown hK hP k_146 (hts _ (List.mem_cons_of_mem _ lw_488)) dX0_carryOut_1 ?_
  refine lv_iload_n hx hb dX0_carryOut_4 rfl (lv_at hl 1 rfl) ?_
  obtain ⟨g1, h⟩ := gd_s h
  refine xl_14 hx hb hK hP k_147 l_147 (ix_in g1) dX0_carryOut_5 ?_
  by_cases c2 : (z.1 147 (Int32.toNatClampNeg v1)) = 0
  · rw [if_pos c2] at h
    refine lv_tableIn (off := 26) (tgt := 32) hx hb dX0_carryOut_6 (by rw [c2]; decide) (by rw [c2]; decide) (by rw [c2]; rfl) (by decide) ?_
    refine lv_aload_n hx hb dX0_carryOut_32 rfl (lv_at hl 0 rfl) ?_
    refine ge_0_1 hx hb hts (inU inW_X0) hown hK hP k_146 (hts _ (List.mem_cons_of_mem _ lw_486)) dX0_carryOut_33 ?_
    refine lv_aload_n hx hb dX0_carryOut_36 rfl (lv_at hl 0 rfl) ?_
    refine ge_0_4 hx hb hts (inU inW_X0) hown hK hP k_146 (hts _ (List.mem_cons_of_mem _ lw_489)) dX0_carryOut_37 ?_
    refine lv_iload_n hx hb dX0_carryOut_40 rfl (lv_at hl 1 rfl) ?_
    obtain ⟨g3, h⟩ := gd_s h
    refine xl_14 hx hb hK hP k_148 l_148 (ix_in g3) dX0_carryOut_41 ?_
    refine lv_aload_n hx hb dX0_carryOut_42 rfl (lv_at hl 0 rfl) ?_
    refine ge_0_5 hx hb hts (inU inW_X0) hown hK hP k_146 (hts _ (List.mem_cons_of_mem _ lw_490)) dX0_carryOut_43 ?_
    refine lv_iload_n hx hb dX0_carryOut_46 rfl (lv_at hl 1 rfl) ?_
    obtain ⟨g4, h⟩ := gd_s h
    refine xl_14 hx hb hK hP k_149 l_149 (ix_in g4) dX0_carryOut_47 ?_
    refine lv_aload_n hx hb dX0_carryOut_48 rfl (lv_at hl 0 rfl) ?_
    refine ge_0_6 hx hb hts (inU inW_X0) hown hK hP k_146 (hts _ (List.mem_cons_of_mem _ lw_491)) dX0_carryOut_49 ?_
    refine lv_iload_n hx hb dX0_carryOut_52 rfl (lv_at hl 1 rfl) ?_
    obtain ⟨g5, h⟩ := gd_s h
    refine xl_14 hx hb hK hP k_150 l_150 (ix_in g5) dX0_carryOut_53 ?_
    refine lv_aload_n hx hb dX0_carryOut_54 rfl (lv_at hl 0 rfl) ?_
    refine ge_0_2 hx hb hts (inU inW_X0) hown hK hP k_146 (hts _ (List.mem_cons_of_mem _ lw_487)) dX0_carryOut_55 ?_
    refine lv_aload_n hx hb dX0_carryOut_58 rfl (lv_at hl 0 rfl) ?_
    refine ge_0_4 hx hb hts (inU inW_X0) hown hK hP k_146 (hts _ (List.mem_cons_of_mem _ lw_489)) dX0_carryOut_59 ?_
    refine lv_iload_n hx hb dX0_carryOut_62 rfl (lv_at hl 1 rfl) ?_
    obtain ⟨g6, h⟩ := gd_s h
    refine xl_14 hx hb hK hP k_148 l_148 (ix_in g6) dX0_carryOut_63 ?_
    refine lv_aload_n hx hb dX0_carryOut_64 rfl (lv_at hl 0 rfl) ?_
    refine ge_0_5 hx hb hts (inU inW_X0) hown hK hP k_146 (hts _ (List.mem_cons_of_mem _ lw_490)) dX0_carryOut_65 ?_
    refine lv_iload_n hx hb dX0_carryOut_68 rfl (lv_at hl 1 rfl) ?_
    obtain ⟨g7, h⟩ := gd_s h
    refine xl_14 hx hb hK hP k_149 l_149 (ix_in g7) dX0_carryOut_69 ?_
    obtain ⟨r9, z10, h8, h⟩ := bd_s h
    refine x_Vi (Rz := (r9, z10)) (As := [.int (z.1 148 (Int32.toNatClampNeg v1)), .int (z.1 149 (Int32.toNatClampNeg v1))]) (rest := [.int (z.1 150 (Int32.toNatClampNeg v1)), .int (z.1 149 (Int32.toNatClampNeg v1)), .int (z.1 148 (Int32.toNatClampNeg v1)), .ref (G.2.2 34)]) ⟨hx, hb, hml, hown, hts⟩ hK hP hS (kd_lt k_143 (by decide)) (cell_10 k_143) rfl (m_X10_slipOf hG   h8) (cwV 2 hts (gV lw_1046 lw_1019 lw_1020 lw_119 lw_1021) rfl rfl rfl (by decide +kernel) (rmd_ok (by decide) (by decide))) rfl hl.1 rfl (Nat.le_of_ble_eq_true rfl) dX0_carryOut_70 ⟨Nat.le_refl _, Nat.le_refl _⟩ (fun H locs hP hS => ?_)
    refine lv_aload_n hx hb dX0_carryOut_73 rfl (lv_at hl 0 rfl) ?_
    refine ge_0_0 hx hb hts (inU inW_X0) hown hK hP k_146 (hts _ (List.mem_cons_of_mem _ lw_485)) dX0_carryOut_74 ?_
    refine ge_7_12 hx hb hts (inU inW_X7) hown hK hP k_2 (hts _ (List.mem_cons_of_mem _ lw_219)) dX0_carryOut_77 ?_
    obtain ⟨z12, h11, h⟩ := bv_s h
    refine x_Vv (Rz := z12) (As := [.int (z.1 148 (Int32.toNatClampNeg v1)), .int (z.1 149 (Int32.toNatClampNeg v1)), .int (z.1 150 (Int32.toNatClampNeg v1)), .int r9, .int (z10.1 2 12)]) (rest := []) ⟨hx, hb, hml, hown, hts⟩ hK hP hS (kd_lt k_34 (by decide)) (cell_1 k_34) rfl (m_X1_split hG  k_34 h11) (cwV 5 hts (gV lw_1047 lw_1048 lw_1049 lw_117 lw_1050) rfl rfl rfl (by decide +kernel) (rmd_ok (by decide) (by decide))) rfl hl.1 rfl (Nat.le_of_ble_eq_true rfl) dX0_carryOut_80 ⟨Nat.le_refl _, Nat.le_refl _⟩ (fun H locs hP hS => ?_)
    refine lv_goto (tgt := 149) hx hb dX0_carryOut_83 (by decide) ?_
    exact x_vret hx hb hr hlocks hK hP hS h dX0_carryOut_149
  rw [if_neg c2] at h
  by_cases c13 : (z.1 147 (Int32.toNatClampNeg v1)) = 1
  · rw [if_pos c13] at h
    refine lv_tableIn (off := 80) (tgt := 86) hx hb dX0_carryOut_6 (by rw [c13]; decide) (by rw [c13]; decide) (by rw [c13]; rfl) (by decide) ?_
    refine lv_aload_n hx hb dX0_carryOut_86 rfl (lv_at hl 0 rfl) ?_
    refine ge_0_1 hx hb hts (inU inW_X0) hown hK hP k_146 (hts _ (List.mem_cons_of_mem _ lw_486)) dX0_carryOut_87 ?_
    refine lv_aload_n hx hb dX0_carryOut_90 rfl (lv_at hl 0 rfl) ?_
    refine ge_0_4 hx hb hts (inU inW_X0) hown hK hP k_146 (hts _ (List.mem_cons_of_mem _ lw_489)) dX0_carryOut_91 ?_
    refine lv_iload_n hx hb dX0_carryOut_94 rfl (lv_at hl 1 rfl) ?_
    obtain ⟨g14, h⟩ := gd_s h
    refine xl_14 hx hb hK hP k_148 l_148 (ix_in g14) dX0_carryOut_95 ?_
    refine lv_aload_n hx hb dX0_carryOut_96 rfl (lv_at hl 0 rfl) ?_
    refine ge_0_5 hx hb hts (inU inW_X0) hown hK hP k_146 (hts _ (List.mem_cons_of_mem _ lw_490)) dX0_carryOut_97 ?_
    refine lv_iload_n hx hb dX0_carryOut_100 rfl (lv_at hl 1 rfl) ?_
    obtain ⟨g15, h⟩ := gd_s h
    refine xl_14 hx hb hK hP k_149 l_149 (ix_in g15) dX0_carryOut_101 ?_
    obtain ⟨z17, h16, h⟩ := bv_s h
    refine x_Vv (Rz := z17) (As := [.int (z.1 148 (Int32.toNatClampNeg v1)), .int (z.1 149 (Int32.toNatClampNeg v1))]) (rest := []) ⟨hx, hb, hml, hown, hts⟩ hK hP hS (kd_lt k_34 (by decide)) (cell_1 k_34) rfl (m_X1_put hG  k_34 h16) (cwV 2 hts (gV lw_1064 lw_1065 lw_1066 lw_117 lw_1067) rfl rfl rfl (by decide +kernel) (rmd_ok (by decide) (by decide))) rfl hl.1 rfl (Nat.le_of_ble_eq_true rfl) dX0_carryOut_102 ⟨Nat.le_refl _, Nat.le_refl _⟩ (fun H locs hP hS => ?_)
    refine lv_goto (tgt := 149) hx hb dX0_carryOut_105 (by decide) ?_
    exact x_vret hx hb hr hlocks hK hP hS h dX0_carryOut_149
  rw [if_neg c13] at h
  by_cases c18 : (z.1 147 (Int32.toNatClampNeg v1)) = 2
  · rw [if_pos c18] at h
    refine lv_tableIn (off := 102) (tgt := 108) hx hb dX0_carryOut_6 (by rw [c18]; decide) (by rw [c18]; decide) (by rw [c18]; rfl) (by decide) ?_
    refine lv_aload_n hx hb dX0_carryOut_108 rfl (lv_at hl 0 rfl) ?_
    refine ge_0_1 hx hb hts (inU inW_X0) hown hK hP k_146 (hts _ (List.mem_cons_of_mem _ lw_486)) dX0_carryOut_109 ?_
    refine lv_aload_n hx hb dX0_carryOut_112 rfl (lv_at hl 0 rfl) ?_
    refine ge_0_4 hx hb hts (inU inW_X0) hown hK hP k_146 (hts _ (List.mem_cons_of_mem _ lw_489)) dX0_carryOut_113 ?_
    refine lv_iload_n hx hb dX0_carryOut_116 rfl (lv_at hl 1 rfl) ?_
    obtain ⟨g19, h⟩ := gd_s h
    refine xl_14 hx hb hK hP k_148 l_148 (ix_in g19) dX0_carryOut_117 ?_
    refine lv_aload_n hx hb dX0_carryOut_118 rfl (lv_at hl 0 rfl) ?_
    refine ge_0_5 hx hb hts (inU inW_X0) hown hK hP k_146 (hts _ (List.mem_cons_of_mem _ lw_490)) dX0_carryOut_119 ?_
    refine lv_iload_n hx hb dX0_carryOut_122 rfl (lv_at hl 1 rfl) ?_
    obtain ⟨g20, h⟩ := gd_s h
    refine xl_14 hx hb hK hP k_149 l_149 (ix_in g20) dX0_carryOut_123 ?_
    obtain ⟨z22, h21, h⟩ := bv_s h
    refine x_Vv (Rz := z22) (As := [.int (z.1 148 (Int32.toNatClampNeg v1)), .int (z.1 149 (Int32.toNatClampNeg v1))]) (rest := []) ⟨hx, hb, hml, hown, hts⟩ hK hP hS (kd_lt k_34 (by decide)) (cell_1 k_34) rfl (m_X1_lift hG  k_34 h21) (cwV 2 hts (gV lw_1068 lw_1069 lw_1070 lw_117 lw_1071) rfl rfl rfl (by decide +kernel) (rmd_ok (by decide) (by decide))) rfl hl.1 rfl (Nat.le_of_ble_eq_true rfl) dX0_carryOut_124 ⟨Nat.le_refl _, Nat.le_refl _⟩ (fun H locs hP hS => ?_)
    refine lv_goto (tgt := 149) hx hb dX0_carryOut_127 (by decide) ?_
    exact x_vret hx hb hr hlocks hK hP hS h dX0_carryOut_149
  rw [if_neg c18] at h
  have n27 : ((z.1 147 (Int32.toNatClampNeg v1)) : Int32).toInt < 0 ∨ 2 < ((z.1 147 (Int32.toNatClampNeg v1)) : Int32).toInt := by
    have c2_n := lv_neT (a := 0) c2 (by decide)
    have c13_n := lv_neT (a := 1) c13 (by decide)
    have c18_n := lv_neT (a := 2) c18 (by decide)
    omega
  refine lv_tableOut (tgt := 130) hx hb dX0_carryOut_6 n27 (by decide) ?_
  refine lv_aload_n hx hb dX0_carryOut_130 rfl (lv_at hl 0 rfl) ?_
  refine ge_0_1 hx hb hts (inU inW_X0) hown hK hP k_146 (hts _ (List.mem_cons_of_mem _ lw_486)) dX0_carryOut_131 ?_
  refine lv_aload_n hx hb dX0_carryOut_134 rfl (lv_at hl 0 rfl) ?_
  refine ge_0_4 hx hb hts (inU inW_X0) hown hK hP k_146 (hts _ (List.mem_cons_of_mem _ lw_489)) dX0_carryOut_135 ?_
  refine lv_iload_n hx hb dX0_carryOut_138 rfl (lv_at hl 1 rfl) ?_
  obtain ⟨g23, h⟩ := gd_s h
  refine xl_14 hx hb hK hP k_148 l_148 (ix_in g23) dX0_carryOut_139 ?_
  refine lv_aload_n hx hb dX0_carryOut_140 rfl (lv_at hl 0 rfl) ?_
  refine ge_0_5 hx hb hts (inU inW_X0) hown hK hP k_146 (hts _ (List.mem_cons_of_mem _ lw_490)) dX0_carryOut_141 ?_
  refine lv_iload_n hx hb dX0_carryOut_144 rfl (lv_at hl 1 rfl) ?_
  obtain ⟨g24, h⟩ := gd_s h
  refine xl_14 hx hb hK hP k_149 l_149 (ix_in g24) dX0_carryOut_145 ?_
  obtain ⟨z26, h25, h⟩ := bv_s h
  refine x_Vv (Rz := z26) (As := [.int (z.1 148 (Int32.toNatClampNeg v1)), .int (z.1 149 (Int32.toNatClampNeg v1))]) (rest := []) ⟨hx, hb, hml, hown, hts⟩ hK hP hS (kd_lt k_34 (by decide)) (cell_1 k_34) rfl (m_X1_trade hG  k_34 h25) (cwV 2 hts (gV lw_1072 lw_1073 lw_1074 lw_117 lw_1075) rfl rfl rfl (by decide +kernel) (rmd_ok (by decide) (by decide))) rfl hl.1 rfl (Nat.le_of_ble_eq_true rfl) dX0_carryOut_146 ⟨Nat.le_refl _, Nat.le_refl _⟩ (fun H locs hP hS => ?_)
  exact x_vret hx hb hr hlocks hK hP hS h dX0_carryOut_149
def fn_X0_dropOldest_2 : Nat → Int32 → St → Option (St)
  | 0, _, _ => none
  | n + 1, v1, z => (if 40 ≤ v1 then nm (sI z 146 9 39) (fun z2 => some z2) else gd (ix v1 40) (gd (ix (v1 - 1) 40) (nm (sI z 147 (Int32.toNatClampNeg (v1 - 1)) (z.1 147 (Int32.toNatClampNeg v1))) (fun z5 => gd (ix v1 40) (gd (ix (v1 - 1) 40) (nm (sI z5 148 (Int32.toNatClampNeg (v1 - 1)) (z5.1 148 (Int32.toNatClampNeg v1))) (fun z8 => gd (ix v1 40) (gd (ix (v1 - 1) 40) (nm (sI z8 149 (Int32.toNatClampNeg (v1 - 1)) (z8.1 149 (Int32.toNatClampNeg v1))) (fun z11 => gd (ix v1 40) (gd (ix (v1 - 1) 40) (nm (sI z11 150 (Int32.toNatClampNeg (v1 - 1)) (z11.1 150 (Int32.toNatClampNeg v1))) (fun z14 => gd (ix v1 40) (gd (ix (v1 - 1) 40) (nm (sI z14 151 (Int32.toNatClampNeg (v1 - 1)) (z14.1 151 (Int32.toNatClampNeg v1))) (fun z17 => gd (ix v1 40) (gd (ix (v1 - 1) 40) (nm (sI z17 152 (Int32.toNatClampNeg (v1 - 1)) (z17.1 152 (Int32.toNatClampNeg v1))) (fun z20 => fn_X0_dropOldest_2   n (v1 + 1) z20)))))))))))))))))))
set_option maxHeartbeats 4000000 in
set_option maxRecDepth 100000 in
theorem pf_X0_dropOldest_2 {p : Program} {l : Launch} {e : Env} {s : State} {m : MethodId} {args : Array Value} {below : List Frame} {meth : Method} {c : Code} {G : wG} (C : CX p s m args meth c cX0_dropOldest 2 (wsU yX0_dropOldest cX0_dropOldest 2 none) RX0 none G) {Rz : St} : ∀ (n : Nat) (v1 : Int32) (z : St)  (H : Heap) (locs : List Loc) (ls : Array Slot), WP G z H → va_S (AW G) s.heap H locs → lv_has ls 2 [(0, .ref (G.2.2 146)), (1, .int v1)] → fn_X0_dropOldest_2   n v1 z = some Rz → W p l e (rmd 1) s m args below meth c H locs 0 0 (QV below args s G Rz) (F0 m 2 ls []) := by
  obtain ⟨hx, hb, hml, hown, hts, hr, hlocks, hK, hG⟩ := id C
  intro n
  induction n with
  | zero => intro v1 z  H locs ls hP hS hl h; cases h
  | succ n ih =>
    intro v1 z  H locs ls hP hS hl h
    rw [fn_X0_dropOldest_2] at h
    refine lv_iload_n hx hb dX0_dropOldest_2 rfl (lv_at hl 1 rfl) ?_
    refine lv_bipush (v := 40) hx hb dX0_dropOldest_3 (by decide) ?_
    refine lv_icmp_ge (tgt := 98) hx hb dX0_dropOldest_5 (by decide) (fun c1 => ?_) (fun c1 => ?_)
    · rw [if_pos c1] at h
      refine lv_aload_n hx hb dX0_dropOldest_98 rfl (lv_at hl 0 rfl) ?_
      refine lv_bipush (v := 39) hx hb dX0_dropOldest_99 (by decide) ?_
      obtain ⟨z2, e_z2, h⟩ := nm_s h
      refine pu_0_9 hx hb hts (inU inW_X0) hown hK hG hP hS k_146 (hts _ (List.mem_cons_of_mem _ lw_494)) dX0_dropOldest_101 (fun H locs hP hS => ?_)
      rw [← e_z2] at hP
      exact x_vret hx hb hr hlocks hK hP hS h dX0_dropOldest_104
    · rw [if_neg c1] at h
      refine lv_aload_n hx hb dX0_dropOldest_8 rfl (lv_at hl 0 rfl) ?_
      refine ge_0_3 hx hb hts (inU inW_X0) hown hK hP k_146 (hts _ (List.mem_cons_of_mem _ lw_488)) dX0_dropOldest_9 ?_
      refine lv_iload_n hx hb dX0_dropOldest_12 rfl (lv_at hl 1 rfl) ?_
      refine lv_iconst (v := 1) hx hb dX0_dropOldest_13 (by decide) ?_
      refine lv_isub hx hb dX0_dropOldest_14 ?_
      refine lv_aload_n hx hb dX0_dropOldest_15 rfl (lv_at hl 0 rfl) ?_
      refine ge_0_3 hx hb hts (inU inW_X0) hown hK hP k_146 (hts _ (List.mem_cons_of_mem _ lw_488)) dX0_dropOldest_16 ?_
      refine lv_iload_n hx hb dX0_dropOldest_19 rfl (lv_at hl 1 rfl) ?_
      obtain ⟨g3, h⟩ := gd_s h
      refine xl_14 hx hb hK hP k_147 l_147 (ix_in g3) dX0_dropOldest_20 ?_
      obtain ⟨g4, h⟩ := gd_s h
      obtain ⟨z5, e_z5, h⟩ := nm_s h
      refine xs_14 hx hb hK hG hP hS k_147 l_147 (ix_in g4) dX0_dropOldest_21 (fun H locs hP hS => ?_)
      rw [← e_z5] at hP
      refine lv_aload_n hx hb dX0_dropOldest_22 rfl (lv_at hl 0 rfl) ?_
      refine ge_0_4 hx hb hts (inU inW_X0) hown hK hP k_146 (hts _ (List.mem_cons_of_mem _ lw_489)) dX0_dropOldest_23 ?_
      refine lv_iload_n hx hb dX0_dropOldest_26 rfl (lv_at hl 1 rfl) ?_
      refine lv_iconst (v := 1) hx hb dX0_dropOldest_27 (by decide) ?_
      refine lv_isub hx hb dX0_dropOldest_28 ?_
      refine lv_aload_n hx hb dX0_dropOldest_29 rfl (lv_at hl 0 rfl) ?_
      refine ge_0_4 hx hb hts (inU inW_X0) hown hK hP k_146 (hts _ (List.mem_cons_of_mem _ lw_489)) dX0_dropOldest_30 ?_
      refine lv_iload_n hx hb dX0_dropOldest_33 rfl (lv_at hl 1 rfl) ?_
      obtain ⟨g6, h⟩ := gd_s h
      refine xl_14 hx hb hK hP k_148 l_148 (ix_in g6) dX0_dropOldest_34 ?_
      obtain ⟨g7, h⟩ := gd_s h
      obtain ⟨z8, e_z8, h⟩ := nm_s h
      refine xs_14 hx hb hK hG hP hS k_148 l_148 (ix_in g7) dX0_dropOldest_35 (fun H locs hP hS => ?_)
      rw [← e_z8] at hP
      refine lv_aload_n hx hb dX0_dropOldest_36 rfl (lv_at hl 0 rfl) ?_
      refine ge_0_5 hx hb hts (inU inW_X0) hown hK hP k_146 (hts _ (List.mem_cons_of_mem _ lw_490)) dX0_dropOldest_37 ?_
      refine lv_iload_n hx hb dX0_dropOldest_40 rfl (lv_at hl 1 rfl) ?_
      refine lv_iconst (v := 1) hx hb dX0_dropOldest_41 (by decide) ?_
      refine lv_isub hx hb dX0_dropOldest_42 ?_
      refine lv_aload_n hx hb dX0_dropOldest_43 rfl (lv_at hl 0 rfl) ?_
      refine ge_0_5 hx hb hts (inU inW_X0) hown hK hP k_146 (hts _ (List.mem_cons_of_mem _ lw_490)) dX0_dropOldest_44 ?_
      refine lv_iload_n hx hb dX0_dropOldest_47 rfl (lv_at hl 1 rfl) ?_
      obtain ⟨g9, h⟩ := gd_s h
      refine xl_14 hx hb hK hP k_149 l_149 (ix_in g9) dX0_dropOldest_48 ?_
      obtain ⟨g10, h⟩ := gd_s h
      obtain ⟨z11, e_z11, h⟩ := nm_s h
      refine xs_14 hx hb hK hG hP hS k_149 l_149 (ix_in g10) dX0_dropOldest_49 (fun H locs hP hS => ?_)
      rw [← e_z11] at hP
      refine lv_aload_n hx hb dX0_dropOldest_50 rfl (lv_at hl 0 rfl) ?_
      refine ge_0_6 hx hb hts (inU inW_X0) hown hK hP k_146 (hts _ (List.mem_cons_of_mem _ lw_491)) dX0_dropOldest_51 ?_
      refine lv_iload_n hx hb dX0_dropOldest_54 rfl (lv_at hl 1 rfl) ?_
      refine lv_iconst (v := 1) hx hb dX0_dropOldest_55 (by decide) ?_
      refine lv_isub hx hb dX0_dropOldest_56 ?_
      refine lv_aload_n hx hb dX0_dropOldest_57 rfl (lv_at hl 0 rfl) ?_
      refine ge_0_6 hx hb hts (inU inW_X0) hown hK hP k_146 (hts _ (List.mem_cons_of_mem _ lw_491)) dX0_dropOldest_58 ?_
      refine lv_iload_n hx hb dX0_dropOldest_61 rfl (lv_at hl 1 rfl) ?_
      obtain ⟨g12, h⟩ := gd_s h
      refine xl_14 hx hb hK hP k_150 l_150 (ix_in g12) dX0_dropOldest_62 ?_
      obtain ⟨g13, h⟩ := gd_s h
      obtain ⟨z14, e_z14, h⟩ := nm_s h
      refine xs_14 hx hb hK hG hP hS k_150 l_150 (ix_in g13) dX0_dropOldest_63 (fun H locs hP hS => ?_)
      rw [← e_z14] at hP
      refine lv_aload_n hx hb dX0_dropOldest_64 rfl (lv_at hl 0 rfl) ?_
      refine ge_0_7 hx hb hts (inU inW_X0) hown hK hP k_146 (hts _ (List.mem_cons_of_mem _ lw_492)) dX0_dropOldest_65 ?_
      refine lv_iload_n hx hb dX0_dropOldest_68 rfl (lv_at hl 1 rfl) ?_
      refine lv_iconst (v := 1) hx hb dX0_dropOldest_69 (by decide) ?_
      refine lv_isub hx hb dX0_dropOldest_70 ?_
      refine lv_aload_n hx hb dX0_dropOldest_71 rfl (lv_at hl 0 rfl) ?_
      refine ge_0_7 hx hb hts (inU inW_X0) hown hK hP k_146 (hts _ (List.mem_cons_of_mem _ lw_492)) dX0_dropOldest_72 ?_
      refine lv_iload_n hx hb dX0_dropOldest_75 rfl (lv_at hl 1 rfl) ?_
      obtain ⟨g15, h⟩ := gd_s h
      refine xl_14 hx hb hK hP k_151 l_151 (ix_in g15) dX0_dropOldest_76 ?_
      obtain ⟨g16, h⟩ := gd_s h
      obtain ⟨z17, e_z17, h⟩ := nm_s h
      refine xs_14 hx hb hK hG hP hS k_151 l_151 (ix_in g16) dX0_dropOldest_77 (fun H locs hP hS => ?_)
      rw [← e_z17] at hP
      refine lv_aload_n hx hb dX0_dropOldest_78 rfl (lv_at hl 0 rfl) ?_
      refine ge_0_8 hx hb hts (inU inW_X0) hown hK hP k_146 (hts _ (List.mem_cons_of_mem _ lw_493)) dX0_dropOldest_79 ?_
      refine lv_iload_n hx hb dX0_dropOldest_82 rfl (lv_at hl 1 rfl) ?_
      refine lv_iconst (v := 1) hx hb dX0_dropOldest_83 (by decide) ?_
      refine lv_isub hx hb dX0_dropOldest_84 ?_
      refine lv_aload_n hx hb dX0_dropOldest_85 rfl (lv_at hl 0 rfl) ?_
      refine ge_0_8 hx hb hts (inU inW_X0) hown hK hP k_146 (hts _ (List.mem_cons_of_mem _ lw_493)) dX0_dropOldest_86 ?_
      refine lv_iload_n hx hb dX0_dropOldest_89 rfl (lv_at hl 1 rfl) ?_
      obtain ⟨g18, h⟩ := gd_s h
      refine xl_14 hx hb hK hP k_152 l_152 (ix_in g18) dX0_dropOldest_90 ?_
      obtain ⟨g19, h⟩ := gd_s h
      obtain ⟨z20, e_z20, h⟩ := nm_s h
      refine xs_14 hx hb hK hG hP hS k_152 l_152 (ix_in g19) dX0_dropOldest_91 (fun H locs hP hS => ?_)
      rw [← e_z20] at hP
      refine lv_iinc (v := (v1 + 1)) (lv' := [(1, .int (v1 + 1)), (0, .ref (G.2.2 146))]) hx hb dX0_dropOldest_92 hl (k := 1) rfl rfl (by decide) rfl (fun ls hl => ?_)
      refine lv_goto (tgt := 2) hx hb dX0_dropOldest_95 (by decide) ?_
      exact ih (v1 + 1) z20  _ _ _ hP hS (lv_sub hl [1, 0] rfl) h
def fn_X0_dropOldest  (z : St) : Option (St) := fn_X0_dropOldest_2   fu 1 z
set_option maxHeartbeats 4000000 in
set_option maxRecDepth 100000 in
theorem m_X0_dropOldest {l : Launch} {G : wG} (hG : Ok G)  {z : St} {Rz : St}  (h : fn_X0_dropOldest   z = some Rz) : Met l yX0_dropOldest (wsU yX0_dropOldest cX0_dropOldest 2 none) (rmd 1) (va_Pc [.ref (G.2.2 146)] (Pre G z)) (va_Qv (fun u => u = Rz) (Pre G) (AW G)) 0 0 (AW G) := by
  refine Met.ofW (cc := cX0_dropOldest) (maxL := 2) (ret := none) (by decide) rfl ?_
  intro p e s m args below meth c s₁ B hml hv
  obtain ⟨rfl, hP, hK⟩ := hv
  have C : CX p s m ([.ref (G.2.2 146)] : List Value).toArray meth c cX0_dropOldest 2 (wsU yX0_dropOldest cX0_dropOldest 2 none) RX0 none G := ⟨B.exec, B.bytes, hml, findClass_of_methodNamed B.named, atoms_spec (ws := (wsU yX0_dropOldest cX0_dropOldest 2 none)) B.pre, B.returns, B.notSynchronized, hK, hG⟩
  obtain ⟨hx, hb, -, hown, hts, hr, hlocks, -, -⟩ := id C
  have hS : va_S (AW G) s.heap s.heap [] := va_S.rf
  have hl := lv_entry [.ref (G.2.2 146)] (n := 2) (Nat.le_of_ble_eq_true rfl)
  rw [lg_entry_eq]
  generalize (lg_sl [.ref (G.2.2 146)] ++ List.replicate (2 - (lg_sl [.ref (G.2.2 146)]).length) Slot.unset).toArray = ls at hl ⊢
  have hl : lv_has ls 2 [(0, .ref (G.2.2 146))] := hl
  unfold fn_X0_dropOldest at h
  refine lv_iconst (v := 1) hx hb dX0_dropOldest_0 (by decide) ?_
  refine lv_istore_n (lv' := [(1, .int 1), (0, .ref (G.2.2 146))]) hx hb dX0_dropOldest_1 rfl hl (by decide) rfl (fun ls hl => ?_)
  exact pf_X0_dropOldest_2 C   fu 1 z  _ _ _ hP hS (lv_sub hl [1, 0] rfl) h
def fn_X0_perform_13 (v1 : Int32) (v2 : Int32) (v3 : Int32) (v4 : Int32) (z : St) : Option (St) := gd (ix (z.1 146 9) 40) (nm (sI z 147 (Int32.toNatClampNeg (z.1 146 9)) v1) (fun z2 => gd (ix (z2.1 146 9) 40) (nm (sI z2 148 (Int32.toNatClampNeg (z2.1 146 9)) v2) (fun z4 => gd (ix (z4.1 146 9) 40) (nm (sI z4 149 (Int32.toNatClampNeg (z4.1 146 9)) v3) (fun z6 => gd (ix (z6.1 146 9) 40) (nm (sI z6 150 (Int32.toNatClampNeg (z6.1 146 9)) v4) (fun z8 => gd (ix (z8.1 146 9) 40) (nm (sI z8 151 (Int32.toNatClampNeg (z8.1 146 9)) (z8.1 34 4)) (fun z10 => gd (ix (z10.1 146 9) 40) (nm (sI z10 152 (Int32.toNatClampNeg (z10.1 146 9)) (z10.1 34 3)) (fun z12 => bv (fn_X0_carryOut  (z12.1 146 9) z12) (fun z14 => nm (sI z14 146 9 ((z14.1 146 9) + 1)) (fun z15 => nm (sI z15 146 10 (z15.1 146 9)) (fun z16 => some z16)))))))))))))))
set_option maxHeartbeats 4000000 in
set_option maxRecDepth 100000 in
theorem pf_X0_perform_13 {p : Program} {l : Launch} {e : Env} {s : State} {m : MethodId} {args : Array Value} {below : List Frame} {meth : Method} {c : Code} {G : wG} (C : CX p s m args meth c cX0_perform 5 (wsU yX0_perform cX0_perform 5 none) RX0 none G) {Rz : St} (v1 : Int32) (v2 : Int32) (v3 : Int32) (v4 : Int32) (z : St)  {H : Heap} {locs : List Loc} {ls : Array Slot} (hP : WP G z H) (hS : va_S (AW G) s.heap H locs) (hl : lv_has ls 5 [(0, .ref (G.2.2 146)), (1, .int v1), (2, .int v2), (3, .int v3), (4, .int v4)]) (h : fn_X0_perform_13   v1 v2 v3 v4 z = some Rz) : W p l e (rmd 7) s m args below meth c H locs 0 0 (QV below args s G Rz) (F0 m 13 ls []) := by
  obtain ⟨hx, hb, hml, hown, hts, hr, hlocks, hK, hG⟩ := id C
  unfold fn_X0_perform_13 at h
  refine lv_aload_n hx hb dX0_perform_13 rfl (lv_at hl 0 rfl) ?_
  refine ge_0_3 hx hb hts (inU inW_X0) hown hK hP k_146 (hts _ (List.mem_cons_of_mem _ lw_488)) dX0_perform_14 ?_
  refine lv_aload_n hx hb dX0_perform_17 rfl (lv_at hl 0 rfl) ?_
  refine ge_0_9 hx hb hts (inU inW_X0) hown hK hP k_146 (hts _ (List.mem_cons_of_mem _ lw_494)) dX0_perform_18 ?_
  refine lv_iload_n hx hb dX0_perform_21 rfl (lv_at hl 1 rfl) ?_
  obtain ⟨g1, h⟩ := gd_s h
  obtain ⟨z2, e_z2, h⟩ := nm_s h
  refine xs_14 hx hb hK hG hP hS k_147 l_147 (ix_in g1) dX0_perform_22 (fun H locs hP hS => ?_)
  rw [← e_z2] at hP
  refine lv_aload_n hx hb dX0_perform_23 rfl (lv_at hl 0 rfl) ?_
  refine ge_0_4 hx hb hts (inU inW_X0) hown hK hP k_146 (hts _ (List.mem_cons_of_mem _ lw_489)) dX0_perform_24 ?_
  refine lv_aload_n hx hb dX0_perform_27 rfl (lv_at hl 0 rfl) ?_
  refine ge_0_9 hx hb hts (inU inW_X0) hown hK hP k_146 (hts _ (List.mem_cons_of_mem _ lw_494)) dX0_perform_28 ?_
  refine lv_iload_n hx hb dX0_perform_31 rfl (lv_at hl 2 rfl) ?_
  obtain ⟨g3, h⟩ := gd_s h
  obtain ⟨z4, e_z4, h⟩ := nm_s h
  refine xs_14 hx hb hK hG hP hS k_148 l_148 (ix_in g3) dX0_perform_32 (fun H locs hP hS => ?_)
  rw [← e_z4] at hP
  refine lv_aload_n hx hb dX0_perform_33 rfl (lv_at hl 0 rfl) ?_
  refine ge_0_5 hx hb hts (inU inW_X0) hown hK hP k_146 (hts _ (List.mem_cons_of_mem _ lw_490)) dX0_perform_34 ?_
  refine lv_aload_n hx hb dX0_perform_37 rfl (lv_at hl 0 rfl) ?_
  refine ge_0_9 hx hb hts (inU inW_X0) hown hK hP k_146 (hts _ (List.mem_cons_of_mem _ lw_494)) dX0_perform_38 ?_
  refine lv_iload_n hx hb dX0_perform_41 rfl (lv_at hl 3 rfl) ?_
  obtain ⟨g5, h⟩ := gd_s h
  obtain ⟨z6, e_z6, h⟩ := nm_s h
  refine xs_14 hx hb hK hG hP hS k_149 l_149 (ix_in g5) dX0_perform_42 (fun H locs hP hS => ?_)
  rw [← e_z6] at hP
  refine lv_aload_n hx hb dX0_perform_43 rfl (lv_at hl 0 rfl) ?_
  refine ge_0_6 hx hb hts (inU inW_X0) hown hK hP k_146 (hts _ (List.mem_cons_of_mem _ lw_491)) dX0_perform_44 ?_
  refine lv_aload_n hx hb dX0_perform_47 rfl (lv_at hl 0 rfl) ?_
  refine ge_0_9 hx hb hts (inU inW_X0) hown hK hP k_146 (hts _ (List.mem_cons_of_mem _ lw_494)) dX0_perform_48 ?_
  refine lv_iload hx hb dX0_perform_51 (lv_at hl 4 rfl) ?_
  obtain ⟨g7, h⟩ := gd_s h
  obtain ⟨z8, e_z8, h⟩ := nm_s h
  refine xs_14 hx hb hK hG hP hS k_150 l_150 (ix_in g7) dX0_perform_53 (fun H locs hP hS => ?_)
  rw [← e_z8] at hP
  refine lv_aload_n hx hb dX0_perform_54 rfl (lv_at hl 0 rfl) ?_
  refine ge_0_7 hx hb hts (inU inW_X0) hown hK hP k_146 (hts _ (List.mem_cons_of_mem _ lw_492)) dX0_perform_55 ?_
  refine lv_aload_n hx hb dX0_perform_58 rfl (lv_at hl 0 rfl) ?_
  refine ge_0_9 hx hb hts (inU inW_X0) hown hK hP k_146 (hts _ (List.mem_cons_of_mem _ lw_494)) dX0_perform_59 ?_
  refine lv_aload_n hx hb dX0_perform_62 rfl (lv_at hl 0 rfl) ?_
  refine ge_0_1 hx hb hts (inU inW_X0) hown hK hP k_146 (hts _ (List.mem_cons_of_mem _ lw_486)) dX0_perform_63 ?_
  refine ge_1_4 hx hb hts (inU inW_X1) hown hK hP k_34 (hts _ (List.mem_cons_of_mem _ lw_431)) dX0_perform_66 ?_
  obtain ⟨g9, h⟩ := gd_s h
  obtain ⟨z10, e_z10, h⟩ := nm_s h
  refine xs_14 hx hb hK hG hP hS k_151 l_151 (ix_in g9) dX0_perform_69 (fun H locs hP hS => ?_)
  rw [← e_z10] at hP
  refine lv_aload_n hx hb dX0_perform_70 rfl (lv_at hl 0 rfl) ?_
  refine ge_0_8 hx hb hts (inU inW_X0) hown hK hP k_146 (hts _ (List.mem_cons_of_mem _ lw_493)) dX0_perform_71 ?_
  refine lv_aload_n hx hb dX0_perform_74 rfl (lv_at hl 0 rfl) ?_
  refine ge_0_9 hx hb hts (inU inW_X0) hown hK hP k_146 (hts _ (List.mem_cons_of_mem _ lw_494)) dX0_perform_75 ?_
  refine lv_aload_n hx hb dX0_perform_78 rfl (lv_at hl 0 rfl) ?_
  refine ge_0_1 hx hb hts (inU inW_X0) hown hK hP k_146 (hts _ (List.mem_cons_of_mem _ lw_486)) dX0_perform_79 ?_
  refine ge_1_3 hx hb hts (inU inW_X1) hown hK hP k_34 (hts _ (List.mem_cons_of_mem _ lw_428)) dX0_perform_82 ?_
  obtain ⟨g11, h⟩ := gd_s h
  obtain ⟨z12, e_z12, h⟩ := nm_s h
  refine xs_14 hx hb hK hG hP hS k_152 l_152 (ix_in g11) dX0_perform_85 (fun H locs hP hS => ?_)
  rw [← e_z12] at hP
  refine lv_aload_n hx hb dX0_perform_86 rfl (lv_at hl 0 rfl) ?_
  refine lv_aload_n hx hb dX0_perform_87 rfl (lv_at hl 0 rfl) ?_
  refine ge_0_9 hx hb hts (inU inW_X0) hown hK hP k_146 (hts _ (List.mem_cons_of_mem _ lw_494)) dX0_perform_88 ?_
  obtain ⟨z14, h13, h⟩ := bv_s h
  refine x_Vv (Rz := z14) (As := [.int (z12.1 146 9)]) (rest := []) ⟨hx, hb, hml, hown, hts⟩ hK hP hS (kd_lt k_146 (by decide)) (cell_0 k_146) rfl (m_X0_carryOut hG   h13) (cwV 1 hts (gV lw_1042 lw_1044 lw_29 lw_120 lw_1045) rfl rfl rfl (by decide +kernel) (rmd_ok (by decide) (by decide))) rfl hl.1 rfl (Nat.le_of_ble_eq_true rfl) dX0_perform_91 ⟨Nat.le_refl _, Nat.le_refl _⟩ (fun H locs hP hS => ?_)
  refine lv_aload_n hx hb dX0_perform_94 rfl (lv_at hl 0 rfl) ?_
  refine lv_dup hx hb dX0_perform_95 rfl ?_
  refine ge_0_9 hx hb hts (inU inW_X0) hown hK hP k_146 (hts _ (List.mem_cons_of_mem _ lw_494)) dX0_perform_96 ?_
  refine lv_iconst (v := 1) hx hb dX0_perform_99 (by decide) ?_
  refine lv_iadd hx hb dX0_perform_100 ?_
  obtain ⟨z15, e_z15, h⟩ := nm_s h
  refine pu_0_9 hx hb hts (inU inW_X0) hown hK hG hP hS k_146 (hts _ (List.mem_cons_of_mem _ lw_494)) dX0_perform_101 (fun H locs hP hS => ?_)
  rw [← e_z15] at hP
  refine lv_aload_n hx hb dX0_perform_104 rfl (lv_at hl 0 rfl) ?_
  refine lv_aload_n hx hb dX0_perform_105 rfl (lv_at hl 0 rfl) ?_
  refine ge_0_9 hx hb hts (inU inW_X0) hown hK hP k_146 (hts _ (List.mem_cons_of_mem _ lw_494)) dX0_perform_106 ?_
  obtain ⟨z16, e_z16, h⟩ := nm_s h
  refine pu_0_10 hx hb hts (inU inW_X0) hown hK hG hP hS k_146 (hts _ (List.mem_cons_of_mem _ lw_496)) dX0_perform_109 (fun H locs hP hS => ?_)
  rw [← e_z16] at hP
  exact x_vret hx hb hr hlocks hK hP hS h dX0_perform_112
def fn_X0_perform (v1 : Int32) (v2 : Int32) (v3 : Int32) (v4 : Int32) (z : St) : Option (St) := (if (z.1 146 9) < 40 then fn_X0_perform_13   v1 v2 v3 v4 z else bv (fn_X0_dropOldest   z) (fun z3 => fn_X0_perform_13   v1 v2 v3 v4 z3))
set_option maxHeartbeats 4000000 in
set_option maxRecDepth 100000 in
theorem m_X0_perform {l : Launch} {G : wG} (hG : Ok G) {v1 : Int32} {v2 : Int32} {v3 : Int32} {v4 : Int32} {z : St} {Rz : St}  (h : fn_X0_perform  v1 v2 v3 v4 z = some Rz) : Met l yX0_perform (wsU yX0_perform cX0_perform 5 none) (rmd 7) (va_Pc [.ref (G.2.2 146), .int v1, .int v2, .int v3, .int v4] (Pre G z)) (va_Qv (fun u => u = Rz) (Pre G) (AW G)) 0 0 (AW G) := by
  refine Met.ofW (cc := cX0_perform) (maxL := 5) (ret := none) (by decide) rfl ?_
  intro p e s m args below meth c s₁ B hml hv
  obtain ⟨rfl, hP, hK⟩ := hv
  have C : CX p s m ([.ref (G.2.2 146), .int v1, .int v2, .int v3, .int v4] : List Value).toArray meth c cX0_perform 5 (wsU yX0_perform cX0_perform 5 none) RX0 none G := ⟨B.exec, B.bytes, hml, findClass_of_methodNamed B.named, atoms_spec (ws := (wsU yX0_perform cX0_perform 5 none)) B.pre, B.returns, B.notSynchronized, hK, hG⟩
  obtain ⟨hx, hb, -, hown, hts, hr, hlocks, -, -⟩ := id C
  have hS : va_S (AW G) s.heap s.heap [] := va_S.rf
  have hl := lv_entry [.ref (G.2.2 146), .int v1, .int v2, .int v3, .int v4] (n := 5) (Nat.le_of_ble_eq_true rfl)
  rw [lg_entry_eq]
  generalize (lg_sl [.ref (G.2.2 146), .int v1, .int v2, .int v3, .int v4] ++ List.replicate (5 - (lg_sl [.ref (G.2.2 146), .int v1, .int v2, .int v3, .int v4]).length) Slot.unset).toArray = ls at hl ⊢
  have hl : lv_has ls 5 [(0, .ref (G.2.2 146)), (1, .int v1), (2, .int v2), (3, .int v3), (4, .int v4)] := hl
  unfold fn_X0_perform at h
  refine lv_aload_n hx hb dX0_perform_0 rfl (lv_at hl 0 rfl) ?_
  refine ge_0_9 hx hb hts (inU inW_X0) hown hK hP k_146 (hts _ (List.mem_cons_of_mem _ lw_494)) dX0_perform_1 ?_
  refine lv_bipush (v := 40) hx hb dX0_perform_4 (by decide) ?_
  refine lv_icmp_lt (tgt := 13) hx hb dX0_perform_6 (by decide) (fun c1 => ?_) (fun c1 => ?_)
  · rw [if_pos c1] at h
    exact pf_X0_perform_13 C   v1 v2 v3 v4 z  hP hS (lv_sub hl [0, 1, 2, 3, 4] rfl) h
  · rw [if_neg c1] at h
    refine lv_aload_n hx hb dX0_perform_9 rfl (lv_at hl 0 rfl) ?_
    obtain ⟨z3, h2, h⟩ := bv_s h
    refine x_Vv (Rz := z3) (As := []) (rest := []) ⟨hx, hb, hml, hown, hts⟩ hK hP hS (kd_lt k_146 (by decide)) (cell_0 k_146) rfl (m_X0_dropOldest hG   h2) (cwV 0 hts (gV lw_1038 lw_1040 lw_28 lw_120 lw_1041) rfl rfl rfl (by decide +kernel) (rmd_ok (by decide) (by decide))) rfl hl.1 rfl (Nat.le_of_ble_eq_true rfl) dX0_perform_10 ⟨Nat.le_refl _, Nat.le_refl _⟩ (fun H locs hP hS => ?_)
    exact pf_X0_perform_13 C   v1 v2 v3 v4 z3  hP hS (lv_sub hl [0, 1, 2, 3, 4] rfl) h
def fn_X0_reverse (v1 : Int32) (z : St) : Option (St) := gd (ix v1 40) ((if (z.1 147 (Int32.toNatClampNeg v1)) = 0 then gd (ix v1 40) (gd (ix v1 40) (bv (fn_X1_rejoin  34 (z.1 148 (Int32.toNatClampNeg v1)) (z.1 149 (Int32.toNatClampNeg v1)) z) (fun z6 => gd (ix v1 40) (nm (sI z6 34 4 (z6.1 151 (Int32.toNatClampNeg v1))) (fun z8 => gd (ix v1 40) (nm (sI z8 34 3 (z8.1 152 (Int32.toNatClampNeg v1))) (fun z10 => some z10))))))) else (if (z.1 147 (Int32.toNatClampNeg v1)) = 1 then gd (ix v1 40) (gd (ix v1 40) (bv (fn_X1_lift  34 (z.1 148 (Int32.toNatClampNeg v1)) (z.1 149 (Int32.toNatClampNeg v1)) z) (fun z15 => some z15))) else (if (z.1 147 (Int32.toNatClampNeg v1)) = 2 then gd (ix v1 40) (gd (ix v1 40) (bv (fn_X1_put  34 (z.1 148 (Int32.toNatClampNeg v1)) (z.1 149 (Int32.toNatClampNeg v1)) z) (fun z20 => some z20))) else (gd (ix v1 40) (gd (ix v1 40) (bv (fn_X1_trade  34 (z.1 148 (Int32.toNatClampNeg v1)) (z.1 149 (Int32.toNatClampNeg v1)) z) (fun z24 => some z24))))))))
set_option maxHeartbeats 4000000 in
set_option maxRecDepth 100000 in
theorem m_X0_reverse {l : Launch} {G : wG} (hG : Ok G) {v1 : Int32} {z : St} {Rz : St}  (h : fn_X0_reverse  v1 z = some Rz) : Met l yX0_reverse (wsU yX0_reverse cX0_reverse 2 none) (rmd 4) (va_Pc [.ref (G.2.2 146), .int v1] (Pre G z)) (va_Qv (fun u => u = Rz) (Pre G) (AW G)) 0 0 (AW G) := by
  refine Met.ofW (cc := cX0_reverse) (maxL := 2) (ret := none) (by decide) rfl ?_
  intro p e s m args below meth c s₁ B hml hv
  obtain ⟨rfl, hP, hK⟩ := hv
  have C : CX p s m ([.ref (G.2.2 146), .int v1] : List Value).toArray meth c cX0_reverse 2 (wsU yX0_reverse cX0_reverse 2 none) RX0 none G := ⟨B.exec, B.bytes, hml, findClass_of_methodNamed B.named, atoms_spec (ws := (wsU yX0_reverse cX0_reverse 2 none)) B.pre, B.returns, B.notSynchronized, hK, hG⟩
  obtain ⟨hx, hb, -, hown, hts, hr, hlocks, -, -⟩ := id C
  have hS : va_S (AW G) s.heap s.heap [] := va_S.rf
  have hl := lv_entry [.ref (G.2.2 146), .int v1] (n := 2) (Nat.le_of_ble_eq_true rfl)
  rw [lg_entry_eq]
  generalize (lg_sl [.ref (G.2.2 146), .int v1] ++ List.replicate (2 - (lg_sl [.ref (G.2.2 146), .int v1]).length) Slot.unset).toArray = ls at hl ⊢
  have hl : lv_has ls 2 [(0, .ref (G.2.2 146)), (1, .int v1)] := hl
  unfold fn_X0_reverse at h
  refine lv_aload_n hx hb dX0_reverse_0 rfl (lv_at hl 0 rfl) ?_
  refine ge_0_3 hx hb hts (inU inW_X0) hown hK hP k_146 (hts _ (List.mem_cons_of_mem _ lw_488)) dX0_reverse_1 ?_
  refine lv_iload_n hx hb dX0_reverse_4 rfl (lv_at hl 1 rfl) ?_
  obtain ⟨g1, h⟩ := gd_s h
  refine xl_14 hx hb hK hP k_147 l_147 (ix_in g1) dX0_reverse_5 ?_
  by_cases c2 : (z.1 147 (Int32.toNatClampNeg v1)) = 0
  · rw [if_pos c2] at h
    refine lv_tableIn (off := 26) (tgt := 32) hx hb dX0_reverse_6 (by rw [c2]; decide) (by rw [c2]; decide) (by rw [c2]; rfl) (by decide) ?_
    refine lv_aload_n hx hb dX0_reverse_32 rfl (lv_at hl 0 rfl) ?_
    refine ge_0_1 hx hb hts (inU inW_X0) hown hK hP k_146 (hts _ (List.mem_cons_of_mem _ lw_486)) dX0_reverse_33 ?_
    refine lv_aload_n hx hb dX0_reverse_36 rfl (lv_at hl 0 rfl) ?_
    refine ge_0_4 hx hb hts (inU inW_X0) hown hK hP k_146 (hts _ (List.mem_cons_of_mem _ lw_489)) dX0_reverse_37 ?_
    refine lv_iload_n hx hb dX0_reverse_40 rfl (lv_at hl 1 rfl) ?_
    obtain ⟨g3, h⟩ := gd_s h
    refine xl_14 hx hb hK hP k_148 l_148 (ix_in g3) dX0_reverse_41 ?_
    refine lv_aload_n hx hb dX0_reverse_42 rfl (lv_at hl 0 rfl) ?_
    refine ge_0_5 hx hb hts (inU inW_X0) hown hK hP k_146 (hts _ (List.mem_cons_of_mem _ lw_490)) dX0_reverse_43 ?_
    refine lv_iload_n hx hb dX0_reverse_46 rfl (lv_at hl 1 rfl) ?_
    obtain ⟨g4, h⟩ := gd_s h
    refine xl_14 hx hb hK hP k_149 l_149 (ix_in g4) dX0_reverse_47 ?_
    obtain ⟨z6, h5, h⟩ := bv_s h
    refine x_Vv (Rz := z6) (As := [.int (z.1 148 (Int32.toNatClampNeg v1)), .int (z.1 149 (Int32.toNatClampNeg v1))]) (rest := []) ⟨hx, hb, hml, hown, hts⟩ hK hP hS (kd_lt k_34 (by decide)) (cell_1 k_34) rfl (m_X1_rejoin hG  k_34 h5) (cwV 2 hts (gV lw_1110 lw_1111 lw_1112 lw_117 lw_1113) rfl rfl rfl (by decide +kernel) (rmd_ok (by decide) (by decide))) rfl hl.1 rfl (Nat.le_of_ble_eq_true rfl) dX0_reverse_48 ⟨Nat.le_refl _, Nat.le_refl _⟩ (fun H locs hP hS => ?_)
    refine lv_aload_n hx hb dX0_reverse_51 rfl (lv_at hl 0 rfl) ?_
    refine ge_0_1 hx hb hts (inU inW_X0) hown hK hP k_146 (hts _ (List.mem_cons_of_mem _ lw_486)) dX0_reverse_52 ?_
    refine lv_aload_n hx hb dX0_reverse_55 rfl (lv_at hl 0 rfl) ?_
    refine ge_0_7 hx hb hts (inU inW_X0) hown hK hP k_146 (hts _ (List.mem_cons_of_mem _ lw_492)) dX0_reverse_56 ?_
    refine lv_iload_n hx hb dX0_reverse_59 rfl (lv_at hl 1 rfl) ?_
    obtain ⟨g7, h⟩ := gd_s h
    refine xl_14 hx hb hK hP k_151 l_151 (ix_in g7) dX0_reverse_60 ?_
    obtain ⟨z8, e_z8, h⟩ := nm_s h
    refine pu_1_4 hx hb hts (inU inW_X1) hown hK hG hP hS k_34 (hts _ (List.mem_cons_of_mem _ lw_431)) dX0_reverse_61 (fun H locs hP hS => ?_)
    rw [← e_z8] at hP
    refine lv_aload_n hx hb dX0_reverse_64 rfl (lv_at hl 0 rfl) ?_
    refine ge_0_1 hx hb hts (inU inW_X0) hown hK hP k_146 (hts _ (List.mem_cons_of_mem _ lw_486)) dX0_reverse_65 ?_
    refine lv_aload_n hx hb dX0_reverse_68 rfl (lv_at hl 0 rfl) ?_
    refine ge_0_8 hx hb hts (inU inW_X0) hown hK hP k_146 (hts _ (List.mem_cons_of_mem _ lw_493)) dX0_reverse_69 ?_
    refine lv_iload_n hx hb dX0_reverse_72 rfl (lv_at hl 1 rfl) ?_
    obtain ⟨g9, h⟩ := gd_s h
    refine xl_14 hx hb hK hP k_152 l_152 (ix_in g9) dX0_reverse_73 ?_
    obtain ⟨z10, e_z10, h⟩ := nm_s h
    refine pu_1_3 hx hb hts (inU inW_X1) hown hK hG hP hS k_34 (hts _ (List.mem_cons_of_mem _ lw_428)) dX0_reverse_74 (fun H locs hP hS => ?_)
    rw [← e_z10] at hP
    refine lv_goto (tgt := 143) hx hb dX0_reverse_77 (by decide) ?_
    exact x_vret hx hb hr hlocks hK hP hS h dX0_reverse_143
  rw [if_neg c2] at h
  by_cases c11 : (z.1 147 (Int32.toNatClampNeg v1)) = 1
  · rw [if_pos c11] at h
    refine lv_tableIn (off := 74) (tgt := 80) hx hb dX0_reverse_6 (by rw [c11]; decide) (by rw [c11]; decide) (by rw [c11]; rfl) (by decide) ?_
    refine lv_aload_n hx hb dX0_reverse_80 rfl (lv_at hl 0 rfl) ?_
    refine ge_0_1 hx hb hts (inU inW_X0) hown hK hP k_146 (hts _ (List.mem_cons_of_mem _ lw_486)) dX0_reverse_81 ?_
    refine lv_aload_n hx hb dX0_reverse_84 rfl (lv_at hl 0 rfl) ?_
    refine ge_0_4 hx hb hts (inU inW_X0) hown hK hP k_146 (hts _ (List.mem_cons_of_mem _ lw_489)) dX0_reverse_85 ?_
    refine lv_iload_n hx hb dX0_reverse_88 rfl (lv_at hl 1 rfl) ?_
    obtain ⟨g12, h⟩ := gd_s h
    refine xl_14 hx hb hK hP k_148 l_148 (ix_in g12) dX0_reverse_89 ?_
    refine lv_aload_n hx hb dX0_reverse_90 rfl (lv_at hl 0 rfl) ?_
    refine ge_0_5 hx hb hts (inU inW_X0) hown hK hP k_146 (hts _ (List.mem_cons_of_mem _ lw_490)) dX0_reverse_91 ?_
    refine lv_iload_n hx hb dX0_reverse_94 rfl (lv_at hl 1 rfl) ?_
    obtain ⟨g13, h⟩ := gd_s h
    refine xl_14 hx hb hK hP k_149 l_149 (ix_in g13) dX0_reverse_95 ?_
    obtain ⟨z15, h14, h⟩ := bv_s h
    refine x_Vv (Rz := z15) (As := [.int (z.1 148 (Int32.toNatClampNeg v1)), .int (z.1 149 (Int32.toNatClampNeg v1))]) (rest := []) ⟨hx, hb, hml, hown, hts⟩ hK hP hS (kd_lt k_34 (by decide)) (cell_1 k_34) rfl (m_X1_lift hG  k_34 h14) (cwV 2 hts (gV lw_1068 lw_1069 lw_1070 lw_117 lw_1071) rfl rfl rfl (by decide +kernel) (rmd_ok (by decide) (by decide))) rfl hl.1 rfl (Nat.le_of_ble_eq_true rfl) dX0_reverse_96 ⟨Nat.le_refl _, Nat.le_refl _⟩ (fun H locs hP hS => ?_)
    refine lv_goto (tgt := 143) hx hb dX0_reverse_99 (by decide) ?_
    exact x_vret hx hb hr hlocks hK hP hS h dX0_reverse_143
  rw [if_neg c11] at h
  by_cases c16 : (z.1 147 (Int32.toNatClampNeg v1)) = 2
  · rw [if_pos c16] at h
    refine lv_tableIn (off := 96) (tgt := 102) hx hb dX0_reverse_6 (by rw [c16]; decide) (by rw [c16]; decide) (by rw [c16]; rfl) (by decide) ?_
    refine lv_aload_n hx hb dX0_reverse_102 rfl (lv_at hl 0 rfl) ?_
    refine ge_0_1 hx hb hts (inU inW_X0) hown hK hP k_146 (hts _ (List.mem_cons_of_mem _ lw_486)) dX0_reverse_103 ?_
    refine lv_aload_n hx hb dX0_reverse_106 rfl (lv_at hl 0 rfl) ?_
    refine ge_0_4 hx hb hts (inU inW_X0) hown hK hP k_146 (hts _ (List.mem_cons_of_mem _ lw_489)) dX0_reverse_107 ?_
    refine lv_iload_n hx hb dX0_reverse_110 rfl (lv_at hl 1 rfl) ?_
    obtain ⟨g17, h⟩ := gd_s h
    refine xl_14 hx hb hK hP k_148 l_148 (ix_in g17) dX0_reverse_111 ?_
    refine lv_aload_n hx hb dX0_reverse_112 rfl (lv_at hl 0 rfl) ?_
    refine ge_0_5 hx hb hts (inU inW_X0) hown hK hP k_146 (hts _ (List.mem_cons_of_mem _ lw_490)) dX0_reverse_113 ?_
    refine lv_iload_n hx hb dX0_reverse_116 rfl (lv_at hl 1 rfl) ?_
    obtain ⟨g18, h⟩ := gd_s h
    refine xl_14 hx hb hK hP k_149 l_149 (ix_in g18) dX0_reverse_117 ?_
    obtain ⟨z20, h19, h⟩ := bv_s h
    refine x_Vv (Rz := z20) (As := [.int (z.1 148 (Int32.toNatClampNeg v1)), .int (z.1 149 (Int32.toNatClampNeg v1))]) (rest := []) ⟨hx, hb, hml, hown, hts⟩ hK hP hS (kd_lt k_34 (by decide)) (cell_1 k_34) rfl (m_X1_put hG  k_34 h19) (cwV 2 hts (gV lw_1064 lw_1065 lw_1066 lw_117 lw_1067) rfl rfl rfl (by decide +kernel) (rmd_ok (by decide) (by decide))) rfl hl.1 rfl (Nat.le_of_ble_eq_true rfl) dX0_reverse_118 ⟨Nat.le_refl _, Nat.le_refl _⟩ (fun H locs hP hS => ?_)
    refine lv_goto (tgt := 143) hx hb dX0_reverse_121 (by decide) ?_
    exact x_vret hx hb hr hlocks hK hP hS h dX0_reverse_143
  rw [if_neg c16] at h
  have n25 : ((z.1 147 (Int32.toNatClampNeg v1)) : Int32).toInt < 0 ∨ 2 < ((z.1 147 (Int32.toNatClampNeg v1)) : Int32).toInt := by
    have c2_n := lv_neT (a := 0) c2 (by decide)
    have c11_n := lv_neT (a := 1) c11 (by decide)
    have c16_n := lv_neT (a := 2) c16 (by decide)
    omega
  refine lv_tableOut (tgt := 124) hx hb dX0_reverse_6 n25 (by decide) ?_
  refine lv_aload_n hx hb dX0_reverse_124 rfl (lv_at hl 0 rfl) ?_
  refine ge_0_1 hx hb hts (inU inW_X0) hown hK hP k_146 (hts _ (List.mem_cons_of_mem _ lw_486)) dX0_reverse_125 ?_
  refine lv_aload_n hx hb dX0_reverse_128 rfl (lv_at hl 0 rfl) ?_
  refine ge_0_4 hx hb hts (inU inW_X0) hown hK hP k_146 (hts _ (List.mem_cons_of_mem _ lw_489)) dX0_reverse_129 ?_
  refine lv_iload_n hx hb dX0_reverse_132 rfl (lv_at hl 1 rfl) ?_
  obtain ⟨g21, h⟩ := gd_s h
  refine xl_14 hx hb hK hP k_148 l_148 (ix_in g21) dX0_reverse_133 ?_
  refine lv_aload_n hx hb dX0_reverse_134 rfl (lv_at hl 0 rfl) ?_
  refine ge_0_5 hx hb hts (inU inW_X0) hown hK hP k_146 (hts _ (List.mem_cons_of_mem _ lw_490)) dX0_reverse_135 ?_
  refine lv_iload_n hx hb dX0_reverse_138 rfl (lv_at hl 1 rfl) ?_
  obtain ⟨g22, h⟩ := gd_s h
  refine xl_14 hx hb hK hP k_149 l_149 (ix_in g22) dX0_reverse_139 ?_
  obtain ⟨z24, h23, h⟩ := bv_s h
  refine x_Vv (Rz := z24) (As := [.int (z.1 148 (Int32.toNatClampNeg v1)), .int (z.1 149 (Int32.toNatClampNeg v1))]) (rest := []) ⟨hx, hb, hml, hown, hts⟩ hK hP hS (kd_lt k_34 (by decide)) (cell_1 k_34) rfl (m_X1_trade hG  k_34 h23) (cwV 2 hts (gV lw_1072 lw_1073 lw_1074 lw_117 lw_1075) rfl rfl rfl (by decide +kernel) (rmd_ok (by decide) (by decide))) rfl hl.1 rfl (Nat.le_of_ble_eq_true rfl) dX0_reverse_140 ⟨Nat.le_refl _, Nat.le_refl _⟩ (fun H locs hP hS => ?_)
  exact x_vret hx hb hr hlocks hK hP hS h dX0_reverse_143
def fn_X0_takeBack  (z : St) : Option (Int32 × St) := (if 0 < (z.1 146 9) then nm (sI z 146 9 ((z.1 146 9) - 1)) (fun z2 => bv (fn_X0_reverse  (z2.1 146 9) z2) (fun z4 => some (1, z4))) else some (0, z))
set_option maxHeartbeats 4000000 in
set_option maxRecDepth 100000 in
theorem m_X0_takeBack {l : Launch} {G : wG} (hG : Ok G)  {z : St} {Rz : Int32 × St}  (h : fn_X0_takeBack   z = some Rz) : Met l yX0_takeBack (wsU yX0_takeBack cX0_takeBack 1 (some .boolean)) (rmd 5) (va_Pc [.ref (G.2.2 146)] (Pre G z)) (va_Qi (fun r u => (r, u) = Rz) (Pre G) (AW G)) 0 0 (AW G) := by
  refine Met.ofW (cc := cX0_takeBack) (maxL := 1) (ret := (some .boolean)) (by decide) rfl ?_
  intro p e s m args below meth c s₁ B hml hv
  obtain ⟨rfl, hP, hK⟩ := hv
  have C : CX p s m ([.ref (G.2.2 146)] : List Value).toArray meth c cX0_takeBack 1 (wsU yX0_takeBack cX0_takeBack 1 (some .boolean)) RX0 (some .boolean) G := ⟨B.exec, B.bytes, hml, findClass_of_methodNamed B.named, atoms_spec (ws := (wsU yX0_takeBack cX0_takeBack 1 (some .boolean))) B.pre, B.returns, B.notSynchronized, hK, hG⟩
  obtain ⟨hx, hb, -, hown, hts, hr, hlocks, -, -⟩ := id C
  have hS : va_S (AW G) s.heap s.heap [] := va_S.rf
  have hl := lv_entry [.ref (G.2.2 146)] (n := 1) (Nat.le_of_ble_eq_true rfl)
  rw [lg_entry_eq]
  generalize (lg_sl [.ref (G.2.2 146)] ++ List.replicate (1 - (lg_sl [.ref (G.2.2 146)]).length) Slot.unset).toArray = ls at hl ⊢
  have hl : lv_has ls 1 [(0, .ref (G.2.2 146))] := hl
  unfold fn_X0_takeBack at h
  refine lv_aload_n hx hb dX0_takeBack_0 rfl (lv_at hl 0 rfl) ?_
  refine ge_0_9 hx hb hts (inU inW_X0) hown hK hP k_146 (hts _ (List.mem_cons_of_mem _ lw_494)) dX0_takeBack_1 ?_
  refine lv_if_gt (tgt := 9) hx hb dX0_takeBack_4 (by decide) (fun c1 => ?_) (fun c1 => ?_)
  · rw [if_pos c1] at h
    refine lv_aload_n hx hb dX0_takeBack_9 rfl (lv_at hl 0 rfl) ?_
    refine lv_dup hx hb dX0_takeBack_10 rfl ?_
    refine ge_0_9 hx hb hts (inU inW_X0) hown hK hP k_146 (hts _ (List.mem_cons_of_mem _ lw_494)) dX0_takeBack_11 ?_
    refine lv_iconst (v := 1) hx hb dX0_takeBack_14 (by decide) ?_
    refine lv_isub hx hb dX0_takeBack_15 ?_
    obtain ⟨z2, e_z2, h⟩ := nm_s h
    refine pu_0_9 hx hb hts (inU inW_X0) hown hK hG hP hS k_146 (hts _ (List.mem_cons_of_mem _ lw_494)) dX0_takeBack_16 (fun H locs hP hS => ?_)
    rw [← e_z2] at hP
    refine lv_aload_n hx hb dX0_takeBack_19 rfl (lv_at hl 0 rfl) ?_
    refine lv_aload_n hx hb dX0_takeBack_20 rfl (lv_at hl 0 rfl) ?_
    refine ge_0_9 hx hb hts (inU inW_X0) hown hK hP k_146 (hts _ (List.mem_cons_of_mem _ lw_494)) dX0_takeBack_21 ?_
    obtain ⟨z4, h3, h⟩ := bv_s h
    refine x_Vv (Rz := z4) (As := [.int (z2.1 146 9)]) (rest := []) ⟨hx, hb, hml, hown, hts⟩ hK hP hS (kd_lt k_146 (by decide)) (cell_0 k_146) rfl (m_X0_reverse hG   h3) (cwV 1 hts (gV lw_1106 lw_1108 lw_31 lw_120 lw_1109) rfl rfl rfl (by decide +kernel) (rmd_ok (by decide) (by decide))) rfl hl.1 rfl (Nat.le_of_ble_eq_true rfl) dX0_takeBack_24 ⟨Nat.le_refl _, Nat.le_refl _⟩ (fun H locs hP hS => ?_)
    refine lv_iconst (v := 1) hx hb dX0_takeBack_27 (by decide) ?_
    exact x_zret hx hb hr hlocks hK hP hS rfl h dX0_takeBack_28
  · rw [if_neg c1] at h
    refine lv_iconst (v := 0) hx hb dX0_takeBack_7 (by decide) ?_
    exact x_zret hx hb hr hlocks hK hP hS rfl h dX0_takeBack_8
def fn_X0_doAgain  (z : St) : Option (Int32 × St) := (if (z.1 146 10) ≤ (z.1 146 9) then some (0, z) else (if (z.1 146 9) < 40 then bv (fn_X0_carryOut  (z.1 146 9) z) (fun z4 => nm (sI z4 146 9 ((z4.1 146 9) + 1)) (fun z5 => some (1, z5))) else some (0, z)))
set_option maxHeartbeats 4000000 in
set_option maxRecDepth 100000 in
theorem m_X0_doAgain {l : Launch} {G : wG} (hG : Ok G)  {z : St} {Rz : Int32 × St}  (h : fn_X0_doAgain   z = some Rz) : Met l yX0_doAgain (wsU yX0_doAgain cX0_doAgain 1 (some .boolean)) (rmd 7) (va_Pc [.ref (G.2.2 146)] (Pre G z)) (va_Qi (fun r u => (r, u) = Rz) (Pre G) (AW G)) 0 0 (AW G) := by
  refine Met.ofW (cc := cX0_doAgain) (maxL := 1) (ret := (some .boolean)) (by decide) rfl ?_
  intro p e s m args below meth c s₁ B hml hv
  obtain ⟨rfl, hP, hK⟩ := hv
  have C : CX p s m ([.ref (G.2.2 146)] : List Value).toArray meth c cX0_doAgain 1 (wsU yX0_doAgain cX0_doAgain 1 (some .boolean)) RX0 (some .boolean) G := ⟨B.exec, B.bytes, hml, findClass_of_methodNamed B.named, atoms_spec (ws := (wsU yX0_doAgain cX0_doAgain 1 (some .boolean))) B.pre, B.returns, B.notSynchronized, hK, hG⟩
  obtain ⟨hx, hb, -, hown, hts, hr, hlocks, -, -⟩ := id C
  have hS : va_S (AW G) s.heap s.heap [] := va_S.rf
  have hl := lv_entry [.ref (G.2.2 146)] (n := 1) (Nat.le_of_ble_eq_true rfl)
  rw [lg_entry_eq]
  generalize (lg_sl [.ref (G.2.2 146)] ++ List.replicate (1 - (lg_sl [.ref (G.2.2 146)]).length) Slot.unset).toArray = ls at hl ⊢
  have hl : lv_has ls 1 [(0, .ref (G.2.2 146))] := hl
  unfold fn_X0_doAgain at h
  refine lv_aload_n hx hb dX0_doAgain_0 rfl (lv_at hl 0 rfl) ?_
  refine ge_0_9 hx hb hts (inU inW_X0) hown hK hP k_146 (hts _ (List.mem_cons_of_mem _ lw_494)) dX0_doAgain_1 ?_
  refine lv_aload_n hx hb dX0_doAgain_4 rfl (lv_at hl 0 rfl) ?_
  refine ge_0_10 hx hb hts (inU inW_X0) hown hK hP k_146 (hts _ (List.mem_cons_of_mem _ lw_496)) dX0_doAgain_5 ?_
  refine lv_icmp_ge (tgt := 20) hx hb dX0_doAgain_8 (by decide) (fun c1 => ?_) (fun c1 => ?_)
  · rw [if_pos c1] at h
    refine lv_iconst (v := 0) hx hb dX0_doAgain_20 (by decide) ?_
    exact x_zret hx hb hr hlocks hK hP hS rfl h dX0_doAgain_21
  · rw [if_neg c1] at h
    refine lv_aload_n hx hb dX0_doAgain_11 rfl (lv_at hl 0 rfl) ?_
    refine ge_0_9 hx hb hts (inU inW_X0) hown hK hP k_146 (hts _ (List.mem_cons_of_mem _ lw_494)) dX0_doAgain_12 ?_
    refine lv_bipush (v := 40) hx hb dX0_doAgain_15 (by decide) ?_
    refine lv_icmp_lt (tgt := 22) hx hb dX0_doAgain_17 (by decide) (fun c2 => ?_) (fun c2 => ?_)
    · rw [if_pos c2] at h
      refine lv_aload_n hx hb dX0_doAgain_22 rfl (lv_at hl 0 rfl) ?_
      refine lv_aload_n hx hb dX0_doAgain_23 rfl (lv_at hl 0 rfl) ?_
      refine ge_0_9 hx hb hts (inU inW_X0) hown hK hP k_146 (hts _ (List.mem_cons_of_mem _ lw_494)) dX0_doAgain_24 ?_
      obtain ⟨z4, h3, h⟩ := bv_s h
      refine x_Vv (Rz := z4) (As := [.int (z.1 146 9)]) (rest := []) ⟨hx, hb, hml, hown, hts⟩ hK hP hS (kd_lt k_146 (by decide)) (cell_0 k_146) rfl (m_X0_carryOut hG   h3) (cwV 1 hts (gV lw_1042 lw_1044 lw_29 lw_120 lw_1045) rfl rfl rfl (by decide +kernel) (rmd_ok (by decide) (by decide))) rfl hl.1 rfl (Nat.le_of_ble_eq_true rfl) dX0_doAgain_27 ⟨Nat.le_refl _, Nat.le_refl _⟩ (fun H locs hP hS => ?_)
      refine lv_aload_n hx hb dX0_doAgain_30 rfl (lv_at hl 0 rfl) ?_
      refine lv_dup hx hb dX0_doAgain_31 rfl ?_
      refine ge_0_9 hx hb hts (inU inW_X0) hown hK hP k_146 (hts _ (List.mem_cons_of_mem _ lw_494)) dX0_doAgain_32 ?_
      refine lv_iconst (v := 1) hx hb dX0_doAgain_35 (by decide) ?_
      refine lv_iadd hx hb dX0_doAgain_36 ?_
      obtain ⟨z5, e_z5, h⟩ := nm_s h
      refine pu_0_9 hx hb hts (inU inW_X0) hown hK hG hP hS k_146 (hts _ (List.mem_cons_of_mem _ lw_494)) dX0_doAgain_37 (fun H locs hP hS => ?_)
      rw [← e_z5] at hP
      refine lv_iconst (v := 1) hx hb dX0_doAgain_40 (by decide) ?_
      exact x_zret hx hb hr hlocks hK hP hS rfl h dX0_doAgain_41
    · rw [if_neg c2] at h
      refine lv_iconst (v := 0) hx hb dX0_doAgain_20 (by decide) ?_
      exact x_zret hx hb hr hlocks hK hP hS rfl h dX0_doAgain_21
