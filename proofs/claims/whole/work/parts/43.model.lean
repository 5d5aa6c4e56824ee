def fn_X12_piece (v1 : Int32) (v2 : Int32) (z : St) : Option (Int32 × St) := bd (fn_X12_isPiece  v1 z) (fun r2 z3 => (if r2 = 0 then some ((-2), z3) else bv (fn_X12_load   z3) (fun z6 => (if v2 = 0 then gd (ix (7 * v1) 171) (some ((z6.1 198 (Int32.toNatClampNeg (7 * v1))), z6)) else (if v2 = 1 then gd (ix ((7 * v1) + 1) 171) (some ((z6.1 198 (Int32.toNatClampNeg ((7 * v1) + 1))), z6)) else (if v2 = 2 then gd (ix ((7 * v1) + 2) 171) (some ((z6.1 198 (Int32.toNatClampNeg ((7 * v1) + 2))), z6)) else (if v2 = 3 then gd (ix ((7 * v1) + 3) 171) (some ((z6.1 198 (Int32.toNatClampNeg ((7 * v1) + 3))), z6)) else (if v2 = 4 then gd (ix ((7 * v1) + 4) 171) (some ((z6.1 198 (Int32.toNatClampNeg ((7 * v1) + 4))), z6)) else (if v2 = 5 then bd (fn_X12_areaOf  v1 z6) (fun r19 z20 => some (r19, z20)) else (if v2 = 6 then bd (fn_X12_icingOf  v1 z6) (fun r23 z24 => some (r23, z24)) else (if v2 = 7 then gd (ix ((7 * v1) + 5) 171) (some ((z6.1 198 (Int32.toNatClampNeg ((7 * v1) + 5))), z6)) else (if v2 = 8 then gd (ix ((7 * v1) + 6) 171) (some ((z6.1 198 (Int32.toNatClampNeg ((7 * v1) + 6))), z6)) else (some ((-2), z6))))))))))))))
set_option maxHeartbeats 4000000 in
set_option maxRecDepth 100000 in
theorem m_X12_piece {l : Launch} {G : wG} (hG : Ok G) {v1 : Int32} {v2 : Int32} {z : St} {Rz : Int32 × St}  (h : fn_X12_piece  v1 v2 z = some Rz) : Met l yX12_piece (wsU yX12_piece cX12_piece 3 (some .int)) (rmd 3) (va_Pc [.ref (G.2.2 172), .int v1, .int v2] (Pre G z)) (va_Qi (fun r u => (r, u) = Rz) (Pre G) (AW G)) 0 0 (AW G) := by
  refine Met.ofW (cc := cX12_piece) (maxL := 3) (ret := (some .int)) (by decide) rfl ?_
  intro p e s m args below meth c s₁ B hml hv
  obtain ⟨rfl, hP, hK⟩ := hv
  have C : CX p s m ([.ref (G.2.2 172), .int v1, .int v2] : List Value).toArray meth c cX12_piece 3 (wsU yX12_piece cX12_piece 3 (some .int)) RX12 (some .int) G := ⟨B.exec, B.bytes, hml, findClass_of_methodNamed B.named, atoms_spec (ws := (wsU yX12_piece cX12_piece 3 (some .int))) B.pre, B.returns, B.notSynchronized, hK, hG⟩
  obtain ⟨hx, hb, -, hown, hts, hr, hlocks, -, -⟩ := id C
  have hS : va_S (AW G) s.heap s.heap [] := va_S.rf
  have hl := lv_entry [.ref (G.2.2 172), .int v1, .int v2] (n := 3) (Nat.le_of_ble_eq_true rfl)
  rw [lg_entry_eq]
  generalize (lg_sl [.ref (G.2.2 172), .int v1, .int v2] ++ List.replicate (3 - (lg_sl [.ref (G.2.2 172), .int v1, .int v2]).length) Slot.unset).toArray = ls at hl ⊢
  have hl : lv_has ls 3 [(0, .ref (G.2.2 172)), (1, .int v1), (2, .int v2)] := hl
  unfold fn_X12_piece at h
  refine lv_aload_n hx hb dX12_piece_0 rfl (lv_at hl 0 rfl) ?_
  refine lv_iload_n hx hb dX12_piece_1 rfl (lv_at hl 1 rfl) ?_
  obtain ⟨r2, z3, h1, h⟩ := bd_s h
  refine x_Vi (Rz := (r2, z3)) (As := [.int v1]) (rest := []) ⟨hx, hb, hml, hown, hts⟩ hK hP hS (kd_lt k_172 (by decide)) (cell_12 k_172) rfl (m_X12_isPiece hG   h1) (cwV 1 hts (gV lw_1823 lw_1825 lw_72 lw_125 lw_1826) rfl rfl rfl (by decide +kernel) (rmd_ok (by decide) (by decide))) rfl hl.1 rfl (Nat.le_of_ble_eq_true rfl) dX12_piece_2 ⟨Nat.le_refl _, Nat.le_refl _⟩ (fun H locs hP hS => ?_)
  refine lv_if_ne (tgt := 11) hx hb dX12_piece_5 (by decide) (fun c4 => ?_) (fun c4 => ?_)
  · rw [if_neg c4] at h
    refine lv_aload_n hx hb dX12_piece_11 rfl (lv_at hl 0 rfl) ?_
    obtain ⟨z6, h5, h⟩ := bv_s h
    refine x_Vv (Rz := z6) (As := []) (rest := []) ⟨hx, hb, hml, hown, hts⟩ hK hP hS (kd_lt k_172 (by decide)) (cell_12 k_172) rfl (m_X12_load hG   h5) (cwV 0 hts (gV lw_1830 lw_1832 lw_73 lw_125 lw_1833) rfl rfl rfl (by decide +kernel) (rmd_ok (by decide) (by decide))) rfl hl.1 rfl (Nat.le_of_ble_eq_true rfl) dX12_piece_12 ⟨Nat.le_refl _, Nat.le_refl _⟩ (fun H locs hP hS => ?_)
    refine lv_iload_n hx hb dX12_piece_15 rfl (lv_at hl 2 rfl) ?_
    by_cases c7 : v2 = 0
    · rw [if_pos c7] at h
      refine lv_tableIn (off := 52) (tgt := 68) hx hb dX12_piece_16 (by rw [c7]; decide) (by rw [c7]; decide) (by rw [c7]; rfl) (by decide) ?_
      refine lv_aload_n hx hb dX12_piece_68 rfl (lv_at hl 0 rfl) ?_
      refine ge_12_49 hx hb hts (inU inW_X12) hown hK hP k_172 (hts _ (List.mem_cons_of_mem _ lw_1483)) dX12_piece_69 ?_
      refine lv_bipush (v := 7) hx hb dX12_piece_72 (by decide) ?_
      refine lv_iload_n hx hb dX12_piece_74 rfl (lv_at hl 1 rfl) ?_
      refine lv_imul hx hb dX12_piece_75 ?_
      obtain ⟨g8, h⟩ := gd_s h
      refine xl_14 hx hb hK hP k_198 l_198 (ix_in g8) dX12_piece_76 ?_
      exact x_iret hx hb hr hlocks hK hP hS h dX12_piece_77
    rw [if_neg c7] at h
    by_cases c9 : v2 = 1
    · rw [if_pos c9] at h
      refine lv_tableIn (off := 62) (tgt := 78) hx hb dX12_piece_16 (by rw [c9]; decide) (by rw [c9]; decide) (by rw [c9]; rfl) (by decide) ?_
      refine lv_aload_n hx hb dX12_piece_78 rfl (lv_at hl 0 rfl) ?_
      refine ge_12_49 hx hb hts (inU inW_X12) hown hK hP k_172 (hts _ (List.mem_cons_of_mem _ lw_1483)) dX12_piece_79 ?_
      refine lv_bipush (v := 7) hx hb dX12_piece_82 (by decide) ?_
      refine lv_iload_n hx hb dX12_piece_84 rfl (lv_at hl 1 rfl) ?_
      refine lv_imul hx hb dX12_piece_85 ?_
      refine lv_iconst (v := 1) hx hb dX12_piece_86 (by decide) ?_
      refine lv_iadd hx hb dX12_piece_87 ?_
      obtain ⟨g10, h⟩ := gd_s h
      refine xl_14 hx hb hK hP k_198 l_198 (ix_in g10) dX12_piece_88 ?_
      exact x_iret hx hb hr hlocks hK hP hS h dX12_piece_89
    rw [if_neg c9] at h
    by_cases c11 : v2 = 2
    · rw [if_pos c11] at h
      refine lv_tableIn (off := 74) (tgt := 90) hx hb dX12_piece_16 (by rw [c11]; decide) (by rw [c11]; decide) (by rw [c11]; rfl) (by decide) ?_
      refine lv_aload_n hx hb dX12_piece_90 rfl (lv_at hl 0 rfl) ?_
      refine ge_12_49 hx hb hts (inU inW_X12) hown hK hP k_172 (hts _ (List.mem_cons_of_mem _ lw_1483)) dX12_piece_91 ?_
      refine lv_bipush (v := 7) hx hb dX12_piece_94 (by decide) ?_
      refine lv_iload_n hx hb dX12_piece_96 rfl (lv_at hl 1 rfl) ?_
      refine lv_imul hx hb dX12_piece_97 ?_
      refine lv_iconst (v := 2) hx hb dX12_piece_98 (by decide) ?_
      refine lv_iadd hx hb dX12_piece_99 ?_
      obtain ⟨g12, h⟩ := gd_s h
      refine xl_14 hx hb hK hP k_198 l_198 (ix_in g12) dX12_piece_100 ?_
      exact x_iret hx hb hr hlocks hK hP hS h dX12_piece_101
    rw [if_neg c11] at h
    by_cases c13 : v2 = 3
    · rw [if_pos c13] at h
      refine lv_tableIn (off := 86) (tgt := 102) hx hb dX12_piece_16 (by rw [c13]; decide) (by rw [c13]; decide) (by rw [c13]; rfl) (by decide) ?_
      refine lv_aload_n hx hb dX12_piece_102 rfl (lv_at hl 0 rfl) ?_
      refine ge_12_49 hx hb hts (inU inW_X12) hown hK hP k_172 (hts _ (List.mem_cons_of_mem _ lw_1483)) dX12_piece_103 ?_
      refine lv_bipush (v := 7) hx hb dX12_piece_106 (by decide) ?_
      refine lv_iload_n hx hb dX12_piece_108 rfl (lv_at hl 1 rfl) ?_
      refine lv_imul hx hb dX12_piece_109 ?_
      refine lv_iconst (v := 3) hx hb dX12_piece_110 (by decide) ?_
      refine lv_iadd hx hb dX12_piece_111 ?_
      obtain ⟨g14, h⟩ := gd_s h
      refine xl_14 hx hb hK hP k_198 l_198 (ix_in g14) dX12_piece_112 ?_
      exact x_iret hx hb hr hlocks hK hP hS h dX12_piece_113
    rw [if_neg c13] at h
    by_cases c15 : v2 = 4
    · rw [if_pos c15] at h
      refine lv_tableIn (off := 98) (tgt := 114) hx hb dX12_piece_16 (by rw [c15]; decide) (by rw [c15]; decide) (by rw [c15]; rfl) (by decide) ?_
      refine lv_aload_n hx hb dX12_piece_114 rfl (lv_at hl 0 rfl) ?_
      refine ge_12_49 hx hb hts (inU inW_X12) hown hK hP k_172 (hts _ (List.mem_cons_of_mem _ lw_1483)) dX12_piece_115 ?_
      refine lv_bipush (v := 7) hx hb dX12_piece_118 (by decide) ?_
      refine lv_iload_n hx hb dX12_piece_120 rfl (lv_at hl 1 rfl) ?_
      refine lv_imul hx hb dX12_piece_121 ?_
      refine lv_iconst (v := 4) hx hb dX12_piece_122 (by decide) ?_
      refine lv_iadd hx hb dX12_piece_123 ?_
      obtain ⟨g16, h⟩ := gd_s h
      refine xl_14 hx hb hK hP k_198 l_198 (ix_in g16) dX12_piece_124 ?_
      exact x_iret hx hb hr hlocks hK hP hS h dX12_piece_125
    rw [if_neg c15] at h
    by_cases c17 : v2 = 5
    · rw [if_pos c17] at h
      refine lv_tableIn (off := 110) (tgt := 126) hx hb dX12_piece_16 (by rw [c17]; decide) (by rw [c17]; decide) (by rw [c17]; rfl) (by decide) ?_
      refine lv_aload_n hx hb dX12_piece_126 rfl (lv_at hl 0 rfl) ?_
      refine lv_iload_n hx hb dX12_piece_127 rfl (lv_at hl 1 rfl) ?_
      obtain ⟨r19, z20, h18, h⟩ := bd_s h
      refine x_Vi (Rz := (r19, z20)) (As := [.int v1]) (rest := []) ⟨hx, hb, hml, hown, hts⟩ hK hP hS (kd_lt k_172 (by decide)) (cell_12 k_172) rfl (m_X12_areaOf hG   h18) (cwV 1 hts (gV lw_1834 lw_1836 lw_74 lw_125 lw_1837) rfl rfl rfl (by decide +kernel) (rmd_ok (by decide) (by decide))) rfl hl.1 rfl (Nat.le_of_ble_eq_true rfl) dX12_piece_128 ⟨Nat.le_refl _, Nat.le_refl _⟩ (fun H locs hP hS => ?_)
      exact x_iret hx hb hr hlocks hK hP hS h dX12_piece_131
    rw [if_neg c17] at h
    by_cases c21 : v2 = 6
    · rw [if_pos c21] at h
      refine lv_tableIn (off := 116) (tgt := 132) hx hb dX12_piece_16 (by rw [c21]; decide) (by rw [c21]; decide) (by rw [c21]; rfl) (by decide) ?_
      refine lv_aload_n hx hb dX12_piece_132 rfl (lv_at hl 0 rfl) ?_
      refine lv_iload_n hx hb dX12_piece_133 rfl (lv_at hl 1 rfl) ?_
      obtain ⟨r23, z24, h22, h⟩ := bd_s h
      refine x_Vi (Rz := (r23, z24)) (As := [.int v1]) (rest := []) ⟨hx, hb, hml, hown, hts⟩ hK hP hS (kd_lt k_172 (by decide)) (cell_12 k_172) rfl (m_X12_icingOf hG   h22) (cwV 1 hts (gV lw_1838 lw_1840 lw_75 lw_125 lw_1841) rfl rfl rfl (by decide +kernel) (rmd_ok (by decide) (by decide))) rfl hl.1 rfl (Nat.le_of_ble_eq_true rfl) dX12_piece_134 ⟨Nat.le_refl _, Nat.le_refl _⟩ (fun H locs hP hS => ?_)
      exact x_iret hx hb hr hlocks hK hP hS h dX12_piece_137
    rw [if_neg c21] at h
    by_cases c25 : v2 = 7
    · rw [if_pos c25] at h
      refine lv_tableIn (off := 122) (tgt := 138) hx hb dX12_piece_16 (by rw [c25]; decide) (by rw [c25]; decide) (by rw [c25]; rfl) (by decide) ?_
      refine lv_aload_n hx hb dX12_piece_138 rfl (lv_at hl 0 rfl) ?_
      refine ge_12_49 hx hb hts (inU inW_X12) hown hK hP k_172 (hts _ (List.mem_cons_of_mem _ lw_1483)) dX12_piece_139 ?_
      refine lv_bipush (v := 7) hx hb dX12_piece_142 (by decide) ?_
      refine lv_iload_n hx hb dX12_piece_144 rfl (lv_at hl 1 rfl) ?_
      refine lv_imul hx hb dX12_piece_145 ?_
      refine lv_iconst (v := 5) hx hb dX12_piece_146 (by decide) ?_
      refine lv_iadd hx hb dX12_piece_147 ?_
      obtain ⟨g26, h⟩ := gd_s h
      refine xl_14 hx hb hK hP k_198 l_198 (ix_in g26) dX12_piece_148 ?_
      exact x_iret hx hb hr hlocks hK hP hS h dX12_piece_149
    rw [if_neg c25] at h
    by_cases c27 : v2 = 8
    · rw [if_pos c27] at h
      refine lv_tableIn (off := 134) (tgt := 150) hx hb dX12_piece_16 (by rw [c27]; decide) (by rw [c27]; decide) (by rw [c27]; rfl) (by decide) ?_
      refine lv_aload_n hx hb dX12_piece_150 rfl (lv_at hl 0 rfl) ?_
      refine ge_12_49 hx hb hts (inU inW_X12) hown hK hP k_172 (hts _ (List.mem_cons_of_mem _ lw_1483)) dX12_piece_151 ?_
      refine lv_bipush (v := 7) hx hb dX12_piece_154 (by decide) ?_
      refine lv_iload_n hx hb dX12_piece_156 rfl (lv_at hl 1 rfl) ?_
      refine lv_imul hx hb dX12_piece_157 ?_
      refine lv_bipush (v := 6) hx hb dX12_piece_158 (by decide) ?_
      refine lv_iadd hx hb dX12_piece_160 ?_
      obtain ⟨g28, h⟩ := gd_s h
      refine xl_14 hx hb hK hP k_198 l_198 (ix_in g28) dX12_piece_161 ?_
      exact x_iret hx hb hr hlocks hK hP hS h dX12_piece_162
    rw [if_neg c27] at h
    have n29 : (v2 : Int32).toInt < 0 ∨ 8 < (v2 : Int32).toInt := by
      have c7_n := lv_neT (a := 0) c7 (by decide)
      have c9_n := lv_neT (a := 1) c9 (by decide)
      have c11_n := lv_neT (a := 2) c11 (by decide)
      have c13_n := lv_neT (a := 3) c13 (by decide)
      have c15_n := lv_neT (a := 4) c15 (by decide)
      have c17_n := lv_neT (a := 5) c17 (by decide)
      have c21_n := lv_neT (a := 6) c21 (by decide)
      have c25_n := lv_neT (a := 7) c25 (by decide)
      have c27_n := lv_neT (a := 8) c27 (by decide)
      omega
    refine lv_tableOut (tgt := 163) hx hb dX12_piece_16 n29 (by decide) ?_
    refine lv_bipush (v := (-2)) hx hb dX12_piece_163 (by decide) ?_
    exact x_iret hx hb hr hlocks hK hP hS h dX12_piece_165
  · rw [if_pos c4] at h
    refine lv_bipush (v := (-2)) hx hb dX12_piece_8 (by decide) ?_
    exact x_iret hx hb hr hlocks hK hP hS h dX12_piece_10
def fn_X12_guest (v1 : Int32) (v2 : Int32) (z : St) : Option (Int32 × St) := bd (fn_X12_isGuest  v1 z) (fun r2 z3 => (if r2 = 0 then some ((-2), z3) else bv (fn_X12_load   z3) (fun z6 => bd (fn_X12_pieceOf  v1 z6) (fun r8 z9 => (if v2 = 0 then gd (ix v1 6) (some ((z9.1 194 (Int32.toNatClampNeg v1)), z9)) else (if v2 = 1 then gd (ix v1 6) (some ((z9.1 195 (Int32.toNatClampNeg v1)), z9)) else (if v2 = 2 then gd (ix v1 6) (some ((z9.1 196 (Int32.toNatClampNeg v1)), z9)) else (if v2 = 3 then some (r8, z9) else (if v2 = 4 then (if 0 ≤ r8 then bd (fn_X12_worthOf  v1 r8 z9) (fun r20 z21 => some (r20, z21)) else some (0, z9)) else (some ((-2), z9)))))))))))
set_option maxHeartbeats 4000000 in
set_option maxRecDepth 100000 in
theorem m_X12_guest {l : Launch} {G : wG} (hG : Ok G) {v1 : Int32} {v2 : Int32} {z : St} {Rz : Int32 × St}  (h : fn_X12_guest  v1 v2 z = some Rz) : Met l yX12_guest (wsU yX12_guest cX12_guest 4 (some .int)) (rmd 5) (va_Pc [.ref (G.2.2 172), .int v1, .int v2] (Pre G z)) (va_Qi (fun r u => (r, u) = Rz) (Pre G) (AW G)) 0 0 (AW G) := by
  refine Met.ofW (cc := cX12_guest) (maxL := 4) (ret := (some .int)) (by decide) rfl ?_
  intro p e s m args below meth c s₁ B hml hv
  obtain ⟨rfl, hP, hK⟩ := hv
  have C : CX p s m ([.ref (G.2.2 172), .int v1, .int v2] : List Value).toArray meth c cX12_guest 4 (wsU yX12_guest cX12_guest 4 (some .int)) RX12 (some .int) G := ⟨B.exec, B.bytes, hml, findClass_of_methodNamed B.named, atoms_spec (ws := (wsU yX12_guest cX12_guest 4 (some .int))) B.pre, B.returns, B.notSynchronized, hK, hG⟩
  obtain ⟨hx, hb, -, hown, hts, hr, hlocks, -, -⟩ := id C
  have hS : va_S (AW G) s.heap s.heap [] := va_S.rf
  have hl := lv_entry [.ref (G.2.2 172), .int v1, .int v2] (n := 4) (Nat.le_of_ble_eq_true rfl)
  rw [lg_entry_eq]
  generalize (lg_sl [.ref (G.2.2 172), .int v1, .int v2] ++ List.replicate (4 - (lg_sl [.ref (G.2.2 172), .int v1, .int v2]).length) Slot.unset).toArray = ls at hl ⊢
  have hl : lv_has ls 4 [(0, .ref (G.2.2 172)), (1, .int v1), (2, .int v2)] := hl
  unfold fn_X12_guest at h
  refine lv_aload_n hx hb dX12_guest_0 rfl (lv_at hl 0 rfl) ?_
  refine lv_iload_n hx hb dX12_guest_1 rfl (lv_at hl 1 rfl) ?_
  obtain ⟨r2, z3, h1, h⟩ := bd_s h
  refine x_Vi (Rz := (r2, z3)) (As := [.int v1]) (rest := []) ⟨hx, hb, hml, hown, hts⟩ hK hP hS (kd_lt k_172 (by decide)) (cell_12 k_172) rfl (m_X12_isGuest hG   h1) (cwV 1 hts (gV lw_1849 lw_1851 lw_76 lw_125 lw_1852) rfl rfl rfl (by decide +kernel) (rmd_ok (by decide) (by decide))) rfl hl.1 rfl (Nat.le_of_ble_eq_true rfl) dX12_guest_2 ⟨Nat.le_refl _, Nat.le_refl _⟩ (fun H locs hP hS => ?_)
  refine lv_if_ne (tgt := 11) hx hb dX12_guest_5 (by decide) (fun c4 => ?_) (fun c4 => ?_)
  · rw [if_neg c4] at h
    refine lv_aload_n hx hb dX12_guest_11 rfl (lv_at hl 0 rfl) ?_
    obtain ⟨z6, h5, h⟩ := bv_s h
    refine x_Vv (Rz := z6) (As := []) (rest := []) ⟨hx, hb, hml, hown, hts⟩ hK hP hS (kd_lt k_172 (by decide)) (cell_12 k_172) rfl (m_X12_load hG   h5) (cwV 0 hts (gV lw_1830 lw_1832 lw_73 lw_125 lw_1833) rfl rfl rfl (by decide +kernel) (rmd_ok (by decide) (by decide))) rfl hl.1 rfl (Nat.le_of_ble_eq_true rfl) dX12_guest_12 ⟨Nat.le_refl _, Nat.le_refl _⟩ (fun H locs hP hS => ?_)
    refine lv_aload_n hx hb dX12_guest_15 rfl (lv_at hl 0 rfl) ?_
    refine lv_iload_n hx hb dX12_guest_16 rfl (lv_at hl 1 rfl) ?_
    obtain ⟨r8, z9, h7, h⟩ := bd_s h
    refine x_Vi (Rz := (r8, z9)) (As := [.int v1]) (rest := []) ⟨hx, hb, hml, hown, hts⟩ hK hP hS (kd_lt k_172 (by decide)) (cell_12 k_172) rfl (m_X12_pieceOf hG   h7) (cwV 1 hts (gV lw_1853 lw_1855 lw_77 lw_125 lw_1856) rfl rfl rfl (by decide +kernel) (rmd_ok (by decide) (by decide))) rfl hl.1 rfl (Nat.le_of_ble_eq_true rfl) dX12_guest_17 ⟨Nat.le_refl _, Nat.le_refl _⟩ (fun H locs hP hS => ?_)
    refine lv_istore_n (lv' := [(3, .int r8), (0, .ref (G.2.2 172)), (1, .int v1), (2, .int v2)]) hx hb dX12_guest_20 rfl hl (by decide) rfl (fun ls hl => ?_)
    refine lv_iload_n hx hb dX12_guest_21 rfl (lv_at hl 3 rfl) ?_
    by_cases c10 : v2 = 0
    · rw [if_pos c10] at h
      refine lv_tableIn (off := 34) (tgt := 56) hx hb dX12_guest_22 (by rw [c10]; decide) (by rw [c10]; decide) (by rw [c10]; rfl) (by decide) ?_
      refine lv_aload_n hx hb dX12_guest_56 rfl (lv_at hl 1 rfl) ?_
      refine ge_12_36 hx hb hts (inU inW_X12) hown hK hP k_172 (hts _ (List.mem_cons_of_mem _ lw_1470)) dX12_guest_57 ?_
      refine lv_iload_n hx hb dX12_guest_60 rfl (lv_at hl 2 rfl) ?_
      obtain ⟨g11, h⟩ := gd_s h
      refine xl_14 hx hb hK hP k_194 l_194 (ix_in g11) dX12_guest_61 ?_
      exact x_iret hx hb hr hlocks hK hP hS h dX12_guest_62
    rw [if_neg c10] at h
    by_cases c12 : v2 = 1
    · rw [if_pos c12] at h
      refine lv_tableIn (off := 41) (tgt := 63) hx hb dX12_guest_22 (by rw [c12]; decide) (by rw [c12]; decide) (by rw [c12]; rfl) (by decide) ?_
      refine lv_aload_n hx hb dX12_guest_63 rfl (lv_at hl 1 rfl) ?_
      refine ge_12_37 hx hb hts (inU inW_X12) hown hK hP k_172 (hts _ (List.mem_cons_of_mem _ lw_1471)) dX12_guest_64 ?_
      refine lv_iload_n hx hb dX12_guest_67 rfl (lv_at hl 2 rfl) ?_
      obtain ⟨g13, h⟩ := gd_s h
      refine xl_14 hx hb hK hP k_195 l_195 (ix_in g13) dX12_guest_68 ?_
      exact x_iret hx hb hr hlocks hK hP hS h dX12_guest_69
    rw [if_neg c12] at h
    by_cases c14 : v2 = 2
    · rw [if_pos c14] at h
      refine lv_tableIn (off := 48) (tgt := 70) hx hb dX12_guest_22 (by rw [c14]; decide) (by rw [c14]; decide) (by rw [c14]; rfl) (by decide) ?_
      refine lv_aload_n hx hb dX12_guest_70 rfl (lv_at hl 1 rfl) ?_
      refine ge_12_38 hx hb hts (inU inW_X12) hown hK hP k_172 (hts _ (List.mem_cons_of_mem _ lw_1472)) dX12_guest_71 ?_
      refine lv_iload_n hx hb dX12_guest_74 rfl (lv_at hl 2 rfl) ?_
      obtain ⟨g15, h⟩ := gd_s h
      refine xl_14 hx hb hK hP k_196 l_196 (ix_in g15) dX12_guest_75 ?_
      exact x_iret hx hb hr hlocks hK hP hS h dX12_guest_76
    rw [if_neg c14] at h
    by_cases c16 : v2 = 3
    · rw [if_pos c16] at h
      refine lv_tableIn (off := 55) (tgt := 77) hx hb dX12_guest_22 (by rw [c16]; decide) (by rw [c16]; decide) (by rw [c16]; rfl) (by decide) ?_
      refine lv_iload_n hx hb dX12_guest_77 rfl (lv_at hl 0 rfl) ?_
      exact x_iret hx hb hr hlocks hK hP hS h dX12_guest_78
    rw [if_neg c16] at h
    by_cases c17 : v2 = 4
    · rw [if_pos c17] at h
      refine lv_tableIn (off := 57) (tgt := 79) hx hb dX12_guest_22 (by rw [c17]; decide) (by rw [c17]; decide) (by rw [c17]; rfl) (by decide) ?_
      refine lv_iload_n hx hb dX12_guest_79 rfl (lv_at hl 0 rfl) ?_
      refine lv_if_ge (tgt := 87) hx hb dX12_guest_80 (by decide) (fun c18 => ?_) (fun c18 => ?_)
      · rw [if_pos c18] at h
        refine lv_aload_n hx hb dX12_guest_87 rfl (lv_at hl 1 rfl) ?_
        refine lv_iload_n hx hb dX12_guest_88 rfl (lv_at hl 2 rfl) ?_
        refine lv_iload_n hx hb dX12_guest_89 rfl (lv_at hl 0 rfl) ?_
        obtain ⟨r20, z21, h19, h⟩ := bd_s h
        refine x_Vi (Rz := (r20, z21)) (As := [.int v1, .int r8]) (rest := []) ⟨hx, hb, hml, hown, hts⟩ hK hP hS (kd_lt k_172 (by decide)) (cell_12 k_172) rfl (m_X12_worthOf hG   h19) (cwV 2 hts (gV lw_1857 lw_1859 lw_78 lw_125 lw_1860) rfl rfl rfl (by decide +kernel) (rmd_ok (by decide) (by decide))) rfl hl.1 rfl (Nat.le_of_ble_eq_true rfl) dX12_guest_90 ⟨Nat.le_refl _, Nat.le_refl _⟩ (fun H locs hP hS => ?_)
        exact x_iret hx hb hr hlocks hK hP hS h dX12_guest_93
      · rw [if_neg c18] at h
        refine lv_iconst (v := 0) hx hb dX12_guest_83 (by decide) ?_
        refine lv_goto (tgt := 93) hx hb dX12_guest_84 (by decide) ?_
        exact x_iret hx hb hr hlocks hK hP hS h dX12_guest_93
    rw [if_neg c17] at h
    have n22 : (v2 : Int32).toInt < 0 ∨ 4 < (v2 : Int32).toInt := by
      have c10_n := lv_neT (a := 0) c10 (by decide)
      have c12_n := lv_neT (a := 1) c12 (by decide)
      have c14_n := lv_neT (a := 2) c14 (by decide)
      have c16_n := lv_neT (a := 3) c16 (by decide)
      have c17_n := lv_neT (a := 4) c17 (by decide)
      omega
    refine lv_tableOut (tgt := 94) hx hb dX12_guest_22 n22 (by decide) ?_
    refine lv_bipush (v := (-2)) hx hb dX12_guest_94 (by decide) ?_
    exact x_iret hx hb hr hlocks hK hP hS h dX12_guest_96
  · rw [if_pos c4] at h
    refine lv_bipush (v := (-2)) hx hb dX12_guest_8 (by decide) ?_
    exact x_iret hx hb hr hlocks hK hP hS h dX12_guest_10
def fn_X12_worth (v1 : Int32) (v2 : Int32) (z : St) : Option (Int32 × St) := bd (fn_X12_isGuest  v1 z) (fun r2 z3 => (if r2 = 0 then some ((-1000000000), z3) else bd (fn_X12_isPiece  v2 z3) (fun r6 z7 => (if r6 = 0 then some ((-1000000000), z7) else bv (fn_X12_load   z7) (fun z10 => bd (fn_X12_worthOf  v1 v2 z10) (fun r12 z13 => some (r12, z13)))))))
set_option maxHeartbeats 4000000 in
set_option maxRecDepth 100000 in
theorem m_X12_worth {l : Launch} {G : wG} (hG : Ok G) {v1 : Int32} {v2 : Int32} {z : St} {Rz : Int32 × St}  (h : fn_X12_worth  v1 v2 z = some Rz) : Met l yX12_worth (wsU yX12_worth cX12_worth 3 (some .int)) (rmd 5) (va_Pc [.ref (G.2.2 172), .int v1, .int v2] (Pre G z)) (va_Qi (fun r u => (r, u) = Rz) (Pre G) (AW G)) 0 0 (AW G) := by
  refine Met.ofW (cc := cX12_worth) (maxL := 3) (ret := (some .int)) (by decide) rfl ?_
  intro p e s m args below meth c s₁ B hml hv
  obtain ⟨rfl, hP, hK⟩ := hv
  have C : CX p s m ([.ref (G.2.2 172), .int v1, .int v2] : List Value).toArray meth c cX12_worth 3 (wsU yX12_worth cX12_worth 3 (some .int)) RX12 (some .int) G := ⟨B.exec, B.bytes, hml, findClass_of_methodNamed B.named, atoms_spec (ws := (wsU yX12_worth cX12_worth 3 (some .int))) B.pre, B.returns, B.notSynchronized, hK, hG⟩
  obtain ⟨hx, hb, -, hown, hts, hr, hlocks, -, -⟩ := id C
  have hS : va_S (AW G) s.heap s.heap [] := va_S.rf
  have hl := lv_entry [.ref (G.2.2 172), .int v1, .int v2] (n := 3) (Nat.le_of_ble_eq_true rfl)
  rw [lg_entry_eq]
  generalize (lg_sl [.ref (G.2.2 172), .int v1, .int v2] ++ List.replicate (3 - (lg_sl [.ref (G.2.2 172), .int v1, .int v2]).length) Slot.unset).toArray = ls at hl ⊢
  have hl : lv_has ls 3 [(0, .ref (G.2.2 172)), (1, .int v1), (2, .int v2)] := hl
  unfold fn_X12_worth at h
  refine lv_aload_n hx hb dX12_worth_0 rfl (lv_at hl 0 rfl) ?_
  refine lv_iload_n hx hb dX12_worth_1 rfl (lv_at hl 1 rfl) ?_
  obtain ⟨r2, z3, h1, h⟩ := bd_s h
  refine x_Vi (Rz := (r2, z3)) (As := [.int v1]) (rest := []) ⟨hx, hb, hml, hown, hts⟩ hK hP hS (kd_lt k_172 (by decide)) (cell_12 k_172) rfl (m_X12_isGuest hG   h1) (cwV 1 hts (gV lw_1849 lw_1851 lw_76 lw_125 lw_1852) rfl rfl rfl (by decide +kernel) (rmd_ok (by decide) (by decide))) rfl hl.1 rfl (Nat.le_of_ble_eq_true rfl) dX12_worth_2 ⟨Nat.le_refl _, Nat.le_refl _⟩ (fun H locs hP hS => ?_)
  refine lv_if_eq (tgt := 16) hx hb dX12_worth_5 (by decide) (fun c4 => ?_) (fun c4 => ?_)
  · rw [if_pos c4] at h
    refine lv_ldcw (v := (-1000000000)) hx hb hown (hts _ (List.mem_cons_of_mem _ lw_1876)) dX12_worth_16 ?_
    exact x_iret hx hb hr hlocks hK hP hS h dX12_worth_19
  · rw [if_neg c4] at h
    refine lv_aload_n hx hb dX12_worth_8 rfl (lv_at hl 0 rfl) ?_
    refine lv_iload_n hx hb dX12_worth_9 rfl (lv_at hl 2 rfl) ?_
    obtain ⟨r6, z7, h5, h⟩ := bd_s h
    refine x_Vi (Rz := (r6, z7)) (As := [.int v2]) (rest := []) ⟨hx, hb, hml, hown, hts⟩ hK hP hS (kd_lt k_172 (by decide)) (cell_12 k_172) rfl (m_X12_isPiece hG   h5) (cwV 1 hts (gV lw_1823 lw_1825 lw_72 lw_125 lw_1826) rfl rfl rfl (by decide +kernel) (rmd_ok (by decide) (by decide))) rfl hl.1 rfl (Nat.le_of_ble_eq_true rfl) dX12_worth_10 ⟨Nat.le_refl _, Nat.le_refl _⟩ (fun H locs hP hS => ?_)
    refine lv_if_ne (tgt := 20) hx hb dX12_worth_13 (by decide) (fun c8 => ?_) (fun c8 => ?_)
    · rw [if_neg c8] at h
      refine lv_aload_n hx hb dX12_worth_20 rfl (lv_at hl 0 rfl) ?_
      obtain ⟨z10, h9, h⟩ := bv_s h
      refine x_Vv (Rz := z10) (As := []) (rest := []) ⟨hx, hb, hml, hown, hts⟩ hK hP hS (kd_lt k_172 (by decide)) (cell_12 k_172) rfl (m_X12_load hG   h9) (cwV 0 hts (gV lw_1830 lw_1832 lw_73 lw_125 lw_1833) rfl rfl rfl (by decide +kernel) (rmd_ok (by decide) (by decide))) rfl hl.1 rfl (Nat.le_of_ble_eq_true rfl) dX12_worth_21 ⟨Nat.le_refl _, Nat.le_refl _⟩ (fun H locs hP hS => ?_)
      refine lv_aload_n hx hb dX12_worth_24 rfl (lv_at hl 0 rfl) ?_
      refine lv_iload_n hx hb dX12_worth_25 rfl (lv_at hl 1 rfl) ?_
      refine lv_iload_n hx hb dX12_worth_26 rfl (lv_at hl 2 rfl) ?_
      obtain ⟨r12, z13, h11, h⟩ := bd_s h
      refine x_Vi (Rz := (r12, z13)) (As := [.int v1, .int v2]) (rest := []) ⟨hx, hb, hml, hown, hts⟩ hK hP hS (kd_lt k_172 (by decide)) (cell_12 k_172) rfl (m_X12_worthOf hG   h11) (cwV 2 hts (gV lw_1857 lw_1859 lw_78 lw_125 lw_1860) rfl rfl rfl (by decide +kernel) (rmd_ok (by decide) (by decide))) rfl hl.1 rfl (Nat.le_of_ble_eq_true rfl) dX12_worth_27 ⟨Nat.le_refl _, Nat.le_refl _⟩ (fun H locs hP hS => ?_)
      exact x_iret hx hb hr hlocks hK hP hS h dX12_worth_30
    · rw [if_pos c8] at h
      refine lv_ldcw (v := (-1000000000)) hx hb hown (hts _ (List.mem_cons_of_mem _ lw_1876)) dX12_worth_16 ?_
      exact x_iret hx hb hr hlocks hK hP hS h dX12_worth_19
def fn_X12_slip (v1 : Int32) (v2 : Int32) (v3 : Int32) (z : St) : Option (Int32 × St) := bv (fn_X12_load   z) (fun z2 => bd (fn_X12_canCut  v1 v2 v3 z2) (fun r4 z5 => (if r4 = 0 then some ((-1), z5) else bd (fn_X12_slipOf  v1 v2 z5) (fun r8 z9 => some (r8, z9)))))
set_option maxHeartbeats 4000000 in
set_option maxRecDepth 100000 in
theorem m_X12_slip {l : Launch} {G : wG} (hG : Ok G) {v1 : Int32} {v2 : Int32} {v3 : Int32} {z : St} {Rz : Int32 × St}  (h : fn_X12_slip  v1 v2 v3 z = some Rz) : Met l yX12_slip (wsU yX12_slip cX12_slip 4 (some .int)) (rmd 5) (va_Pc [.ref (G.2.2 172), .int v1, .int v2, .int v3] (Pre G z)) (va_Qi (fun r u => (r, u) = Rz) (Pre G) (AW G)) 0 0 (AW G) := by
  refine Met.ofW (cc := cX12_slip) (maxL := 4) (ret := (some .int)) (by decide) rfl ?_
  intro p e s m args below meth c s₁ B hml hv
  obtain ⟨rfl, hP, hK⟩ := hv
  have C : CX p s m ([.ref (G.2.2 172), .int v1, .int v2, .int v3] : List Value).toArray meth c cX12_slip 4 (wsU yX12_slip cX12_slip 4 (some .int)) RX12 (some .int) G := ⟨B.exec, B.bytes, hml, findClass_of_methodNamed B.named, atoms_spec (ws := (wsU yX12_slip cX12_slip 4 (some .int))) B.pre, B.returns, B.notSynchronized, hK, hG⟩
  obtain ⟨hx, hb, -, hown, hts, hr, hlocks, -, -⟩ := id C
  have hS : va_S (AW G) s.heap s.heap [] := va_S.rf
  have hl := lv_entry [.ref (G.2.2 172), .int v1, .int v2, .int v3] (n := 4) (Nat.le_of_ble_eq_true rfl)
  rw [lg_entry_eq]
  generalize (lg_sl [.ref (G.2.2 172), .int v1, .int v2, .int v3] ++ List.replicate (4 - (lg_sl [.ref (G.2.2 172), .int v1, .int v2, .int v3]).length) Slot.unset).toArray = ls at hl ⊢
  have hl : lv_has ls 4 [(0, .ref (G.2.2 172)), (1, .int v1), (2, .int v2), (3, .int v3)] := hl
  unfold fn_X12_slip at h
  refine lv_aload_n hx hb dX12_slip_0 rfl (lv_at hl 0 rfl) ?_
  obtain ⟨z2, h1, h⟩ := bv_s h
  refine x_Vv (Rz := z2) (As := []) (rest := []) ⟨hx, hb, hml, hown, hts⟩ hK hP hS (kd_lt k_172 (by decide)) (cell_12 k_172) rfl (m_X12_load hG   h1) (cwV 0 hts (gV lw_1830 lw_1832 lw_73 lw_125 lw_1833) rfl rfl rfl (by decide +kernel) (rmd_ok (by decide) (by decide))) rfl hl.1 rfl (Nat.le_of_ble_eq_true rfl) dX12_slip_1 ⟨Nat.le_refl _, Nat.le_refl _⟩ (fun H locs hP hS => ?_)
  refine lv_aload_n hx hb dX12_slip_4 rfl (lv_at hl 0 rfl) ?_
  refine lv_iload_n hx hb dX12_slip_5 rfl (lv_at hl 1 rfl) ?_
  refine lv_iload_n hx hb dX12_slip_6 rfl (lv_at hl 2 rfl) ?_
  refine lv_iload_n hx hb dX12_slip_7 rfl (lv_at hl 3 rfl) ?_
  obtain ⟨r4, z5, h3, h⟩ := bd_s h
  refine x_Vi (Rz := (r4, z5)) (As := [.int v1, .int v2, .int v3]) (rest := []) ⟨hx, hb, hml, hown, hts⟩ hK hP hS (kd_lt k_172 (by decide)) (cell_12 k_172) rfl (m_X12_canCut hG   h3) (cwV 3 hts (gV lw_1881 lw_1883 lw_81 lw_125 lw_1884) rfl rfl rfl (by decide +kernel) (rmd_ok (by decide) (by decide))) rfl hl.1 rfl (Nat.le_of_ble_eq_true rfl) dX12_slip_8 ⟨Nat.le_refl _, Nat.le_refl _⟩ (fun H locs hP hS => ?_)
  refine lv_if_eq (tgt := 23) hx hb dX12_slip_11 (by decide) (fun c6 => ?_) (fun c6 => ?_)
  · rw [if_pos c6] at h
    refine lv_iconst (v := (-1)) hx hb dX12_slip_23 (by decide) ?_
    exact x_iret hx hb hr hlocks hK hP hS h dX12_slip_24
  · rw [if_neg c6] at h
    refine lv_aload_n hx hb dX12_slip_14 rfl (lv_at hl 0 rfl) ?_
    refine lv_iload_n hx hb dX12_slip_15 rfl (lv_at hl 1 rfl) ?_
    refine lv_iload_n hx hb dX12_slip_16 rfl (lv_at hl 2 rfl) ?_
    obtain ⟨r8, z9, h7, h⟩ := bd_s h
    refine x_Vi (Rz := (r8, z9)) (As := [.int v1, .int v2]) (rest := []) ⟨hx, hb, hml, hown, hts⟩ hK hP hS (kd_lt k_172 (by decide)) (cell_12 k_172) rfl (m_X12_slipOf hG   h7) (cwV 2 hts (gV lw_1889 lw_1891 lw_83 lw_125 lw_1892) rfl rfl rfl (by decide +kernel) (rmd_ok (by decide) (by decide))) rfl hl.1 rfl (Nat.le_of_ble_eq_true rfl) dX12_slip_17 ⟨Nat.le_refl _, Nat.le_refl _⟩ (fun H locs hP hS => ?_)
    refine lv_goto (tgt := 24) hx hb dX12_slip_20 (by decide) ?_
    exact x_iret hx hb hr hlocks hK hP hS h dX12_slip_24
def fn_X12_act_52 : Nat → Int32 → St → Option (St)
  | 0, _, _ => none
  | n + 1, v1, z => (if 171 ≤ v1 then nm (sI z 172 51 ((z.1 172 51) + 1)) (fun z2 => nm (sI z2 172 52 0) (fun z3 => some z3)) else gd (ix v1 171) (gd (ix ((171 * (z.1 172 51)) + v1) 6840) (nm (sI z 199 (Int32.toNatClampNeg ((171 * (z.1 172 51)) + v1)) (z.1 197 (Int32.toNatClampNeg v1))) (fun z6 => fn_X12_act_52   n (v1 + 1) z6))))
set_option maxHeartbeats 4000000 in
set_option maxRecDepth 100000 in
theorem pf_X12_act_52 {p : Program} {l : Launch} {e : Env} {s : State} {m : MethodId} {args : Array Value} {below : List Frame} {meth : Method} {c : Code} {G : wG} (C : CX p s m args meth c cX12_act 2 (wsU yX12_act cX12_act 2 none) RX12 none G) {Rz : St} : ∀ (n : Nat) (v1 : Int32) (z : St)  (H : Heap) (locs : List Loc) (ls : Array Slot), WP G z H → va_S (AW G) s.heap H locs → lv_has ls 2 [(0, .ref (G.2.2 172)), (1, .int v1)] → fn_X12_act_52   n v1 z = some Rz → W p l e (rmd 1) s m args below meth c H locs 0 0 (QV below args s G Rz) (F0 m 52 ls []) := by
  obtain ⟨hx, hb, hml, hown, hts, hr, hlocks, hK, hG⟩ := id C
  intro n
  induction n with
  | zero => intro v1 z  H locs ls hP hS hl h; cases h
  | succ n ih =>
    intro v1 z  H locs ls hP hS hl h
    rw [fn_X12_act_52] at h
    refine lv_iload_n hx hb dX12_act_52 rfl (lv_at hl 1 rfl) ?_
    refine lv_sipush (v := 171) hx hb dX12_act_53 (by decide) ?_
    refine lv_icmp_ge (tgt := 86) hx hb dX12_act_56 (by decide) (fun c1 => ?_) (fun c1 => ?_)
    · rw [if_pos c1] at h
      refine lv_aload_n hx hb dX12_act_86 rfl (lv_at hl 0 rfl) ?_
      refine lv_dup hx hb dX12_act_87 rfl ?_
      refine ge_12_51 hx hb hts (inU inW_X12) hown hK hP k_172 (hts _ (List.mem_cons_of_mem _ lw_1485)) dX12_act_88 ?_
      refine lv_iconst (v := 1) hx hb dX12_act_91 (by decide) ?_
      refine lv_iadd hx hb dX12_act_92 ?_
      obtain ⟨z2, e_z2, h⟩ := nm_s h
      refine pu_12_51 hx hb hts (inU inW_X12) hown hK hG hP hS k_172 (hts _ (List.mem_cons_of_mem _ lw_1485)) dX12_act_93 (fun H locs hP hS => ?_)
      rw [← e_z2] at hP
      refine lv_aload_n hx hb dX12_act_96 rfl (lv_at hl 0 rfl) ?_
      refine lv_iconst (v := 0) hx hb dX12_act_97 (by decide) ?_
      obtain ⟨z3, e_z3, h⟩ := nm_s h
      refine pu_12_52 hx hb hts (inU inW_X12) hown hK hG hP hS k_172 (hts _ (List.mem_cons_of_mem _ lw_1486)) dX12_act_98 (fun H locs hP hS => ?_)
      rw [← e_z3] at hP
      exact x_vret hx hb hr hlocks hK hP hS h dX12_act_101
    · rw [if_neg c1] at h
      refine lv_aload_n hx hb dX12_act_59 rfl (lv_at hl 0 rfl) ?_
      refine ge_12_50 hx hb hts (inU inW_X12) hown hK hP k_172 (hts _ (List.mem_cons_of_mem _ lw_1484)) dX12_act_60 ?_
      refine lv_sipush (v := 171) hx hb dX12_act_63 (by decide) ?_
      refine lv_aload_n hx hb dX12_act_66 rfl (lv_at hl 0 rfl) ?_
      refine ge_12_51 hx hb hts (inU inW_X12) hown hK hP k_172 (hts _ (List.mem_cons_of_mem _ lw_1485)) dX12_act_67 ?_
      refine lv_imul hx hb dX12_act_70 ?_
      refine lv_iload_n hx hb dX12_act_71 rfl (lv_at hl 1 rfl) ?_
      refine lv_iadd hx hb dX12_act_72 ?_
      refine lv_aload_n hx hb dX12_act_73 rfl (lv_at hl 0 rfl) ?_
      refine ge_12_48 hx hb hts (inU inW_X12) hown hK hP k_172 (hts _ (List.mem_cons_of_mem _ lw_1482)) dX12_act_74 ?_
      refine lv_iload_n hx hb dX12_act_77 rfl (lv_at hl 1 rfl) ?_
      obtain ⟨g4, h⟩ := gd_s h
      refine xl_14 hx hb hK hP k_197 l_197 (ix_in g4) dX12_act_78 ?_
      obtain ⟨g5, h⟩ := gd_s h
      obtain ⟨z6, e_z6, h⟩ := nm_s h
      refine xs_14 hx hb hK hG hP hS k_199 l_199 (ix_in g5) dX12_act_79 (fun H locs hP hS => ?_)
      rw [← e_z6] at hP
      refine lv_iinc (v := (v1 + 1)) (lv' := [(1, .int (v1 + 1)), (0, .ref (G.2.2 172))]) hx hb dX12_act_80 hl (k := 1) rfl rfl (by decide) rfl (fun ls hl => ?_)
      refine lv_goto (tgt := 52) hx hb dX12_act_83 (by decide) ?_
      exact ih (v1 + 1) z6  _ _ _ hP hS (lv_sub hl [1, 0] rfl) h
def fn_X12_act_50  (z : St) : Option (St) := fn_X12_act_52   fu 0 z
set_option maxHeartbeats 4000000 in
set_option maxRecDepth 100000 in
theorem pf_X12_act_50 {p : Program} {l : Launch} {e : Env} {s : State} {m : MethodId} {args : Array Value} {below : List Frame} {meth : Method} {c : Code} {G : wG} (C : CX p s m args meth c cX12_act 2 (wsU yX12_act cX12_act 2 none) RX12 none G) {Rz : St}  (z : St)  {H : Heap} {locs : List Loc} {ls : Array Slot} (hP : WP G z H) (hS : va_S (AW G) s.heap H locs) (hl : lv_has ls 2 [(0, .ref (G.2.2 172))]) (h : fn_X12_act_50    z = some Rz) : W p l e (rmd 1) s m args below meth c H locs 0 0 (QV below args s G Rz) (F0 m 50 ls []) := by
  obtain ⟨hx, hb, hml, hown, hts, hr, hlocks, hK, hG⟩ := id C
  unfold fn_X12_act_50 at h
  refine lv_iconst (v := 0) hx hb dX12_act_50 (by decide) ?_
  refine lv_istore_n (lv' := [(1, .int 0), (0, .ref (G.2.2 172))]) hx hb dX12_act_51 rfl hl (by decide) rfl (fun ls hl => ?_)
  exact pf_X12_act_52 C   fu 0 z  _ _ _ hP hS (lv_sub hl [1, 0] rfl) h
def fn_X12_act_11 : Nat → Int32 → St → Option (St)
  | 0, _, _ => none
  | n + 1, v1, z => (if 6669 ≤ v1 then nm (sI z 172 51 ((z.1 172 51) - 1)) (fun z2 => fn_X12_act_50    z2) else gd (ix (171 + v1) 6840) (gd (ix v1 6840) (nm (sI z 199 (Int32.toNatClampNeg v1) (z.1 199 (Int32.toNatClampNeg (171 + v1)))) (fun z5 => fn_X12_act_11   n (v1 + 1) z5))))
set_option maxHeartbeats 4000000 in
set_option maxRecDepth 100000 in
theorem pf_X12_act_11 {p : Program} {l : Launch} {e : Env} {s : State} {m : MethodId} {args : Array Value} {below : List Frame} {meth : Method} {c : Code} {G : wG} (C : CX p s m args meth c cX12_act 2 (wsU yX12_act cX12_act 2 none) RX12 none G) {Rz : St} : ∀ (n : Nat) (v1 : Int32) (z : St)  (H : Heap) (locs : List Loc) (ls : Array Slot), WP G z H → va_S (AW G) s.heap H locs → lv_has ls 2 [(0, .ref (G.2.2 172)), (1, .int v1)] → fn_X12_act_11   n v1 z = some Rz → W p l e (rmd 1) s m args below meth c H locs 0 0 (QV below args s G Rz) (F0 m 11 ls []) := by
  obtain ⟨hx, hb, hml, hown, hts, hr, hlocks, hK, hG⟩ := id C
  intro n
  induction n with
  | zero => intro v1 z  H locs ls hP hS hl h; cases h
  | succ n ih =>
    intro v1 z  H locs ls hP hS hl h
    rw [fn_X12_act_11] at h
    refine lv_iload_n hx hb dX12_act_11 rfl (lv_at hl 1 rfl) ?_
    refine lv_sipush (v := 6669) hx hb dX12_act_12 (by decide) ?_
    refine lv_icmp_ge (tgt := 40) hx hb dX12_act_15 (by decide) (fun c1 => ?_) (fun c1 => ?_)
    · rw [if_pos c1] at h
      refine lv_aload_n hx hb dX12_act_40 rfl (lv_at hl 0 rfl) ?_
      refine lv_dup hx hb dX12_act_41 rfl ?_
      refine ge_12_51 hx hb hts (inU inW_X12) hown hK hP k_172 (hts _ (List.mem_cons_of_mem _ lw_1485)) dX12_act_42 ?_
      refine lv_iconst (v := 1) hx hb dX12_act_45 (by decide) ?_
      refine lv_isub hx hb dX12_act_46 ?_
      obtain ⟨z2, e_z2, h⟩ := nm_s h
      refine pu_12_51 hx hb hts (inU inW_X12) hown hK hG hP hS k_172 (hts _ (List.mem_cons_of_mem _ lw_1485)) dX12_act_47 (fun H locs hP hS => ?_)
      rw [← e_z2] at hP
      exact pf_X12_act_50 C    z2  hP hS (lv_sub hl [0] rfl) h
    · rw [if_neg c1] at h
      refine lv_aload_n hx hb dX12_act_18 rfl (lv_at hl 0 rfl) ?_
      refine ge_12_50 hx hb hts (inU inW_X12) hown hK hP k_172 (hts _ (List.mem_cons_of_mem _ lw_1484)) dX12_act_19 ?_
      refine lv_iload_n hx hb dX12_act_22 rfl (lv_at hl 1 rfl) ?_
      refine lv_aload_n hx hb dX12_act_23 rfl (lv_at hl 0 rfl) ?_
      refine ge_12_50 hx hb hts (inU inW_X12) hown hK hP k_172 (hts _ (List.mem_cons_of_mem _ lw_1484)) dX12_act_24 ?_
      refine lv_sipush (v := 171) hx hb dX12_act_27 (by decide) ?_
      refine lv_iload_n hx hb dX12_act_30 rfl (lv_at hl 1 rfl) ?_
      refine lv_iadd hx hb dX12_act_31 ?_
      obtain ⟨g3, h⟩ := gd_s h
      refine xl_14 hx hb hK hP k_199 l_199 (ix_in g3) dX12_act_32 ?_
      obtain ⟨g4, h⟩ := gd_s h
      obtain ⟨z5, e_z5, h⟩ := nm_s h
      refine xs_14 hx hb hK hG hP hS k_199 l_199 (ix_in g4) dX12_act_33 (fun H locs hP hS => ?_)
      rw [← e_z5] at hP
      refine lv_iinc (v := (v1 + 1)) (lv' := [(1, .int (v1 + 1)), (0, .ref (G.2.2 172))]) hx hb dX12_act_34 hl (k := 1) rfl rfl (by decide) rfl (fun ls hl => ?_)
      refine lv_goto (tgt := 11) hx hb dX12_act_37 (by decide) ?_
      exact ih (v1 + 1) z5  _ _ _ hP hS (lv_sub hl [1, 0] rfl) h
def fn_X12_act  (z : St) : Option (St) := (if (z.1 172 51) = 40 then fn_X12_act_11   fu 0 z else fn_X12_act_50    z)
set_option maxHeartbeats 4000000 in
set_option maxRecDepth 100000 in
theorem m_X12_act {l : Launch} {G : wG} (hG : Ok G)  {z : St} {Rz : St}  (h : fn_X12_act   z = some Rz) : Met l yX12_act (wsU yX12_act cX12_act 2 none) (rmd 1) (va_Pc [.ref (G.2.2 172)] (Pre G z)) (va_Qv (fun u => u = Rz) (Pre G) (AW G)) 0 0 (AW G) := by
  refine Met.ofW (cc := cX12_act) (maxL := 2) (ret := none) (by decide) rfl ?_
  intro p e s m args below meth c s₁ B hml hv
  obtain ⟨rfl, hP, hK⟩ := hv
  have C : CX p s m ([.ref (G.2.2 172)] : List Value).toArray meth c cX12_act 2 (wsU yX12_act cX12_act 2 none) RX12 none G := ⟨B.exec, B.bytes, hml, findClass_of_methodNamed B.named, atoms_spec (ws := (wsU yX12_act cX12_act 2 none)) B.pre, B.returns, B.notSynchronized, hK, hG⟩
  obtain ⟨hx, hb, -, hown, hts, hr, hlocks, -, -⟩ := id C
  have hS : va_S (AW G) s.heap s.heap [] := va_S.rf
  have hl := lv_entry [.ref (G.2.2 172)] (n := 2) (Nat.le_of_ble_eq_true rfl)
  rw [lg_entry_eq]
  generalize (lg_sl [.ref (G.2.2 172)] ++ List.replicate (2 - (lg_sl [.ref (G.2.2 172)]).length) Slot.unset).toArray = ls at hl ⊢
  have hl : lv_has ls 2 [(0, .ref (G.2.2 172))] := hl
  unfold fn_X12_act at h
  refine lv_aload_n hx hb dX12_act_0 rfl (lv_at hl 0 rfl) ?_
  refine ge_12_51 hx hb hts (inU inW_X12) hown hK hP k_172 (hts _ (List.mem_cons_of_mem _ lw_1485)) dX12_act_1 ?_
  refine lv_bipush (v := 40) hx hb dX12_act_4 (by decide) ?_
  refine lv_icmp_ne (tgt := 50) hx hb dX12_act_6 (by decide) (fun c1 => ?_) (fun c1 => ?_)
  · rw [if_neg c1] at h
    exact pf_X12_act_50 C    z  hP hS (lv_sub hl [0] rfl) h
  · rw [if_pos c1] at h
    refine lv_iconst (v := 0) hx hb dX12_act_9 (by decide) ?_
    refine lv_istore_n (lv' := [(1, .int 0), (0, .ref (G.2.2 172))]) hx hb dX12_act_10 rfl hl (by decide) rfl (fun ls hl => ?_)
    exact pf_X12_act_11 C   fu 0 z  _ _ _ hP hS (lv_sub hl [1, 0] rfl) h
def fn_X12_turnAbout_2 : Nat → Int32 → Int32 → St → Option (St)
  | 0, _, _, _ => none
  | n + 1, v1, v2, z => (if 171 ≤ v2 then some z else gd (ix (v1 + v2) 6840) (nm (z.1 199 (Int32.toNatClampNeg (v1 + v2))) (fun v3_3 => gd (ix v2 171) (gd (ix (v1 + v2) 6840) (nm (sI z 199 (Int32.toNatClampNeg (v1 + v2)) (z.1 197 (Int32.toNatClampNeg v2))) (fun z6 => gd (ix v2 171) (nm (sI z6 197 (Int32.toNatClampNeg v2) v3_3) (fun z8 => fn_X12_turnAbout_2   n v1 (v2 + 1) z8))))))))
set_option maxHeartbeats 4000000 in
set_option maxRecDepth 100000 in
theorem pf_X12_turnAbout_2 {p : Program} {l : Launch} {e : Env} {s : State} {m : MethodId} {args : Array Value} {below : List Frame} {meth : Method} {c : Code} {G : wG} (C : CX p s m args meth c cX12_turnAbout 4 (wsU yX12_turnAbout cX12_turnAbout 4 none) RX12 none G) {Rz : St} : ∀ (n : Nat) (v1 : Int32) (v2 : Int32) (z : St)  (H : Heap) (locs : List Loc) (ls : Array Slot), WP G z H → va_S (AW G) s.heap H locs → lv_has ls 4 [(0, .ref (G.2.2 172)), (1, .int v1), (2, .int v2)] → fn_X12_turnAbout_2   n v1 v2 z = some Rz → W p l e (rmd 1) s m args below meth c H locs 0 0 (QV below args s G Rz) (F0 m 2 ls []) := by
  obtain ⟨hx, hb, hml, hown, hts, hr, hlocks, hK, hG⟩ := id C
  intro n
  induction n with
  | zero => intro v1 v2 z  H locs ls hP hS hl h; cases h
  | succ n ih =>
    intro v1 v2 z  H locs ls hP hS hl h
    rw [fn_X12_turnAbout_2] at h
    refine lv_iload_n hx hb dX12_turnAbout_2 rfl (lv_at hl 2 rfl) ?_
    refine lv_sipush (v := 171) hx hb dX12_turnAbout_3 (by decide) ?_
    refine lv_icmp_ge (tgt := 45) hx hb dX12_turnAbout_6 (by decide) (fun c1 => ?_) (fun c1 => ?_)
    · rw [if_pos c1] at h
      exact x_vret hx hb hr hlocks hK hP hS h dX12_turnAbout_45
    · rw [if_neg c1] at h
      refine lv_aload_n hx hb dX12_turnAbout_9 rfl (lv_at hl 0 rfl) ?_
      refine ge_12_50 hx hb hts (inU inW_X12) hown hK hP k_172 (hts _ (List.mem_cons_of_mem _ lw_1484)) dX12_turnAbout_10 ?_
      refine lv_iload_n hx hb dX12_turnAbout_13 rfl (lv_at hl 1 rfl) ?_
      refine lv_iload_n hx hb dX12_turnAbout_14 rfl (lv_at hl 2 rfl) ?_
      refine lv_iadd hx hb dX12_turnAbout_15 ?_
      obtain ⟨g2, h⟩ := gd_s h
      refine xl_14 hx hb hK hP k_199 l_199 (ix_in g2) dX12_turnAbout_16 ?_
      obtain ⟨v3_3, e_v3_3, h⟩ := nm_s h
      refine x_top e_v3_3 ?_
      refine lv_istore_n (lv' := [(3, .int v3_3), (0, .ref (G.2.2 172)), (1, .int v1), (2, .int v2)]) hx hb dX12_turnAbout_17 rfl hl (by decide) rfl (fun ls hl => ?_)
      refine lv_aload_n hx hb dX12_turnAbout_18 rfl (lv_at hl 1 rfl) ?_
      refine ge_12_50 hx hb hts (inU inW_X12) hown hK hP k_172 (hts _ (List.mem_cons_of_mem _ lw_1484)) dX12_turnAbout_19 ?_
      refine lv_iload_n hx hb dX12_turnAbout_22 rfl (lv_at hl 2 rfl) ?_
      refine lv_iload_n hx hb dX12_turnAbout_23 rfl (lv_at hl 3 rfl) ?_
      refine lv_iadd hx hb dX12_turnAbout_24 ?_
      refine lv_aload_n hx hb dX12_turnAbout_25 rfl (lv_at hl 1 rfl) ?_
      refine ge_12_48 hx hb hts (inU inW_X12) hown hK hP k_172 (hts _ (List.mem_cons_of_mem _ lw_1482)) dX12_turnAbout_26 ?_
      refine lv_iload_n hx hb dX12_turnAbout_29 rfl (lv_at hl 3 rfl) ?_
      obtain ⟨g4, h⟩ := gd_s h
      refine xl_14 hx hb hK hP k_197 l_197 (ix_in g4) dX12_turnAbout_30 ?_
      obtain ⟨g5, h⟩ := gd_s h
      obtain ⟨z6, e_z6, h⟩ := nm_s h
      refine xs_14 hx hb hK hG hP hS k_199 l_199 (ix_in g5) dX12_turnAbout_31 (fun H locs hP hS => ?_)
      rw [← e_z6] at hP
      refine lv_aload_n hx hb dX12_turnAbout_32 rfl (lv_at hl 1 rfl) ?_
      refine ge_12_48 hx hb hts (inU inW_X12) hown hK hP k_172 (hts _ (List.mem_cons_of_mem _ lw_1482)) dX12_turnAbout_33 ?_
      refine lv_iload_n hx hb dX12_turnAbout_36 rfl (lv_at hl 3 rfl) ?_
      refine lv_iload_n hx hb dX12_turnAbout_37 rfl (lv_at hl 0 rfl) ?_
      obtain ⟨g7, h⟩ := gd_s h
      obtain ⟨z8, e_z8, h⟩ := nm_s h
      refine xs_14 hx hb hK hG hP hS k_197 l_197 (ix_in g7) dX12_turnAbout_38 (fun H locs hP hS => ?_)
      rw [← e_z8] at hP
      refine lv_iinc (v := (v2 + 1)) (lv' := [(2, .int (v2 + 1)), (3, .int v3_3), (0, .ref (G.2.2 172)), (1, .int v1)]) hx hb dX12_turnAbout_39 hl (k := 3) rfl rfl (by decide) rfl (fun ls hl => ?_)
      refine lv_goto (tgt := 2) hx hb dX12_turnAbout_42 (by decide) ?_
      exact ih v1 (v2 + 1) z8  _ _ _ hP hS (lv_sub hl [2, 3, 0] rfl) h
def fn_X12_turnAbout (v1 : Int32) (z : St) : Option (St) := fn_X12_turnAbout_2   fu v1 0 z
set_option maxHeartbeats 4000000 in
set_option maxRecDepth 100000 in
theorem m_X12_turnAbout {l : Launch} {G : wG} (hG : Ok G) {v1 : Int32} {z : St} {Rz : St}  (h : fn_X12_turnAbout  v1 z = some Rz) : Met l yX12_turnAbout (wsU yX12_turnAbout cX12_turnAbout 4 none) (rmd 1) (va_Pc [.ref (G.2.2 172), .int v1] (Pre G z)) (va_Qv (fun u => u = Rz) (Pre G) (AW G)) 0 0 (AW G) := by
  refine Met.ofW (cc := cX12_turnAbout) (maxL := 4) (ret := none) (by decide) rfl ?_
  intro p e s m args below meth c s₁ B hml hv
  obtain ⟨rfl, hP, hK⟩ := hv
  have C : CX p s m ([.ref (G.2.2 172), .int v1] : List Value).toArray meth c cX12_turnAbout 4 (wsU yX12_turnAbout cX12_turnAbout 4 none) RX12 none G := ⟨B.exec, B.bytes, hml, findClass_of_methodNamed B.named, atoms_spec (ws := (wsU yX12_turnAbout cX12_turnAbout 4 none)) B.pre, B.returns, B.notSynchronized, hK, hG⟩
  obtain ⟨hx, hb, -, hown, hts, hr, hlocks, -, -⟩ := id C
  have hS : va_S (AW G) s.heap s.heap [] := va_S.rf
  have hl := lv_entry [.ref (G.2.2 172), .int v1] (n := 4) (Nat.le_of_ble_eq_true rfl)
  rw [lg_entry_eq]
  generalize (lg_sl [.ref (G.2.2 172), .int v1] ++ List.replicate (4 - (lg_sl [.ref (G.2.2 172), .int v1]).length) Slot.unset).toArray = ls at hl ⊢
  have hl : lv_has ls 4 [(0, .ref (G.2.2 172)), (1, .int v1)] := hl
  unfold fn_X12_turnAbout at h
  refine lv_iconst (v := 0) hx hb dX12_turnAbout_0 (by decide) ?_
  refine lv_istore_n (lv' := [(2, .int 0), (0, .ref (G.2.2 172)), (1, .int v1)]) hx hb dX12_turnAbout_1 rfl hl (by decide) rfl (fun ls hl => ?_)
  exact pf_X12_turnAbout_2 C   fu v1 0 z  _ _ _ hP hS (lv_sub hl [1, 2, 0] rfl) h
def fn_X12_cut_111 : Nat → Int32 → Int32 → St → Option (Int32 × St)
  | 0, _, _, _ => none
  | n + 1, v5, v6, z => (if 171 ≤ v6 then some (v5, z) else gd (ix v6 171) (gd (ix v6 171) (nm (sI z 197 (Int32.toNatClampNeg v6) (z.1 198 (Int32.toNatClampNeg v6))) (fun z4 => fn_X12_cut_111   n v5 (v6 + 1) z4))))
set_option maxHeartbeats 4000000 in
set_option maxRecDepth 100000 in
theorem pf_X12_cut_111 {p : Program} {l : Launch} {e : Env} {s : State} {m : MethodId} {args : Array Value} {below : List Frame} {meth : Method} {c : Code} {G : wG} (C : CX p s m args meth c cX12_cut 7 (wsU yX12_cut cX12_cut 7 (some .int)) RX12 (some .int) G) {Rz : Int32 × St} : ∀ (n : Nat) (v5 : Int32) (v6 : Int32) (z : St)  (H : Heap) (locs : List Loc) (ls : Array Slot), WP G z H → va_S (AW G) s.heap H locs → lv_has ls 7 [(0, .ref (G.2.2 172)), (5, .int v5), (6, .int v6)] → fn_X12_cut_111   n v5 v6 z = some Rz → W p l e (rmd 5) s m args below meth c H locs 0 0 (QI below args s G Rz) (F0 m 111 ls []) := by
  obtain ⟨hx, hb, hml, hown, hts, hr, hlocks, hK, hG⟩ := id C
  intro n
  induction n with
  | zero => intro v5 v6 z  H locs ls hP hS hl h; cases h
  | succ n ih =>
    intro v5 v6 z  H locs ls hP hS hl h
    rw [fn_X12_cut_111] at h
    refine lv_iload hx hb dX12_cut_111 (lv_at hl 2 rfl) ?_
    refine lv_sipush (v := 171) hx hb dX12_cut_113 (by decide) ?_
    refine lv_icmp_ge (tgt := 139) hx hb dX12_cut_116 (by decide) (fun c1 => ?_) (fun c1 => ?_)
    · rw [if_pos c1] at h
      refine lv_iload hx hb dX12_cut_139 (lv_at hl 1 rfl) ?_
      exact x_iret hx hb hr hlocks hK hP hS h dX12_cut_141
    · rw [if_neg c1] at h
      refine lv_aload_n hx hb dX12_cut_119 rfl (lv_at hl 0 rfl) ?_
      refine ge_12_48 hx hb hts (inU inW_X12) hown hK hP k_172 (hts _ (List.mem_cons_of_mem _ lw_1482)) dX12_cut_120 ?_
      refine lv_iload hx hb dX12_cut_123 (lv_at hl 2 rfl) ?_
      refine lv_aload_n hx hb dX12_cut_125 rfl (lv_at hl 0 rfl) ?_
      refine ge_12_49 hx hb hts (inU inW_X12) hown hK hP k_172 (hts _ (List.mem_cons_of_mem _ lw_1483)) dX12_cut_126 ?_
      refine lv_iload hx hb dX12_cut_129 (lv_at hl 2 rfl) ?_
      obtain ⟨g2, h⟩ := gd_s h
      refine xl_14 hx hb hK hP k_198 l_198 (ix_in g2) dX12_cut_131 ?_
      obtain ⟨g3, h⟩ := gd_s h
      obtain ⟨z4, e_z4, h⟩ := nm_s h
      refine xs_14 hx hb hK hG hP hS k_197 l_197 (ix_in g3) dX12_cut_132 (fun H locs hP hS => ?_)
      rw [← e_z4] at hP
      refine lv_iinc (v := (v6 + 1)) (lv' := [(6, .int (v6 + 1)), (0, .ref (G.2.2 172)), (5, .int v5)]) hx hb dX12_cut_133 hl (k := 2) rfl rfl (by decide) rfl (fun ls hl => ?_)
      refine lv_goto (tgt := 111) hx hb dX12_cut_136 (by decide) ?_
      exact ih v5 (v6 + 1) z4  _ _ _ hP hS (lv_sub hl [1, 2, 0] rfl) h
def fn_X12_cut_93 (v5 : Int32) (z : St) : Option (Int32 × St) := nm (sI z 198 (Int32.toNatClampNeg 169) ((z.1 198 (Int32.toNatClampNeg 169)) + (z.1 172 45))) (fun z1 => fn_X12_cut_111   fu v5 0 z1)
set_option maxHeartbeats 4000000 in
set_option maxRecDepth 100000 in
theorem pf_X12_cut_93 {p : Program} {l : Launch} {e : Env} {s : State} {m : MethodId} {args : Array Value} {below : List Frame} {meth : Method} {c : Code} {G : wG} (C : CX p s m args meth c cX12_cut 7 (wsU yX12_cut cX12_cut 7 (some .int)) RX12 (some .int) G) {Rz : Int32 × St} (v5 : Int32) (z : St)  {H : Heap} {locs : List Loc} {ls : Array Slot} (hP : WP G z H) (hS : va_S (AW G) s.heap H locs) (hl : lv_has ls 7 [(0, .ref (G.2.2 172)), (5, .int v5)]) (h : fn_X12_cut_93   v5 z = some Rz) : W p l e (rmd 5) s m args below meth c H locs 0 0 (QI below args s G Rz) (F0 m 93 ls []) := by
  obtain ⟨hx, hb, hml, hown, hts, hr, hlocks, hK, hG⟩ := id C
  unfold fn_X12_cut_93 at h
  refine lv_aload_n hx hb dX12_cut_93 rfl (lv_at hl 0 rfl) ?_
  refine ge_12_49 hx hb hts (inU inW_X12) hown hK hP k_172 (hts _ (List.mem_cons_of_mem _ lw_1483)) dX12_cut_94 ?_
  refine lv_sipush (v := 169) hx hb dX12_cut_97 (by decide) ?_
  refine lv_dup2_11 hx hb dX12_cut_100 rfl rfl ?_
  refine xl_14 hx hb hK hP k_198 l_198 (ix_in (by decide)) dX12_cut_101 ?_
  refine lv_aload_n hx hb dX12_cut_102 rfl (lv_at hl 0 rfl) ?_
  refine ge_12_45 hx hb hts (inU inW_X12) hown hK hP k_172 (hts _ (List.mem_cons_of_mem _ lw_1479)) dX12_cut_103 ?_
  refine lv_iadd hx hb dX12_cut_106 ?_
  obtain ⟨z1, e_z1, h⟩ := nm_s h
  refine xs_14 hx hb hK hG hP hS k_198 l_198 (ix_in (by decide)) dX12_cut_107 (fun H locs hP hS => ?_)
  rw [← e_z1] at hP
  refine lv_iconst (v := 0) hx hb dX12_cut_108 (by decide) ?_
  refine lv_istore (lv' := [(6, .int 0), (0, .ref (G.2.2 172)), (5, .int v5)]) hx hb dX12_cut_109 hl (by decide) rfl (fun ls hl => ?_)
  exact pf_X12_cut_111 C   fu v5 0 z1  _ _ _ hP hS (lv_sub hl [1, 2, 0] rfl) h
def fn_X12_cut (v1 : Int32) (v2 : Int32) (v3 : Int32) (z : St) : Option (Int32 × St) := bv (fn_X12_load   z) (fun z2 => bd (fn_X12_canCut  v1 v2 v3 z2) (fun r4 z5 => (if r4 = 0 then some ((-1), z5) else bv (fn_X12_act   z5) (fun z8 => bd (fn_X12_slipOf  v1 v2 z8) (fun r10 z11 => bd (fn_X12_goCut  v1 v2 v3 z11) (fun r13 z14 => nm (sI z14 198 (Int32.toNatClampNeg 170) ((((z14.1 198 (Int32.toNatClampNeg 170)) * 137) + 71) - (((z14.1 198 (Int32.toNatClampNeg 170)) * 137) + 71) / 1000 * 1000)) (fun z15 => (if r10 ≤ ((z15.1 198 (Int32.toNatClampNeg 170)) - (z15.1 198 (Int32.toNatClampNeg 170)) / 100 * 100) then fn_X12_cut_93   r13 z15 else gd (ix ((7 * r13) + 5) 171) (nm (sI z15 198 (Int32.toNatClampNeg ((7 * r13) + 5)) 1) (fun z18 => fn_X12_cut_93   r13 z18))))))))))
set_option maxHeartbeats 4000000 in
set_option maxRecDepth 100000 in
theorem m_X12_cut {l : Launch} {G : wG} (hG : Ok G) {v1 : Int32} {v2 : Int32} {v3 : Int32} {z : St} {Rz : Int32 × St}  (h : fn_X12_cut  v1 v2 v3 z = some Rz) : Met l yX12_cut (wsU yX12_cut cX12_cut 7 (some .int)) (rmd 5) (va_Pc [.ref (G.2.2 172), .int v1, .int v2, .int v3] (Pre G z)) (va_Qi (fun r u => (r, u) = Rz) (Pre G) (AW G)) 0 0 (AW G) := by
  refine Met.ofW (cc := cX12_cut) (maxL := 7) (ret := (some .int)) (by decide) rfl ?_
  intro p e s m args below meth c s₁ B hml hv
  obtain ⟨rfl, hP, hK⟩ := hv
  have C : CX p s m ([.ref (G.2.2 172), .int v1, .int v2, .int v3] : List Value).toArray meth c cX12_cut 7 (wsU yX12_cut cX12_cut 7 (some .int)) RX12 (some .int) G := ⟨B.exec, B.bytes, hml, findClass_of_methodNamed B.named, atoms_spec (ws := (wsU yX12_cut cX12_cut 7 (some .int))) B.pre, B.returns, B.notSynchronized, hK, hG⟩
  obtain ⟨hx, hb, -, hown, hts, hr, hlocks, -, -⟩ := id C
  have hS : va_S (AW G) s.heap s.heap [] := va_S.rf
  have hl := lv_entry [.ref (G.2.2 172), .int v1, .int v2, .int v3] (n := 7) (Nat.le_of_ble_eq_true rfl)
  rw [lg_entry_eq]
  generalize (lg_sl [.ref (G.2.2 172), .int v1, .int v2, .int v3] ++ List.replicate (7 - (lg_sl [.ref (G.2.2 172), .int v1, .int v2, .int v3]).length) Slot.unset).toArray = ls at hl ⊢
  have hl : lv_has ls 7 [(0, .ref (G.2.2 172)), (1, .int v1), (2, .int v2), (3, .int v3)] := hl
  unfold fn_X12_cut at h
  refine lv_aload_n hx hb dX12_cut_0 rfl (lv_at hl 0 rfl) ?_
  obtain ⟨z2, h1, h⟩ := bv_s h
  refine x_Vv (Rz := z2) (As := []) (rest := []) ⟨hx, hb, hml, hown, hts⟩ hK hP hS (kd_lt k_172 (by decide)) (cell_12 k_172) rfl (m_X12_load hG   h1) (cwV 0 hts (gV lw_1830 lw_1832 lw_73 lw_125 lw_1833) rfl rfl rfl (by decide +kernel) (rmd_ok (by decide) (by decide))) rfl hl.1 rfl (Nat.le_of_ble_eq_true rfl) dX12_cut_1 ⟨Nat.le_refl _, Nat.le_refl _⟩ (fun H locs hP hS => ?_)
  refine lv_aload_n hx hb dX12_cut_4 rfl (lv_at hl 0 rfl) ?_
  refine lv_iload_n hx hb dX12_cut_5 rfl (lv_at hl 1 rfl) ?_
  refine lv_iload_n hx hb dX12_cut_6 rfl (lv_at hl 2 rfl) ?_
  refine lv_iload_n hx hb dX12_cut_7 rfl (lv_at hl 3 rfl) ?_
  obtain ⟨r4, z5, h3, h⟩ := bd_s h
  refine x_Vi (Rz := (r4, z5)) (As := [.int v1, .int v2, .int v3]) (rest := []) ⟨hx, hb, hml, hown, hts⟩ hK hP hS (kd_lt k_172 (by decide)) (cell_12 k_172) rfl (m_X12_canCut hG   h3) (cwV 3 hts (gV lw_1881 lw_1883 lw_81 lw_125 lw_1884) rfl rfl rfl (by decide +kernel) (rmd_ok (by decide) (by decide))) rfl hl.1 rfl (Nat.le_of_ble_eq_true rfl) dX12_cut_8 ⟨Nat.le_refl _, Nat.le_refl _⟩ (fun H locs hP hS => ?_)
  refine lv_if_ne (tgt := 16) hx hb dX12_cut_11 (by decide) (fun c6 => ?_) (fun c6 => ?_)
  · rw [if_neg c6] at h
    refine lv_aload_n hx hb dX12_cut_16 rfl (lv_at hl 0 rfl) ?_
    obtain ⟨z8, h7, h⟩ := bv_s h
    refine x_Vv (Rz := z8) (As := []) (rest := []) ⟨hx, hb, hml, hown, hts⟩ hK hP hS (kd_lt k_172 (by decide)) (cell_12 k_172) rfl (m_X12_act hG   h7) (cwV 0 hts (gV lw_1897 lw_1899 lw_84 lw_125 lw_1900) rfl rfl rfl (by decide +kernel) (rmd_ok (by decide) (by decide))) rfl hl.1 rfl (Nat.le_of_ble_eq_true rfl) dX12_cut_17 ⟨Nat.le_refl _, Nat.le_refl _⟩ (fun H locs hP hS => ?_)
    refine lv_aload_n hx hb dX12_cut_20 rfl (lv_at hl 0 rfl) ?_
    refine lv_iload_n hx hb dX12_cut_21 rfl (lv_at hl 1 rfl) ?_
    refine lv_iload_n hx hb dX12_cut_22 rfl (lv_at hl 2 rfl) ?_
    obtain ⟨r10, z11, h9, h⟩ := bd_s h
    refine x_Vi (Rz := (r10, z11)) (As := [.int v1, .int v2]) (rest := []) ⟨hx, hb, hml, hown, hts⟩ hK hP hS (kd_lt k_172 (by decide)) (cell_12 k_172) rfl (m_X12_slipOf hG   h9) (cwV 2 hts (gV lw_1889 lw_1891 lw_83 lw_125 lw_1892) rfl rfl rfl (by decide +kernel) (rmd_ok (by decide) (by decide))) rfl hl.1 rfl (Nat.le_of_ble_eq_true rfl) dX12_cut_23 ⟨Nat.le_refl _, Nat.le_refl _⟩ (fun H locs hP hS => ?_)
    refine lv_istore (lv' := [(4, .int r10), (0, .ref (G.2.2 172)), (1, .int v1), (2, .int v2), (3, .int v3)]) hx hb dX12_cut_26 hl (by decide) rfl (fun ls hl => ?_)
    refine lv_aload_n hx hb dX12_cut_28 rfl (lv_at hl 1 rfl) ?_
    refine lv_iload_n hx hb dX12_cut_29 rfl (lv_at hl 2 rfl) ?_
    refine lv_iload_n hx hb dX12_cut_30 rfl (lv_at hl 3 rfl) ?_
    refine lv_iload_n hx hb dX12_cut_31 rfl (lv_at hl 4 rfl) ?_
    obtain ⟨r13, z14, h12, h⟩ := bd_s h
    refine x_Vi (Rz := (r13, z14)) (As := [.int v1, .int v2, .int v3]) (rest := []) ⟨hx, hb, hml, hown, hts⟩ hK hP hS (kd_lt k_172 (by decide)) (cell_12 k_172) rfl (m_X12_goCut hG   h12) (cwV 3 hts (gV lw_1901 lw_1903 lw_85 lw_125 lw_1904) rfl rfl rfl (by decide +kernel) (rmd_ok (by decide) (by decide))) rfl hl.1 rfl (Nat.le_of_ble_eq_true rfl) dX12_cut_32 ⟨Nat.le_refl _, Nat.le_refl _⟩ (fun H locs hP hS => ?_)
    refine lv_istore (lv' := [(5, .int r13), (4, .int r10), (0, .ref (G.2.2 172)), (1, .int v1), (2, .int v2), (3, .int v3)]) hx hb dX12_cut_35 hl (by decide) rfl (fun ls hl => ?_)
    refine lv_aload_n hx hb dX12_cut_37 rfl (lv_at hl 2 rfl) ?_
    refine ge_12_49 hx hb hts (inU inW_X12) hown hK hP k_172 (hts _ (List.mem_cons_of_mem _ lw_1483)) dX12_cut_38 ?_
    refine lv_sipush (v := 170) hx hb dX12_cut_41 (by decide) ?_
    refine lv_aload_n hx hb dX12_cut_44 rfl (lv_at hl 2 rfl) ?_
    refine ge_12_49 hx hb hts (inU inW_X12) hown hK hP k_172 (hts _ (List.mem_cons_of_mem _ lw_1483)) dX12_cut_45 ?_
    refine lv_sipush (v := 170) hx hb dX12_cut_48 (by decide) ?_
    refine xl_14 hx hb hK hP k_198 l_198 (ix_in (by decide)) dX12_cut_51 ?_
    refine lv_sipush (v := 137) hx hb dX12_cut_52 (by decide) ?_
    refine lv_imul hx hb dX12_cut_55 ?_
    refine lv_bipush (v := 71) hx hb dX12_cut_56 (by decide) ?_
    refine lv_iadd hx hb dX12_cut_58 ?_
    refine lv_sipush (v := 1000) hx hb dX12_cut_59 (by decide) ?_
    refine lv_irem hx hb dX12_cut_62 (by decide) ?_
    obtain ⟨z15, e_z15, h⟩ := nm_s h
    refine xs_14 hx hb hK hG hP hS k_198 l_198 (ix_in (by decide)) dX12_cut_63 (fun H locs hP hS => ?_)
    rw [← e_z15] at hP
    refine lv_aload_n hx hb dX12_cut_64 rfl (lv_at hl 2 rfl) ?_
    refine ge_12_49 hx hb hts (inU inW_X12) hown hK hP k_172 (hts _ (List.mem_cons_of_mem _ lw_1483)) dX12_cut_65 ?_
    refine lv_sipush (v := 170) hx hb dX12_cut_68 (by decide) ?_
    refine xl_14 hx hb hK hP k_198 l_198 (ix_in (by decide)) dX12_cut_71 ?_
    refine lv_bipush (v := 100) hx hb dX12_cut_72 (by decide) ?_
    refine lv_irem hx hb dX12_cut_74 (by decide) ?_
    refine lv_iload hx hb dX12_cut_75 (lv_at hl 1 rfl) ?_
    refine lv_icmp_ge (tgt := 93) hx hb dX12_cut_77 (by decide) (fun c16 => ?_) (fun c16 => ?_)
    · rw [if_pos c16] at h
      exact pf_X12_cut_93 C   r13 z15  hP hS (lv_sub hl [2, 0] rfl) h
    · rw [if_neg c16] at h
      refine lv_aload_n hx hb dX12_cut_80 rfl (lv_at hl 2 rfl) ?_
      refine ge_12_49 hx hb hts (inU inW_X12) hown hK hP k_172 (hts _ (List.mem_cons_of_mem _ lw_1483)) dX12_cut_81 ?_
      refine lv_bipush (v := 7) hx hb dX12_cut_84 (by decide) ?_
      refine lv_iload hx hb dX12_cut_86 (lv_at hl 0 rfl) ?_
      refine lv_imul hx hb dX12_cut_88 ?_
      refine lv_iconst (v := 5) hx hb dX12_cut_89 (by decide) ?_
      refine lv_iadd hx hb dX12_cut_90 ?_
      refine lv_iconst (v := 1) hx hb dX12_cut_91 (by decide) ?_
      obtain ⟨g17, h⟩ := gd_s h
      obtain ⟨z18, e_z18, h⟩ := nm_s h
      refine xs_14 hx hb hK hG hP hS k_198 l_198 (ix_in g17) dX12_cut_92 (fun H locs hP hS => ?_)
      rw [← e_z18] at hP
      exact pf_X12_cut_93 C   r13 z18  hP hS (lv_sub hl [2, 0] rfl) h
  · rw [if_pos c6] at h
    refine lv_iconst (v := (-1)) hx hb dX12_cut_14 (by decide) ?_
    exact x_iret hx hb hr hlocks hK hP hS h dX12_cut_15
def fn_X12_give_96 (k60 : Int32 → Int32 → St → Option (Int32 × St)) (v4 : Int32) (tv0 : Int32) (tv1 : Int32) (z : St) : Option (Int32 × St) := bd (fn_X12_truth  tv1 z) (fun r2 z3 => nm (tv0 + r2) (fun v3_4 => k60 v3_4 (v4 + 1) z3))
set_option maxHeartbeats 4000000 in
set_option maxRecDepth 100000 in
theorem pf_X12_give_96 {p : Program} {l : Launch} {e : Env} {s : State} {m : MethodId} {args : Array Value} {below : List Frame} {meth : Method} {c : Code} {G : wG} (C : CX p s m args meth c cX12_give 5 (wsU yX12_give cX12_give 5 (some .int)) RX12 (some .int) G) {Rz : Int32 × St} {k60 : Int32 → Int32 → St → Option (Int32 × St)} (hk_60 : ∀ (v3 : Int32) (v4 : Int32) (z : St)  (H : Heap) (locs : List Loc) (ls : Array Slot), WP G z H → va_S (AW G) s.heap H locs → lv_has ls 5 [(0, .ref (G.2.2 172)), (3, .int v3), (4, .int v4)] → k60 v3 v4 z = some Rz → W p l e (rmd 3) s m args below meth c H locs 0 0 (QI below args s G Rz) (F0 m 60 ls [])) (v4 : Int32) (tv0 : Int32) (tv1 : Int32) (z : St)  {H : Heap} {locs : List Loc} {ls : Array Slot} (hP : WP G z H) (hS : va_S (AW G) s.heap H locs) (hl : lv_has ls 5 [(0, .ref (G.2.2 172)), (4, .int v4)]) (h : fn_X12_give_96  k60 v4 tv0 tv1 z = some Rz) : W p l e (rmd 3) s m args below meth c H locs 0 0 (QI below args s G Rz) (F0 m 96 ls [.int tv1, .int tv0]) := by
  obtain ⟨hx, hb, hml, hown, hts, hr, hlocks, hK, hG⟩ := id C
  unfold fn_X12_give_96 at h
  obtain ⟨r2, z3, h1, h⟩ := bd_s h
  refine x_Si (Rz := (r2, z3)) (As := [.int tv1]) (rest := [.int tv0]) ⟨hx, hb, hml, hown, hts⟩ hK hP hS (m_X12_truth hG   h1) (va_cwS 1 hts (gS lw_1842 lw_1843 lw_125 lw_1844) rfl rfl rfl (by decide +kernel) (rmd_ok (by decide) (by decide))) rfl hl.1 rfl (Nat.le_of_ble_eq_true rfl) dX12_give_96 ⟨Nat.le_refl _, Nat.le_refl _⟩ (fun H locs hP hS => ?_)
  refine lv_iadd hx hb dX12_give_99 ?_
  obtain ⟨v3_4, e_v3_4, h⟩ := nm_s h
  refine x_top e_v3_4 ?_
  refine lv_istore_n (lv' := [(3, .int v3_4), (0, .ref (G.2.2 172)), (4, .int v4)]) hx hb dX12_give_100 rfl hl (by decide) rfl (fun ls hl => ?_)
  refine lv_iinc (v := (v4 + 1)) (lv' := [(4, .int (v4 + 1)), (3, .int v3_4), (0, .ref (G.2.2 172))]) hx hb dX12_give_101 hl (k := 2) rfl rfl (by decide) rfl (fun ls hl => ?_)
  refine lv_goto (tgt := 60) hx hb dX12_give_104 (by decide) ?_
  exact hk_60 v3_4 (v4 + 1) z3  _ _ _ hP hS (lv_sub hl [2, 1, 0] rfl) h
def fn_X12_give_60 : Nat → Int32 → Int32 → St → Option (Int32 × St)
  | 0, _, _, _ => none
  | n + 1, v3, v4, z => (if (z.1 197 (Int32.toNatClampNeg 168)) ≤ v4 then some (v3, z) else gd (ix ((7 * v4) + 6) 171) ((if (z.1 197 (Int32.toNatClampNeg ((7 * v4) + 6))) = (-1) then fn_X12_give_96  (fn_X12_give_60   n) v4 v3 0 z else fn_X12_give_96  (fn_X12_give_60   n) v4 v3 1 z)))
set_option maxHeartbeats 4000000 in
set_option maxRecDepth 100000 in
theorem pf_X12_give_60 {p : Program} {l : Launch} {e : Env} {s : State} {m : MethodId} {args : Array Value} {below : List Frame} {meth : Method} {c : Code} {G : wG} (C : CX p s m args meth c cX12_give 5 (wsU yX12_give cX12_give 5 (some .int)) RX12 (some .int) G) {Rz : Int32 × St} : ∀ (n : Nat) (v3 : Int32) (v4 : Int32) (z : St)  (H : Heap) (locs : List Loc) (ls : Array Slot), WP G z H → va_S (AW G) s.heap H locs → lv_has ls 5 [(0, .ref (G.2.2 172)), (3, .int v3), (4, .int v4)] → fn_X12_give_60   n v3 v4 z = some Rz → W p l e (rmd 3) s m args below meth c H locs 0 0 (QI below args s G Rz) (F0 m 60 ls []) := by
  obtain ⟨hx, hb, hml, hown, hts, hr, hlocks, hK, hG⟩ := id C
  intro n
  induction n with
  | zero => intro v3 v4 z  H locs ls hP hS hl h; cases h
  | succ n ih =>
    intro v3 v4 z  H locs ls hP hS hl h
    rw [fn_X12_give_60] at h
    refine lv_iload hx hb dX12_give_60 (lv_at hl 2 rfl) ?_
    refine lv_aload_n hx hb dX12_give_62 rfl (lv_at hl 0 rfl) ?_
    refine ge_12_48 hx hb hts (inU inW_X12) hown hK hP k_172 (hts _ (List.mem_cons_of_mem _ lw_1482)) dX12_give_63 ?_
    refine lv_sipush (v := 168) hx hb dX12_give_66 (by decide) ?_
    refine xl_14 hx hb hK hP k_197 l_197 (ix_in (by decide)) dX12_give_69 ?_
    refine lv_icmp_ge (tgt := 107) hx hb dX12_give_70 (by decide) (fun c1 => ?_) (fun c1 => ?_)
    · rw [if_pos c1] at h
      refine lv_iload_n hx hb dX12_give_107 rfl (lv_at hl 1 rfl) ?_
      exact x_iret hx hb hr hlocks hK hP hS h dX12_give_108
    · rw [if_neg c1] at h
      refine lv_iload_n hx hb dX12_give_73 rfl (lv_at hl 1 rfl) ?_
      refine lv_aload_n hx hb dX12_give_74 rfl (lv_at hl 0 rfl) ?_
      refine ge_12_48 hx hb hts (inU inW_X12) hown hK hP k_172 (hts _ (List.mem_cons_of_mem _ lw_1482)) dX12_give_75 ?_
      refine lv_bipush (v := 7) hx hb dX12_give_78 (by decide) ?_
      refine lv_iload hx hb dX12_give_80 (lv_at hl 2 rfl) ?_
      refine lv_imul hx hb dX12_give_82 ?_
      refine lv_bipush (v := 6) hx hb dX12_give_83 (by decide) ?_
      refine lv_iadd hx hb dX12_give_85 ?_
      obtain ⟨g2, h⟩ := gd_s h
      refine xl_14 hx hb hK hP k_197 l_197 (ix_in g2) dX12_give_86 ?_
      refine lv_iconst (v := (-1)) hx hb dX12_give_87 (by decide) ?_
      refine lv_icmp_eq (tgt := 95) hx hb dX12_give_88 (by decide) (fun c3 => ?_) (fun c3 => ?_)
      · rw [if_pos c3] at h
        refine lv_iconst (v := 0) hx hb dX12_give_95 (by decide) ?_
        exact pf_X12_give_96 C  ih v4 v3 0 z  hP hS (lv_sub hl [0, 2] rfl) h
      · rw [if_neg c3] at h
        refine lv_iconst (v := 1) hx hb dX12_give_91 (by decide) ?_
        refine lv_goto (tgt := 96) hx hb dX12_give_92 (by decide) ?_
        exact pf_X12_give_96 C  ih v4 v3 1 z  hP hS (lv_sub hl [0, 2] rfl) h
def fn_X12_give (v1 : Int32) (v2 : Int32) (z : St) : Option (Int32 × St) := bv (fn_X12_load   z) (fun z2 => bd (fn_X12_isPiece  v1 z2) (fun r4 z5 => (if r4 = 0 then some ((-1), z5) else bd (fn_X12_isGuest  v2 z5) (fun r8 z9 => (if r8 = 0 then some ((-1), z9) else bd (fn_X12_isFree  v1 z9) (fun r12 z13 => (if r12 = 0 then some ((-1), z13) else bd (fn_X12_pieceOf  v2 z13) (fun r16 z17 => (if r16 < 0 then bv (fn_X12_act   z17) (fun z20 => gd (ix ((7 * v1) + 6) 171) (nm (sI z20 197 (Int32.toNatClampNeg ((7 * v1) + 6)) v2) (fun z22 => fn_X12_give_60   fu 0 0 z22))) else some ((-1), z17))))))))))
set_option maxHeartbeats 4000000 in
set_option maxRecDepth 100000 in
theorem m_X12_give {l : Launch} {G : wG} (hG : Ok G) {v1 : Int32} {v2 : Int32} {z : St} {Rz : Int32 × St}  (h : fn_X12_give  v1 v2 z = some Rz) : Met l yX12_give (wsU yX12_give cX12_give 5 (some .int)) (rmd 3) (va_Pc [.ref (G.2.2 172), .int v1, .int v2] (Pre G z)) (va_Qi (fun r u => (r, u) = Rz) (Pre G) (AW G)) 0 0 (AW G) := by
  refine Met.ofW (cc := cX12_give) (maxL := 5) (ret := (some .int)) (by decide) rfl ?_
  intro p e s m args below meth c s₁ B hml hv
  obtain ⟨rfl, hP, hK⟩ := hv
  have C : CX p s m ([.ref (G.2.2 172), .int v1, .int v2] : List Value).toArray meth c cX12_give 5 (wsU yX12_give cX12_give 5 (some .int)) RX12 (some .int) G := ⟨B.exec, B.bytes, hml, findClass_of_methodNamed B.named, atoms_spec (ws := (wsU yX12_give cX12_give 5 (some .int))) B.pre, B.returns, B.notSynchronized, hK, hG⟩
  obtain ⟨hx, hb, -, hown, hts, hr, hlocks, -, -⟩ := id C
  have hS : va_S (AW G) s.heap s.heap [] := va_S.rf
  have hl := lv_entry [.ref (G.2.2 172), .int v1, .int v2] (n := 5) (Nat.le_of_ble_eq_true rfl)
  rw [lg_entry_eq]
  generalize (lg_sl [.ref (G.2.2 172), .int v1, .int v2] ++ List.replicate (5 - (lg_sl [.ref (G.2.2 172), .int v1, .int v2]).length) Slot.unset).toArray = ls at hl ⊢
  have hl : lv_has ls 5 [(0, .ref (G.2.2 172)), (1, .int v1), (2, .int v2)] := hl
  unfold fn_X12_give at h
  refine lv_aload_n hx hb dX12_give_0 rfl (lv_at hl 0 rfl) ?_
  obtain ⟨z2, h1, h⟩ := bv_s h
  refine x_Vv (Rz := z2) (As := []) (rest := []) ⟨hx, hb, hml, hown, hts⟩ hK hP hS (kd_lt k_172 (by decide)) (cell_12 k_172) rfl (m_X12_load hG   h1) (cwV 0 hts (gV lw_1830 lw_1832 lw_73 lw_125 lw_1833) rfl rfl rfl (by decide +kernel) (rmd_ok (by decide) (by decide))) rfl hl.1 rfl (Nat.le_of_ble_eq_true rfl) dX12_give_1 ⟨Nat.le_refl _, Nat.le_refl _⟩ (fun H locs hP hS => ?_)
  refine lv_aload_n hx hb dX12_give_4 rfl (lv_at hl 0 rfl) ?_
  refine lv_iload_n hx hb dX12_give_5 rfl (lv_at hl 1 rfl) ?_
  obtain ⟨r4, z5, h3, h⟩ := bd_s h
  refine x_Vi (Rz := (r4, z5)) (As := [.int v1]) (rest := []) ⟨hx, hb, hml, hown, hts⟩ hK hP hS (kd_lt k_172 (by decide)) (cell_12 k_172) rfl (m_X12_isPiece hG   h3) (cwV 1 hts (gV lw_1823 lw_1825 lw_72 lw_125 lw_1826) rfl rfl rfl (by decide +kernel) (rmd_ok (by decide) (by decide))) rfl hl.1 rfl (Nat.le_of_ble_eq_true rfl) dX12_give_6 ⟨Nat.le_refl _, Nat.le_refl _⟩ (fun H locs hP hS => ?_)
  refine lv_if_eq (tgt := 36) hx hb dX12_give_9 (by decide) (fun c6 => ?_) (fun c6 => ?_)
  · rw [if_pos c6] at h
    refine lv_iconst (v := (-1)) hx hb dX12_give_36 (by decide) ?_
    exact x_iret hx hb hr hlocks hK hP hS h dX12_give_37
  · rw [if_neg c6] at h
    refine lv_aload_n hx hb dX12_give_12 rfl (lv_at hl 0 rfl) ?_
    refine lv_iload_n hx hb dX12_give_13 rfl (lv_at hl 2 rfl) ?_
    obtain ⟨r8, z9, h7, h⟩ := bd_s h
    refine x_Vi (Rz := (r8, z9)) (As := [.int v2]) (rest := []) ⟨hx, hb, hml, hown, hts⟩ hK hP hS (kd_lt k_172 (by decide)) (cell_12 k_172) rfl (m_X12_isGuest hG   h7) (cwV 1 hts (gV lw_1849 lw_1851 lw_76 lw_125 lw_1852) rfl rfl rfl (by decide +kernel) (rmd_ok (by decide) (by decide))) rfl hl.1 rfl (Nat.le_of_ble_eq_true rfl) dX12_give_14 ⟨Nat.le_refl _, Nat.le_refl _⟩ (fun H locs hP hS => ?_)
    refine lv_if_eq (tgt := 36) hx hb dX12_give_17 (by decide) (fun c10 => ?_) (fun c10 => ?_)
    · rw [if_pos c10] at h
      refine lv_iconst (v := (-1)) hx hb dX12_give_36 (by decide) ?_
      exact x_iret hx hb hr hlocks hK hP hS h dX12_give_37
    · rw [if_neg c10] at h
      refine lv_aload_n hx hb dX12_give_20 rfl (lv_at hl 0 rfl) ?_
      refine lv_iload_n hx hb dX12_give_21 rfl (lv_at hl 1 rfl) ?_
      obtain ⟨r12, z13, h11, h⟩ := bd_s h
      refine x_Vi (Rz := (r12, z13)) (As := [.int v1]) (rest := []) ⟨hx, hb, hml, hown, hts⟩ hK hP hS (kd_lt k_172 (by decide)) (cell_12 k_172) rfl (m_X12_isFree hG   h11) (cwV 1 hts (gV lw_1885 lw_1887 lw_82 lw_125 lw_1888) rfl rfl rfl (by decide +kernel) (rmd_ok (by decide) (by decide))) rfl hl.1 rfl (Nat.le_of_ble_eq_true rfl) dX12_give_22 ⟨Nat.le_refl _, Nat.le_refl _⟩ (fun H locs hP hS => ?_)
      refine lv_if_eq (tgt := 36) hx hb dX12_give_25 (by decide) (fun c14 => ?_) (fun c14 => ?_)
      · rw [if_pos c14] at h
        refine lv_iconst (v := (-1)) hx hb dX12_give_36 (by decide) ?_
        exact x_iret hx hb hr hlocks hK hP hS h dX12_give_37
      · rw [if_neg c14] at h
        refine lv_aload_n hx hb dX12_give_28 rfl (lv_at hl 0 rfl) ?_
        refine lv_iload_n hx hb dX12_give_29 rfl (lv_at hl 2 rfl) ?_
        obtain ⟨r16, z17, h15, h⟩ := bd_s h
        refine x_Vi (Rz := (r16, z17)) (As := [.int v2]) (rest := []) ⟨hx, hb, hml, hown, hts⟩ hK hP hS (kd_lt k_172 (by decide)) (cell_12 k_172) rfl (m_X12_pieceOf hG   h15) (cwV 1 hts (gV lw_1853 lw_1855 lw_77 lw_125 lw_1856) rfl rfl rfl (by decide +kernel) (rmd_ok (by decide) (by decide))) rfl hl.1 rfl (Nat.le_of_ble_eq_true rfl) dX12_give_30 ⟨Nat.le_refl _, Nat.le_refl _⟩ (fun H locs hP hS => ?_)
        refine lv_if_lt (tgt := 38) hx hb dX12_give_33 (by decide) (fun c18 => ?_) (fun c18 => ?_)
        · rw [if_pos c18] at h
          refine lv_aload_n hx hb dX12_give_38 rfl (lv_at hl 0 rfl) ?_
          obtain ⟨z20, h19, h⟩ := bv_s h
          refine x_Vv (Rz := z20) (As := []) (rest := []) ⟨hx, hb, hml, hown, hts⟩ hK hP hS (kd_lt k_172 (by decide)) (cell_12 k_172) rfl (m_X12_act hG   h19) (cwV 0 hts (gV lw_1897 lw_1899 lw_84 lw_125 lw_1900) rfl rfl rfl (by decide +kernel) (rmd_ok (by decide) (by decide))) rfl hl.1 rfl (Nat.le_of_ble_eq_true rfl) dX12_give_39 ⟨Nat.le_refl _, Nat.le_refl _⟩ (fun H locs hP hS => ?_)
          refine lv_aload_n hx hb dX12_give_42 rfl (lv_at hl 0 rfl) ?_
          refine ge_12_48 hx hb hts (inU inW_X12) hown hK hP k_172 (hts _ (List.mem_cons_of_mem _ lw_1482)) dX12_give_43 ?_
          refine lv_bipush (v := 7) hx hb dX12_give_46 (by decide) ?_
          refine lv_iload_n hx hb dX12_give_48 rfl (lv_at hl 1 rfl) ?_
          refine lv_imul hx hb dX12_give_49 ?_
          refine lv_bipush (v := 6) hx hb dX12_give_50 (by decide) ?_
          refine lv_iadd hx hb dX12_give_52 ?_
          refine lv_iload_n hx hb dX12_give_53 rfl (lv_at hl 2 rfl) ?_
          obtain ⟨g21, h⟩ := gd_s h
          obtain ⟨z22, e_z22, h⟩ := nm_s h
          refine xs_14 hx hb hK hG hP hS k_197 l_197 (ix_in g21) dX12_give_54 (fun H locs hP hS => ?_)
          rw [← e_z22] at hP
          refine lv_iconst (v := 0) hx hb dX12_give_55 (by decide) ?_
          refine lv_istore_n (lv' := [(3, .int 0), (0, .ref (G.2.2 172)), (1, .int v1), (2, .int v2)]) hx hb dX12_give_56 rfl hl (by decide) rfl (fun ls hl => ?_)
          refine lv_iconst (v := 0) hx hb dX12_give_57 (by decide) ?_
          refine lv_istore (lv' := [(4, .int 0), (3, .int 0), (0, .ref (G.2.2 172)), (1, .int v1), (2, .int v2)]) hx hb dX12_give_58 hl (by decide) rfl (fun ls hl => ?_)
          exact pf_X12_give_60 C   fu 0 0 z22  _ _ _ hP hS (lv_sub hl [2, 1, 0] rfl) h
        · rw [if_neg c18] at h
          refine lv_iconst (v := (-1)) hx hb dX12_give_36 (by decide) ?_
          exact x_iret hx hb hr hlocks hK hP hS h dX12_give_37
def fn_X12_back_21 (tv0 : Int32) (z : St) : Option (Int32 × St) := (if 0 ≤ tv0 then bv (fn_X12_act   z) (fun z3 => gd (ix ((7 * tv0) + 6) 171) (nm (sI z3 197 (Int32.toNatClampNeg ((7 * tv0) + 6)) (-1)) (fun z5 => some (tv0, z5)))) else some ((-1), z))
set_option maxHeartbeats 4000000 in
set_option maxRecDepth 100000 in
theorem pf_X12_back_21 {p : Program} {l : Launch} {e : Env} {s : State} {m : MethodId} {args : Array Value} {below : List Frame} {meth : Method} {c : Code} {G : wG} (C : CX p s m args meth c cX12_back 3 (wsU yX12_back cX12_back 3 (some .int)) RX12 (some .int) G) {Rz : Int32 × St} (tv0 : Int32) (z : St)  {H : Heap} {locs : List Loc} {ls : Array Slot} (hP : WP G z H) (hS : va_S (AW G) s.heap H locs) (hl : lv_has ls 3 [(0, .ref (G.2.2 172))]) (h : fn_X12_back_21   tv0 z = some Rz) : W p l e (rmd 3) s m args below meth c H locs 0 0 (QI below args s G Rz) (F0 m 21 ls [.int tv0]) := by
  obtain ⟨hx, hb, hml, hown, hts, hr, hlocks, hK, hG⟩ := id C
  unfold fn_X12_back_21 at h
  refine lv_istore_n (lv' := [(2, .int tv0), (0, .ref (G.2.2 172))]) hx hb dX12_back_21 rfl hl (by decide) rfl (fun ls hl => ?_)
  refine lv_iload_n hx hb dX12_back_22 rfl (lv_at hl 0 rfl) ?_
  refine lv_if_ge (tgt := 28) hx hb dX12_back_23 (by decide) (fun c1 => ?_) (fun c1 => ?_)
  · rw [if_pos c1] at h
    refine lv_aload_n hx hb dX12_back_28 rfl (lv_at hl 1 rfl) ?_
    obtain ⟨z3, h2, h⟩ := bv_s h
    refine x_Vv (Rz := z3) (As := []) (rest := []) ⟨hx, hb, hml, hown, hts⟩ hK hP hS (kd_lt k_172 (by decide)) (cell_12 k_172) rfl (m_X12_act hG   h2) (cwV 0 hts (gV lw_1897 lw_1899 lw_84 lw_125 lw_1900) rfl rfl rfl (by decide +kernel) (rmd_ok (by decide) (by decide))) rfl hl.1 rfl (Nat.le_of_ble_eq_true rfl) dX12_back_29 ⟨Nat.le_refl _, Nat.le_refl _⟩ (fun H locs hP hS => ?_)
    refine lv_aload_n hx hb dX12_back_32 rfl (lv_at hl 1 rfl) ?_
    refine ge_12_48 hx hb hts (inU inW_X12) hown hK hP k_172 (hts _ (List.mem_cons_of_mem _ lw_1482)) dX12_back_33 ?_
    refine lv_bipush (v := 7) hx hb dX12_back_36 (by decide) ?_
    refine lv_iload_n hx hb dX12_back_38 rfl (lv_at hl 0 rfl) ?_
    refine lv_imul hx hb dX12_back_39 ?_
    refine lv_bipush (v := 6) hx hb dX12_back_40 (by decide) ?_
    refine lv_iadd hx hb dX12_back_42 ?_
    refine lv_iconst (v := (-1)) hx hb dX12_back_43 (by decide) ?_
    obtain ⟨g4, h⟩ := gd_s h
    obtain ⟨z5, e_z5, h⟩ := nm_s h
    refine xs_14 hx hb hK hG hP hS k_197 l_197 (ix_in g4) dX12_back_44 (fun H locs hP hS => ?_)
    rw [← e_z5] at hP
    refine lv_iload_n hx hb dX12_back_45 rfl (lv_at hl 0 rfl) ?_
    exact x_iret hx hb hr hlocks hK hP hS h dX12_back_46
  · rw [if_neg c1] at h
    refine lv_iconst (v := (-1)) hx hb dX12_back_26 (by decide) ?_
    exact x_iret hx hb hr hlocks hK hP hS h dX12_back_27
def fn_X12_back (v1 : Int32) (z : St) : Option (Int32 × St) := bv (fn_X12_load   z) (fun z2 => bd (fn_X12_isGuest  v1 z2) (fun r4 z5 => (if r4 = 0 then fn_X12_back_21   (-1) z5 else bd (fn_X12_pieceOf  v1 z5) (fun r8 z9 => fn_X12_back_21   r8 z9))))
set_option maxHeartbeats 4000000 in
set_option maxRecDepth 100000 in
theorem m_X12_back {l : Launch} {G : wG} (hG : Ok G) {v1 : Int32} {z : St} {Rz : Int32 × St}  (h : fn_X12_back  v1 z = some Rz) : Met l yX12_back (wsU yX12_back cX12_back 3 (some .int)) (rmd 3) (va_Pc [.ref (G.2.2 172), .int v1] (Pre G z)) (va_Qi (fun r u => (r, u) = Rz) (Pre G) (AW G)) 0 0 (AW G) := by
  refine Met.ofW (cc := cX12_back) (maxL := 3) (ret := (some .int)) (by decide) rfl ?_
  intro p e s m args below meth c s₁ B hml hv
  obtain ⟨rfl, hP, hK⟩ := hv
  have C : CX p s m ([.ref (G.2.2 172), .int v1] : List Value).toArray meth c cX12_back 3 (wsU yX12_back cX12_back 3 (some .int)) RX12 (some .int) G := ⟨B.exec, B.bytes, hml, findClass_of_methodNamed B.named, atoms_spec (ws := (wsU yX12_back cX12_back 3 (some .int))) B.pre, B.returns, B.notSynchronized, hK, hG⟩
  obtain ⟨hx, hb, -, hown, hts, hr, hlocks, -, -⟩ := id C
  have hS : va_S (AW G) s.heap s.heap [] := va_S.rf
  have hl := lv_entry [.ref (G.2.2 172), .int v1] (n := 3) (Nat.le_of_ble_eq_true rfl)
  rw [lg_entry_eq]
  generalize (lg_sl [.ref (G.2.2 172), .int v1] ++ List.replicate (3 - (lg_sl [.ref (G.2.2 172), .int v1]).length) Slot.unset).toArray = ls at hl ⊢
  have hl : lv_has ls 3 [(0, .ref (G.2.2 172)), (1, .int v1)] := hl
  unfold fn_X12_back at h
  refine lv_aload_n hx hb dX12_back_0 rfl (lv_at hl 0 rfl) ?_
  obtain ⟨z2, h1, h⟩ := bv_s h
  refine x_Vv (Rz := z2) (As := []) (rest := []) ⟨hx, hb, hml, hown, hts⟩ hK hP hS (kd_lt k_172 (by decide)) (cell_12 k_172) rfl (m_X12_load hG   h1) (cwV 0 hts (gV lw_1830 lw_1832 lw_73 lw_125 lw_1833) rfl rfl rfl (by decide +kernel) (rmd_ok (by decide) (by decide))) rfl hl.1 rfl (Nat.le_of_ble_eq_true rfl) dX12_back_1 ⟨Nat.le_refl _, Nat.le_refl _⟩ (fun H locs hP hS => ?_)
  refine lv_aload_n hx hb dX12_back_4 rfl (lv_at hl 0 rfl) ?_
  refine lv_iload_n hx hb dX12_back_5 rfl (lv_at hl 1 rfl) ?_
  obtain ⟨r4, z5, h3, h⟩ := bd_s h
  refine x_Vi (Rz := (r4, z5)) (As := [.int v1]) (rest := []) ⟨hx, hb, hml, hown, hts⟩ hK hP hS (kd_lt k_172 (by decide)) (cell_12 k_172) rfl (m_X12_isGuest hG   h3) (cwV 1 hts (gV lw_1849 lw_1851 lw_76 lw_125 lw_1852) rfl rfl rfl (by decide +kernel) (rmd_ok (by decide) (by decide))) rfl hl.1 rfl (Nat.le_of_ble_eq_true rfl) dX12_back_6 ⟨Nat.le_refl _, Nat.le_refl _⟩ (fun H locs hP hS => ?_)
  refine lv_if_eq (tgt := 20) hx hb dX12_back_9 (by decide) (fun c6 => ?_) (fun c6 => ?_)
  · rw [if_pos c6] at h
    refine lv_iconst (v := (-1)) hx hb dX12_back_20 (by decide) ?_
    exact pf_X12_back_21 C   (-1) z5  hP hS (lv_sub hl [0] rfl) h
  · rw [if_neg c6] at h
    refine lv_aload_n hx hb dX12_back_12 rfl (lv_at hl 0 rfl) ?_
    refine lv_iload_n hx hb dX12_back_13 rfl (lv_at hl 1 rfl) ?_
    obtain ⟨r8, z9, h7, h⟩ := bd_s h
    refine x_Vi (Rz := (r8, z9)) (As := [.int v1]) (rest := []) ⟨hx, hb, hml, hown, hts⟩ hK hP hS (kd_lt k_172 (by decide)) (cell_12 k_172) rfl (m_X12_pieceOf hG   h7) (cwV 1 hts (gV lw_1853 lw_1855 lw_77 lw_125 lw_1856) rfl rfl rfl (by decide +kernel) (rmd_ok (by decide) (by decide))) rfl hl.1 rfl (Nat.le_of_ble_eq_true rfl) dX12_back_14 ⟨Nat.le_refl _, Nat.le_refl _⟩ (fun H locs hP hS => ?_)
    refine lv_goto (tgt := 21) hx hb dX12_back_17 (by decide) ?_
    exact pf_X12_back_21 C   r8 z9  hP hS (lv_sub hl [0] rfl) h
def fn_X12_exchange (v1 : Int32) (v2 : Int32) (z : St) : Option (Int32 × St) := bv (fn_X12_load   z) (fun z2 => bd (fn_X12_isGuest  v1 z2) (fun r4 z5 => (if r4 = 0 then some ((-1), z5) else bd (fn_X12_isGuest  v2 z5) (fun r8 z9 => (if r8 = 0 then some ((-1), z9) else (if v1 = v2 then some ((-1), z9) else bd (fn_X12_pieceOf  v1 z9) (fun r13 z14 => (if r13 < 0 then some ((-1), z14) else bd (fn_X12_pieceOf  v2 z14) (fun r17 z18 => (if 0 ≤ r17 then bv (fn_X12_act   z18) (fun z21 => bd (fn_X12_pieceOf  v1 z21) (fun r23 z24 => gd (ix ((7 * r23) + 6) 171) (nm (sI z24 197 (Int32.toNatClampNeg ((7 * r23) + 6)) v2) (fun z26 => bd (fn_X12_pieceOf  v2 z26) (fun r28 z29 => gd (ix ((7 * r28) + 6) 171) (nm (sI z29 197 (Int32.toNatClampNeg ((7 * r28) + 6)) v1) (fun z31 => bd (fn_X12_pieceOf  v2 z31) (fun r33 z34 => some (r33, z34))))))))) else some ((-1), z18)))))))))))
set_option maxHeartbeats 4000000 in
set_option maxRecDepth 100000 in
theorem m_X12_exchange {l : Launch} {G : wG} (hG : Ok G) {v1 : Int32} {v2 : Int32} {z : St} {Rz : Int32 × St}  (h : fn_X12_exchange  v1 v2 z = some Rz) : Met l yX12_exchange (wsU yX12_exchange cX12_exchange 3 (some .int)) (rmd 3) (va_Pc [.ref (G.2.2 172), .int v1, .int v2] (Pre G z)) (va_Qi (fun r u => (r, u) = Rz) (Pre G) (AW G)) 0 0 (AW G) := by
  refine Met.ofW (cc := cX12_exchange) (maxL := 3) (ret := (some .int)) (by decide) rfl ?_
  intro p e s m args below meth c s₁ B hml hv
  obtain ⟨rfl, hP, hK⟩ := hv
  have C : CX p s m ([.ref (G.2.2 172), .int v1, .int v2] : List Value).toArray meth c cX12_exchange 3 (wsU yX12_exchange cX12_exchange 3 (some .int)) RX12 (some .int) G := ⟨B.exec, B.bytes, hml, findClass_of_methodNamed B.named, atoms_spec (ws := (wsU yX12_exchange cX12_exchange 3 (some .int))) B.pre, B.returns, B.notSynchronized, hK, hG⟩
  obtain ⟨hx, hb, -, hown, hts, hr, hlocks, -, -⟩ := id C
  have hS : va_S (AW G) s.heap s.heap [] := va_S.rf
  have hl := lv_entry [.ref (G.2.2 172), .int v1, .int v2] (n := 3) (Nat.le_of_ble_eq_true rfl)
  rw [lg_entry_eq]
  generalize (lg_sl [.ref (G.2.2 172), .int v1, .int v2] ++ List.replicate (3 - (lg_sl [.ref (G.2.2 172), .int v1, .int v2]).length) Slot.unset).toArray = ls at hl ⊢
  have hl : lv_has ls 3 [(0, .ref (G.2.2 172)), (1, .int v1), (2, .int v2)] := hl
  unfold fn_X12_exchange at h
  refine lv_aload_n hx hb dX12_exchange_0 rfl (lv_at hl 0 rfl) ?_
  obtain ⟨z2, h1, h⟩ := bv_s h
  refine x_Vv (Rz := z2) (As := []) (rest := []) ⟨hx, hb, hml, hown, hts⟩ hK hP hS (kd_lt k_172 (by decide)) (cell_12 k_172) rfl (m_X12_load hG   h1) (cwV 0 hts (gV lw_1830 lw_1832 lw_73 lw_125 lw_1833) rfl rfl rfl (by decide +kernel) (rmd_ok (by decide) (by decide))) rfl hl.1 rfl (Nat.le_of_ble_eq_true rfl) dX12_exchange_1 ⟨Nat.le_refl _, Nat.le_refl _⟩ (fun H locs hP hS => ?_)
  refine lv_aload_n hx hb dX12_exchange_4 rfl (lv_at hl 0 rfl) ?_
  refine lv_iload_n hx hb dX12_exchange_5 rfl (lv_at hl 1 rfl) ?_
  obtain ⟨r4, z5, h3, h⟩ := bd_s h
  refine x_Vi (Rz := (r4, z5)) (As := [.int v1]) (rest := []) ⟨hx, hb, hml, hown, hts⟩ hK hP hS (kd_lt k_172 (by decide)) (cell_12 k_172) rfl (m_X12_isGuest hG   h3) (cwV 1 hts (gV lw_1849 lw_1851 lw_76 lw_125 lw_1852) rfl rfl rfl (by decide +kernel) (rmd_ok (by decide) (by decide))) rfl hl.1 rfl (Nat.le_of_ble_eq_true rfl) dX12_exchange_6 ⟨Nat.le_refl _, Nat.le_refl _⟩ (fun H locs hP hS => ?_)
  refine lv_if_eq (tgt := 41) hx hb dX12_exchange_9 (by decide) (fun c6 => ?_) (fun c6 => ?_)
  · rw [if_pos c6] at h
    refine lv_iconst (v := (-1)) hx hb dX12_exchange_41 (by decide) ?_
    exact x_iret hx hb hr hlocks hK hP hS h dX12_exchange_42
  · rw [if_neg c6] at h
    refine lv_aload_n hx hb dX12_exchange_12 rfl (lv_at hl 0 rfl) ?_
    refine lv_iload_n hx hb dX12_exchange_13 rfl (lv_at hl 2 rfl) ?_
    obtain ⟨r8, z9, h7, h⟩ := bd_s h
    refine x_Vi (Rz := (r8, z9)) (As := [.int v2]) (rest := []) ⟨hx, hb, hml, hown, hts⟩ hK hP hS (kd_lt k_172 (by decide)) (cell_12 k_172) rfl (m_X12_isGuest hG   h7) (cwV 1 hts (gV lw_1849 lw_1851 lw_76 lw_125 lw_1852) rfl rfl rfl (by decide +kernel) (rmd_ok (by decide) (by decide))) rfl hl.1 rfl (Nat.le_of_ble_eq_true rfl) dX12_exchange_14 ⟨Nat.le_refl _, Nat.le_refl _⟩ (fun H locs hP hS => ?_)
    refine lv_if_eq (tgt := 41) hx hb dX12_exchange_17 (by decide) (fun c10 => ?_) (fun c10 => ?_)
    · rw [if_pos c10] at h
      refine lv_iconst (v := (-1)) hx hb dX12_exchange_41 (by decide) ?_
      exact x_iret hx hb hr hlocks hK hP hS h dX12_exchange_42
    · rw [if_neg c10] at h
      refine lv_iload_n hx hb dX12_exchange_20 rfl (lv_at hl 1 rfl) ?_
      refine lv_iload_n hx hb dX12_exchange_21 rfl (lv_at hl 2 rfl) ?_
      refine lv_icmp_eq (tgt := 41) hx hb dX12_exchange_22 (by decide) (fun c11 => ?_) (fun c11 => ?_)
      · rw [if_pos c11] at h
        refine lv_iconst (v := (-1)) hx hb dX12_exchange_41 (by decide) ?_
        exact x_iret hx hb hr hlocks hK hP hS h dX12_exchange_42
      · rw [if_neg c11] at h
        refine lv_aload_n hx hb dX12_exchange_25 rfl (lv_at hl 0 rfl) ?_
        refine lv_iload_n hx hb dX12_exchange_26 rfl (lv_at hl 1 rfl) ?_
        obtain ⟨r13, z14, h12, h⟩ := bd_s h
        refine x_Vi (Rz := (r13, z14)) (As := [.int v1]) (rest := []) ⟨hx, hb, hml, hown, hts⟩ hK hP hS (kd_lt k_172 (by decide)) (cell_12 k_172) rfl (m_X12_pieceOf hG   h12) (cwV 1 hts (gV lw_1853 lw_1855 lw_77 lw_125 lw_1856) rfl rfl rfl (by decide +kernel) (rmd_ok (by decide) (by decide))) rfl hl.1 rfl (Nat.le_of_ble_eq_true rfl) dX12_exchange_27 ⟨Nat.le_refl _, Nat.le_refl _⟩ (fun H locs hP hS => ?_)
        refine lv_if_lt (tgt := 41) hx hb dX12_exchange_30 (by decide) (fun c15 => ?_) (fun c15 => ?_)
        · rw [if_pos c15] at h
          refine lv_iconst (v := (-1)) hx hb dX12_exchange_41 (by decide) ?_
          exact x_iret hx hb hr hlocks hK hP hS h dX12_exchange_42
        · rw [if_neg c15] at h
          refine lv_aload_n hx hb dX12_exchange_33 rfl (lv_at hl 0 rfl) ?_
          refine lv_iload_n hx hb dX12_exchange_34 rfl (lv_at hl 2 rfl) ?_
          obtain ⟨r17, z18, h16, h⟩ := bd_s h
          refine x_Vi (Rz := (r17, z18)) (As := [.int v2]) (rest := []) ⟨hx, hb, hml, hown, hts⟩ hK hP hS (kd_lt k_172 (by decide)) (cell_12 k_172) rfl (m_X12_pieceOf hG   h16) (cwV 1 hts (gV lw_1853 lw_1855 lw_77 lw_125 lw_1856) rfl rfl rfl (by decide +kernel) (rmd_ok (by decide) (by decide))) rfl hl.1 rfl (Nat.le_of_ble_eq_true rfl) dX12_exchange_35 ⟨Nat.le_refl _, Nat.le_refl _⟩ (fun H locs hP hS => ?_)
          refine lv_if_ge (tgt := 43) hx hb dX12_exchange_38 (by decide) (fun c19 => ?_) (fun c19 => ?_)
          · rw [if_pos c19] at h
            refine lv_aload_n hx hb dX12_exchange_43 rfl (lv_at hl 0 rfl) ?_
            obtain ⟨z21, h20, h⟩ := bv_s h
            refine x_Vv (Rz := z21) (As := []) (rest := []) ⟨hx, hb, hml, hown, hts⟩ hK hP hS (kd_lt k_172 (by decide)) (cell_12 k_172) rfl (m_X12_act hG   h20) (cwV 0 hts (gV lw_1897 lw_1899 lw_84 lw_125 lw_1900) rfl rfl rfl (by decide +kernel) (rmd_ok (by decide) (by decide))) rfl hl.1 rfl (Nat.le_of_ble_eq_true rfl) dX12_exchange_44 ⟨Nat.le_refl _, Nat.le_refl _⟩ (fun H locs hP hS => ?_)
            refine lv_aload_n hx hb dX12_exchange_47 rfl (lv_at hl 0 rfl) ?_
            refine ge_12_48 hx hb hts (inU inW_X12) hown hK hP k_172 (hts _ (List.mem_cons_of_mem _ lw_1482)) dX12_exchange_48 ?_
            refine lv_bipush (v := 7) hx hb dX12_exchange_51 (by decide) ?_
            refine lv_aload_n hx hb dX12_exchange_53 rfl (lv_at hl 0 rfl) ?_
            refine lv_iload_n hx hb dX12_exchange_54 rfl (lv_at hl 1 rfl) ?_
            obtain ⟨r23, z24, h22, h⟩ := bd_s h
            refine x_Vi (Rz := (r23, z24)) (As := [.int v1]) (rest := [.int 7, .ref (G.2.2 197)]) ⟨hx, hb, hml, hown, hts⟩ hK hP hS (kd_lt k_172 (by decide)) (cell_12 k_172) rfl (m_X12_pieceOf hG   h22) (cwV 1 hts (gV lw_1853 lw_1855 lw_77 lw_125 lw_1856) rfl rfl rfl (by decide +kernel) (rmd_ok (by decide) (by decide))) rfl hl.1 rfl (Nat.le_of_ble_eq_true rfl) dX12_exchange_55 ⟨Nat.le_refl _, Nat.le_refl _⟩ (fun H locs hP hS => ?_)
            refine lv_imul hx hb dX12_exchange_58 ?_
            refine lv_bipush (v := 6) hx hb dX12_exchange_59 (by decide) ?_
            refine lv_iadd hx hb dX12_exchange_61 ?_
            refine lv_iload_n hx hb dX12_exchange_62 rfl (lv_at hl 2 rfl) ?_
            obtain ⟨g25, h⟩ := gd_s h
            obtain ⟨z26, e_z26, h⟩ := nm_s h
            refine xs_14 hx hb hK hG hP hS k_197 l_197 (ix_in g25) dX12_exchange_63 (fun H locs hP hS => ?_)
            rw [← e_z26] at hP
            refine lv_aload_n hx hb dX12_exchange_64 rfl (lv_at hl 0 rfl) ?_
            refine ge_12_48 hx hb hts (inU inW_X12) hown hK hP k_172 (hts _ (List.mem_cons_of_mem _ lw_1482)) dX12_exchange_65 ?_
            refine lv_bipush (v := 7) hx hb dX12_exchange_68 (by decide) ?_
            refine lv_aload_n hx hb dX12_exchange_70 rfl (lv_at hl 0 rfl) ?_
            refine lv_iload_n hx hb dX12_exchange_71 rfl (lv_at hl 2 rfl) ?_
            obtain ⟨r28, z29, h27, h⟩ := bd_s h
            refine x_Vi (Rz := (r28, z29)) (As := [.int v2]) (rest := [.int 7, .ref (G.2.2 197)]) ⟨hx, hb, hml, hown, hts⟩ hK hP hS (kd_lt k_172 (by decide)) (cell_12 k_172) rfl (m_X12_pieceOf hG   h27) (cwV 1 hts (gV lw_1853 lw_1855 lw_77 lw_125 lw_1856) rfl rfl rfl (by decide +kernel) (rmd_ok (by decide) (by decide))) rfl hl.1 rfl (Nat.le_of_ble_eq_true rfl) dX12_exchange_72 ⟨Nat.le_refl _, Nat.le_refl _⟩ (fun H locs hP hS => ?_)
            refine lv_imul hx hb dX12_exchange_75 ?_
            refine lv_bipush (v := 6) hx hb dX12_exchange_76 (by decide) ?_
            refine lv_iadd hx hb dX12_exchange_78 ?_
            refine lv_iload_n hx hb dX12_exchange_79 rfl (lv_at hl 1 rfl) ?_
            obtain ⟨g30, h⟩ := gd_s h
            obtain ⟨z31, e_z31, h⟩ := nm_s h
            refine xs_14 hx hb hK hG hP hS k_197 l_197 (ix_in g30) dX12_exchange_80 (fun H locs hP hS => ?_)
            rw [← e_z31] at hP
            refine lv_aload_n hx hb dX12_exchange_81 rfl (lv_at hl 0 rfl) ?_
            refine lv_iload_n hx hb dX12_exchange_82 rfl (lv_at hl 2 rfl) ?_
            obtain ⟨r33, z34, h32, h⟩ := bd_s h
            refine x_Vi (Rz := (r33, z34)) (As := [.int v2]) (rest := []) ⟨hx, hb, hml, hown, hts⟩ hK hP hS (kd_lt k_172 (by decide)) (cell_12 k_172) rfl (m_X12_pieceOf hG   h32) (cwV 1 hts (gV lw_1853 lw_1855 lw_77 lw_125 lw_1856) rfl rfl rfl (by decide +kernel) (rmd_ok (by decide) (by decide))) rfl hl.1 rfl (Nat.le_of_ble_eq_true rfl) dX12_exchange_83 ⟨Nat.le_refl _, Nat.le_refl _⟩ (fun H locs hP hS => ?_)
            exact x_iret hx hb hr hlocks hK hP hS h dX12_exchange_86
          · rw [if_neg c19] at h
            refine lv_iconst (v := (-1)) hx hb dX12_exchange_41 (by decide) ?_
            exact x_iret hx hb hr hlocks hK hP hS h dX12_exchange_42
def fn_X12_undo  (z : St) : Option (Int32 × St) := (if (z.1 172 51) = 0 then some (0, z) else nm (sI z 172 51 ((z.1 172 51) - 1)) (fun z2 => nm (sI z2 172 52 ((z2.1 172 52) + 1)) (fun z3 => bv (fn_X12_turnAbout  (171 * (z3.1 172 51)) z3) (fun z5 => some (1, z5)))))
set_option maxHeartbeats 4000000 in
set_option maxRecDepth 100000 in
theorem m_X12_undo {l : Launch} {G : wG} (hG : Ok G)  {z : St} {Rz : Int32 × St}  (h : fn_X12_undo   z = some Rz) : Met l yX12_undo (wsU yX12_undo cX12_undo 1 (some .boolean)) (rmd 2) (va_Pc [.ref (G.2.2 172)] (Pre G z)) (va_Qi (fun r u => (r, u) = Rz) (Pre G) (AW G)) 0 0 (AW G) := by
  refine Met.ofW (cc := cX12_undo) (maxL := 1) (ret := (some .boolean)) (by decide) rfl ?_
  intro p e s m args below meth c s₁ B hml hv
  obtain ⟨rfl, hP, hK⟩ := hv
  have C : CX p s m ([.ref (G.2.2 172)] : List Value).toArray meth c cX12_undo 1 (wsU yX12_undo cX12_undo 1 (some .boolean)) RX12 (some .boolean) G := ⟨B.exec, B.bytes, hml, findClass_of_methodNamed B.named, atoms_spec (ws := (wsU yX12_undo cX12_undo 1 (some .boolean))) B.pre, B.returns, B.notSynchronized, hK, hG⟩
  obtain ⟨hx, hb, -, hown, hts, hr, hlocks, -, -⟩ := id C
  have hS : va_S (AW G) s.heap s.heap [] := va_S.rf
  have hl := lv_entry [.ref (G.2.2 172)] (n := 1) (Nat.le_of_ble_eq_true rfl)
  rw [lg_entry_eq]
  generalize (lg_sl [.ref (G.2.2 172)] ++ List.replicate (1 - (lg_sl [.ref (G.2.2 172)]).length) Slot.unset).toArray = ls at hl ⊢
  have hl : lv_has ls 1 [(0, .ref (G.2.2 172))] := hl
  unfold fn_X12_undo at h
  refine lv_aload_n hx hb dX12_undo_0 rfl (lv_at hl 0 rfl) ?_
  refine ge_12_51 hx hb hts (inU inW_X12) hown hK hP k_172 (hts _ (List.mem_cons_of_mem _ lw_1485)) dX12_undo_1 ?_
  refine lv_if_ne (tgt := 9) hx hb dX12_undo_4 (by decide) (fun c1 => ?_) (fun c1 => ?_)
  · rw [if_neg c1] at h
    refine lv_aload_n hx hb dX12_undo_9 rfl (lv_at hl 0 rfl) ?_
    refine lv_dup hx hb dX12_undo_10 rfl ?_
    refine ge_12_51 hx hb hts (inU inW_X12) hown hK hP k_172 (hts _ (List.mem_cons_of_mem _ lw_1485)) dX12_undo_11 ?_
    refine lv_iconst (v := 1) hx hb dX12_undo_14 (by decide) ?_
    refine lv_isub hx hb dX12_undo_15 ?_
    obtain ⟨z2, e_z2, h⟩ := nm_s h
    refine pu_12_51 hx hb hts (inU inW_X12) hown hK hG hP hS k_172 (hts _ (List.mem_cons_of_mem _ lw_1485)) dX12_undo_16 (fun H locs hP hS => ?_)
    rw [← e_z2] at hP
    refine lv_aload_n hx hb dX12_undo_19 rfl (lv_at hl 0 rfl) ?_
    refine lv_dup hx hb dX12_undo_20 rfl ?_
    refine ge_12_52 hx hb hts (inU inW_X12) hown hK hP k_172 (hts _ (List.mem_cons_of_mem _ lw_1486)) dX12_undo_21 ?_
    refine lv_iconst (v := 1) hx hb dX12_undo_24 (by decide) ?_
    refine lv_iadd hx hb dX12_undo_25 ?_
    obtain ⟨z3, e_z3, h⟩ := nm_s h
    refine pu_12_52 hx hb hts (inU inW_X12) hown hK hG hP hS k_172 (hts _ (List.mem_cons_of_mem _ lw_1486)) dX12_undo_26 (fun H locs hP hS => ?_)
    rw [← e_z3] at hP
    refine lv_aload_n hx hb dX12_undo_29 rfl (lv_at hl 0 rfl) ?_
    refine lv_sipush (v := 171) hx hb dX12_undo_30 (by decide) ?_
    refine lv_aload_n hx hb dX12_undo_33 rfl (lv_at hl 0 rfl) ?_
    refine ge_12_51 hx hb hts (inU inW_X12) hown hK hP k_172 (hts _ (List.mem_cons_of_mem _ lw_1485)) dX12_undo_34 ?_
    refine lv_imul hx hb dX12_undo_37 ?_
    obtain ⟨z5, h4, h⟩ := bv_s h
    refine x_Vv (Rz := z5) (As := [.int (171 * (z3.1 172 51))]) (rest := []) ⟨hx, hb, hml, hown, hts⟩ hK hP hS (kd_lt k_172 (by decide)) (cell_12 k_172) rfl (m_X12_turnAbout hG   h4) (cwV 1 hts (gV lw_1921 lw_1923 lw_86 lw_125 lw_1924) rfl rfl rfl (by decide +kernel) (rmd_ok (by decide) (by decide))) rfl hl.1 rfl (Nat.le_of_ble_eq_true rfl) dX12_undo_38 ⟨Nat.le_refl _, Nat.le_refl _⟩ (fun H locs hP hS => ?_)
    refine lv_iconst (v := 1) hx hb dX12_undo_41 (by decide) ?_
    exact x_zret hx hb hr hlocks hK hP hS rfl h dX12_undo_42
  · rw [if_pos c1] at h
    refine lv_iconst (v := 0) hx hb dX12_undo_7 (by decide) ?_
    exact x_zret hx hb hr hlocks hK hP hS rfl h dX12_undo_8
def fn_X12_redo  (z : St) : Option (Int32 × St) := (if (z.1 172 52) = 0 then some (0, z) else bv (fn_X12_turnAbout  (171 * (z.1 172 51)) z) (fun z3 => nm (sI z3 172 51 ((z3.1 172 51) + 1)) (fun z4 => nm (sI z4 172 52 ((z4.1 172 52) - 1)) (fun z5 => some (1, z5)))))
set_option maxHeartbeats 4000000 in
set_option maxRecDepth 100000 in
theorem m_X12_redo {l : Launch} {G : wG} (hG : Ok G)  {z : St} {Rz : Int32 × St}  (h : fn_X12_redo   z = some Rz) : Met l yX12_redo (wsU yX12_redo cX12_redo 1 (some .boolean)) (rmd 2) (va_Pc [.ref (G.2.2 172)] (Pre G z)) (va_Qi (fun r u => (r, u) = Rz) (Pre G) (AW G)) 0 0 (AW G) := by
  refine Met.ofW (cc := cX12_redo) (maxL := 1) (ret := (some .boolean)) (by decide) rfl ?_
  intro p e s m args below meth c s₁ B hml hv
  obtain ⟨rfl, hP, hK⟩ := hv
  have C : CX p s m ([.ref (G.2.2 172)] : List Value).toArray meth c cX12_redo 1 (wsU yX12_redo cX12_redo 1 (some .boolean)) RX12 (some .boolean) G := ⟨B.exec, B.bytes, hml, findClass_of_methodNamed B.named, atoms_spec (ws := (wsU yX12_redo cX12_redo 1 (some .boolean))) B.pre, B.returns, B.notSynchronized, hK, hG⟩
  obtain ⟨hx, hb, -, hown, hts, hr, hlocks, -, -⟩ := id C
  have hS : va_S (AW G) s.heap s.heap [] := va_S.rf
  have hl := lv_entry [.ref (G.2.2 172)] (n := 1) (Nat.le_of_ble_eq_true rfl)
  rw [lg_entry_eq]
  generalize (lg_sl [.ref (G.2.2 172)] ++ List.replicate (1 - (lg_sl [.ref (G.2.2 172)]).length) Slot.unset).toArray = ls at hl ⊢
  have hl : lv_has ls 1 [(0, .ref (G.2.2 172))] := hl
  unfold fn_X12_redo at h
  refine lv_aload_n hx hb dX12_redo_0 rfl (lv_at hl 0 rfl) ?_
  refine ge_12_52 hx hb hts (inU inW_X12) hown hK hP k_172 (hts _ (List.mem_cons_of_mem _ lw_1486)) dX12_redo_1 ?_
  refine lv_if_ne (tgt := 9) hx hb dX12_redo_4 (by decide) (fun c1 => ?_) (fun c1 => ?_)
  · rw [if_neg c1] at h
    refine lv_aload_n hx hb dX12_redo_9 rfl (lv_at hl 0 rfl) ?_
    refine lv_sipush (v := 171) hx hb dX12_redo_10 (by decide) ?_
    refine lv_aload_n hx hb dX12_redo_13 rfl (lv_at hl 0 rfl) ?_
    refine ge_12_51 hx hb hts (inU inW_X12) hown hK hP k_172 (hts _ (List.mem_cons_of_mem _ lw_1485)) dX12_redo_14 ?_
    refine lv_imul hx hb dX12_redo_17 ?_
    obtain ⟨z3, h2, h⟩ := bv_s h
    refine x_Vv (Rz := z3) (As := [.int (171 * (z.1 172 51))]) (rest := []) ⟨hx, hb, hml, hown, hts⟩ hK hP hS (kd_lt k_172 (by decide)) (cell_12 k_172) rfl (m_X12_turnAbout hG   h2) (cwV 1 hts (gV lw_1921 lw_1923 lw_86 lw_125 lw_1924) rfl rfl rfl (by decide +kernel) (rmd_ok (by decide) (by decide))) rfl hl.1 rfl (Nat.le_of_ble_eq_true rfl) dX12_redo_18 ⟨Nat.le_refl _, Nat.le_refl _⟩ (fun H locs hP hS => ?_)
    refine lv_aload_n hx hb dX12_redo_21 rfl (lv_at hl 0 rfl) ?_
    refine lv_dup hx hb dX12_redo_22 rfl ?_
    refine ge_12_51 hx hb hts (inU inW_X12) hown hK hP k_172 (hts _ (List.mem_cons_of_mem _ lw_1485)) dX12_redo_23 ?_
    refine lv_iconst (v := 1) hx hb dX12_redo_26 (by decide) ?_
    refine lv_iadd hx hb dX12_redo_27 ?_
    obtain ⟨z4, e_z4, h⟩ := nm_s h
    refine pu_12_51 hx hb hts (inU inW_X12) hown hK hG hP hS k_172 (hts _ (List.mem_cons_of_mem _ lw_1485)) dX12_redo_28 (fun H locs hP hS => ?_)
    rw [← e_z4] at hP
    refine lv_aload_n hx hb dX12_redo_31 rfl (lv_at hl 0 rfl) ?_
    refine lv_dup hx hb dX12_redo_32 rfl ?_
    refine ge_12_52 hx hb hts (inU inW_X12) hown hK hP k_172 (hts _ (List.mem_cons_of_mem _ lw_1486)) dX12_redo_33 ?_
    refine lv_iconst (v := 1) hx hb dX12_redo_36 (by decide) ?_
    refine lv_isub hx hb dX12_redo_37 ?_
    obtain ⟨z5, e_z5, h⟩ := nm_s h
    refine pu_12_52 hx hb hts (inU inW_X12) hown hK hG hP hS k_172 (hts _ (List.mem_cons_of_mem _ lw_1486)) dX12_redo_38 (fun H locs hP hS => ?_)
    rw [← e_z5] at hP
    refine lv_iconst (v := 1) hx hb dX12_redo_41 (by decide) ?_
    exact x_zret hx hb hr hlocks hK hP hS rfl h dX12_redo_42
  · rw [if_pos c1] at h
    refine lv_iconst (v := 0) hx hb dX12_redo_7 (by decide) ?_
    exact x_zret hx hb hr hlocks hK hP hS rfl h dX12_redo_8
def fn_X12_put_29 (p0 : Nat) (v2 : Int32) (v3 : Int32) (z : St) : Option (St) := gd (ix v3 (ln p0)) (nm (sI z p0 (Int32.toNatClampNeg v3) v2) (fun z2 => some z2))
set_option maxHeartbeats 4000000 in
set_option maxRecDepth 100000 in
theorem pf_X12_put_29 {p : Program} {l : Launch} {e : Env} {s : State} {m : MethodId} {args : Array Value} {below : List Frame} {meth : Method} {c : Code} {G : wG} (C : CX p s m args meth c cX12_put 4 (wsU yX12_put cX12_put 4 none) RX12 none G) {Rz : St} (p0 : Nat) (v2 : Int32) (v3 : Int32) (z : St) (hk0 : kd p0 = 14) {H : Heap} {locs : List Loc} {ls : Array Slot} (hP : WP G z H) (hS : va_S (AW G) s.heap H locs) (hl : lv_has ls 4 [(0, .ref (G.2.2 p0)), (2, .int v2), (3, .int v3)]) (h : fn_X12_put_29   p0 v2 v3 z = some Rz) : W p l e (rmd 1) s m args below meth c H locs 0 0 (QV below args s G Rz) (F0 m 29 ls []) := by
  obtain ⟨hx, hb, hml, hown, hts, hr, hlocks, hK, hG⟩ := id C
  unfold fn_X12_put_29 at h
  refine lv_aload_n hx hb dX12_put_29 rfl (lv_at hl 0 rfl) ?_
  refine lv_iload_n hx hb dX12_put_30 rfl (lv_at hl 2 rfl) ?_
  refine lv_iload_n hx hb dX12_put_31 rfl (lv_at hl 1 rfl) ?_
  obtain ⟨g1, h⟩ := gd_s h
  obtain ⟨z2, e_z2, h⟩ := nm_s h
  refine xs_14 hx hb hK hG hP hS hk0 rfl (ix_in g1) dX12_put_32 (fun H locs hP hS => ?_)
  rw [← e_z2] at hP
  exact x_vret hx hb hr hlocks hK hP hS h dX12_put_33
def fn_X12_put_2 : Nat → Nat → Int32 → Int32 → St → Option (St)
  | 0, _, _, _, _ => none
  | n + 1, p0, v2, v3, z => (if v3 ≤ 0 then fn_X12_put_29   p0 v2 v3 z else gd (ix (v3 - 1) (ln p0)) ((if (z.1 p0 (Int32.toNatClampNeg (v3 - 1))) ≤ v2 then fn_X12_put_29   p0 v2 v3 z else gd (ix (v3 - 1) (ln p0)) (gd (ix v3 (ln p0)) (nm (sI z p0 (Int32.toNatClampNeg v3) (z.1 p0 (Int32.toNatClampNeg (v3 - 1)))) (fun z6 => fn_X12_put_2   n p0 v2 (v3 + (-1)) z6))))))
set_option maxHeartbeats 4000000 in
set_option maxRecDepth 100000 in
theorem pf_X12_put_2 {p : Program} {l : Launch} {e : Env} {s : State} {m : MethodId} {args : Array Value} {below : List Frame} {meth : Method} {c : Code} {G : wG} (C : CX p s m args meth c cX12_put 4 (wsU yX12_put cX12_put 4 none) RX12 none G) {Rz : St} : ∀ (n : Nat) (p0 : Nat) (v2 : Int32) (v3 : Int32) (z : St) (hk0 : kd p0 = 14) (H : Heap) (locs : List Loc) (ls : Array Slot), WP G z H → va_S (AW G) s.heap H locs → lv_has ls 4 [(0, .ref (G.2.2 p0)), (2, .int v2), (3, .int v3)] → fn_X12_put_2   n p0 v2 v3 z = some Rz → W p l e (rmd 1) s m args below meth c H locs 0 0 (QV below args s G Rz) (F0 m 2 ls []) := by
  obtain ⟨hx, hb, hml, hown, hts, hr, hlocks, hK, hG⟩ := id C
  intro n
  induction n with
  | zero => intro p0 v2 v3 z hk0 H locs ls hP hS hl h; cases h
  | succ n ih =>
    intro p0 v2 v3 z hk0 H locs ls hP hS hl h
    rw [fn_X12_put_2] at h
    refine lv_iload_n hx hb dX12_put_2 rfl (lv_at hl 2 rfl) ?_
    refine lv_if_le (tgt := 29) hx hb dX12_put_3 (by decide) (fun c1 => ?_) (fun c1 => ?_)
    · rw [if_pos c1] at h
      exact pf_X12_put_29 C   p0 v2 v3 z hk0 hP hS (lv_sub hl [0, 1, 2] rfl) h
    · rw [if_neg c1] at h
      refine lv_aload_n hx hb dX12_put_6 rfl (lv_at hl 0 rfl) ?_
      refine lv_iload_n hx hb dX12_put_7 rfl (lv_at hl 2 rfl) ?_
      refine lv_iconst (v := 1) hx hb dX12_put_8 (by decide) ?_
      refine lv_isub hx hb dX12_put_9 ?_
      obtain ⟨g2, h⟩ := gd_s h
      refine xl_14 hx hb hK hP hk0 rfl (ix_in g2) dX12_put_10 ?_
      refine lv_iload_n hx hb dX12_put_11 rfl (lv_at hl 1 rfl) ?_
      refine lv_icmp_le (tgt := 29) hx hb dX12_put_12 (by decide) (fun c3 => ?_) (fun c3 => ?_)
      · rw [if_pos c3] at h
        exact pf_X12_put_29 C   p0 v2 v3 z hk0 hP hS (lv_sub hl [0, 1, 2] rfl) h
      · rw [if_neg c3] at h
        refine lv_aload_n hx hb dX12_put_15 rfl (lv_at hl 0 rfl) ?_
        refine lv_iload_n hx hb dX12_put_16 rfl (lv_at hl 2 rfl) ?_
        refine lv_aload_n hx hb dX12_put_17 rfl (lv_at hl 0 rfl) ?_
        refine lv_iload_n hx hb dX12_put_18 rfl (lv_at hl 2 rfl) ?_
        refine lv_iconst (v := 1) hx hb dX12_put_19 (by decide) ?_
        refine lv_isub hx hb dX12_put_20 ?_
        obtain ⟨g4, h⟩ := gd_s h
        refine xl_14 hx hb hK hP hk0 rfl (ix_in g4) dX12_put_21 ?_
        obtain ⟨g5, h⟩ := gd_s h
        obtain ⟨z6, e_z6, h⟩ := nm_s h
        refine xs_14 hx hb hK hG hP hS hk0 rfl (ix_in g5) dX12_put_22 (fun H locs hP hS => ?_)
        rw [← e_z6] at hP
        refine lv_iinc (v := (v3 + (-1))) (lv' := [(3, .int (v3 + (-1))), (0, .ref (G.2.2 p0)), (2, .int v2)]) hx hb dX12_put_23 hl (k := 2) rfl rfl (by decide) rfl (fun ls hl => ?_)
        refine lv_goto (tgt := 2) hx hb dX12_put_26 (by decide) ?_
        exact ih p0 v2 (v3 + (-1)) z6 hk0 _ _ _ hP hS (lv_sub hl [1, 2, 0] rfl) h
def fn_X12_put (p0 : Nat) (v1 : Int32) (v2 : Int32) (z : St) : Option (St) := fn_X12_put_2   fu p0 v2 v1 z
set_option maxHeartbeats 4000000 in
set_option maxRecDepth 100000 in
theorem m_X12_put {l : Launch} {G : wG} (hG : Ok G) {p0 : Nat} {v1 : Int32} {v2 : Int32} {z : St} {Rz : St} (hk0 : kd p0 = 14) (h : fn_X12_put  p0 v1 v2 z = some Rz) : Met l yX12_put (wsU yX12_put cX12_put 4 none) (rmd 1) (va_Pc [.ref (G.2.2 p0), .int v1, .int v2] (Pre G z)) (va_Qv (fun u => u = Rz) (Pre G) (AW G)) 0 0 (AW G) := by
  refine Met.ofW (cc := cX12_put) (maxL := 4) (ret := none) (by decide) rfl ?_
  intro p e s m args below meth c s₁ B hml hv
  obtain ⟨rfl, hP, hK⟩ := hv
  have C : CX p s m ([.ref (G.2.2 p0), .int v1, .int v2] : List Value).toArray meth c cX12_put 4 (wsU yX12_put cX12_put 4 none) RX12 none G := ⟨B.exec, B.bytes, hml, findClass_of_methodNamed B.named, atoms_spec (ws := (wsU yX12_put cX12_put 4 none)) B.pre, B.returns, B.notSynchronized, hK, hG⟩
  obtain ⟨hx, hb, -, hown, hts, hr, hlocks, -, -⟩ := id C
  have hS : va_S (AW G) s.heap s.heap [] := va_S.rf
  have hl := lv_entry [.ref (G.2.2 p0), .int v1, .int v2] (n := 4) (Nat.le_of_ble_eq_true rfl)
  rw [lg_entry_eq]
  generalize (lg_sl [.ref (G.2.2 p0), .int v1, .int v2] ++ List.replicate (4 - (lg_sl [.ref (G.2.2 p0), .int v1, .int v2]).length) Slot.unset).toArray = ls at hl ⊢
  have hl : lv_has ls 4 [(0, .ref (G.2.2 p0)), (1, .int v1), (2, .int v2)] := hl
  unfold fn_X12_put at h
  refine lv_iload_n hx hb dX12_put_0 rfl (lv_at hl 1 rfl) ?_
  refine lv_istore_n (lv' := [(3, .int v1), (0, .ref (G.2.2 p0)), (1, .int v1), (2, .int v2)]) hx hb dX12_put_1 rfl hl (by decide) rfl (fun ls hl => ?_)
  exact pf_X12_put_2 C   fu p0 v2 v1 z hk0 _ _ _ hP hS (lv_sub hl [1, 3, 0] rfl) h
def fn_X12_servedBut_86 (k12 : Int32 → Int32 → Int32 → St → Option (Int32 × St)) (v1 : Int32) (v2 : Int32) (v3 : Int32) (z : St) : Option (Int32 × St) := k12 v1 v2 (v3 + 1) z
set_option maxHeartbeats 4000000 in
set_option maxRecDepth 100000 in
theorem pf_X12_servedBut_86 {p : Program} {l : Launch} {e : Env} {s : State} {m : MethodId} {args : Array Value} {below : List Frame} {meth : Method} {c : Code} {G : wG} (C : CX p s m args meth c cX12_servedBut 5 (wsU yX12_servedBut cX12_servedBut 5 (some .int)) RX12 (some .int) G) {Rz : Int32 × St} {k12 : Int32 → Int32 → Int32 → St → Option (Int32 × St)} (hk_12 : ∀ (v1 : Int32) (v2 : Int32) (v3 : Int32) (z : St)  (H : Heap) (locs : List Loc) (ls : Array Slot), WP G z H → va_S (AW G) s.heap H locs → lv_has ls 5 [(0, .ref (G.2.2 172)), (1, .int v1), (2, .int v2), (3, .int v3)] → k12 v1 v2 v3 z = some Rz → W p l e (rmd 2) s m args below meth c H locs 0 0 (QI below args s G Rz) (F0 m 12 ls [])) (v1 : Int32) (v2 : Int32) (v3 : Int32) (z : St)  {H : Heap} {locs : List Loc} {ls : Array Slot} (hP : WP G z H) (hS : va_S (AW G) s.heap H locs) (hl : lv_has ls 5 [(0, .ref (G.2.2 172)), (1, .int v1), (2, .int v2), (3, .int v3)]) (h : fn_X12_servedBut_86  k12 v1 v2 v3 z = some Rz) : W p l e (rmd 2) s m args below meth c H locs 0 0 (QI below args s G Rz) (F0 m 86 ls []) := by
  obtain ⟨hx, hb, hml, hown, hts, hr, hlocks, hK, hG⟩ := id C
  unfold fn_X12_servedBut_86 at h
  refine lv_iinc (v := (v3 + 1)) (lv' := [(3, .int (v3 + 1)), (0, .ref (G.2.2 172)), (1, .int v1), (2, .int v2)]) hx hb dX12_servedBut_86 hl (k := 3) rfl rfl (by decide) rfl (fun ls hl => ?_)
  refine lv_goto (tgt := 12) hx hb dX12_servedBut_89 (by decide) ?_
  exact hk_12 v1 v2 (v3 + 1) z  _ _ _ hP hS (lv_sub hl [1, 2, 3, 0] rfl) h
def fn_X12_servedBut_73 (k12 : Int32 → Int32 → Int32 → St → Option (Int32 × St)) (v1 : Int32) (v2 : Int32) (v3 : Int32) (tv1 : Int32) (tv2 : Int32) (z : St) : Option (Int32 × St) := bv (fn_X12_put  200 tv1 tv2 z) (fun z2 => nm (sI z2 172 55 ((z2.1 172 55) + 1)) (fun z3 => fn_X12_servedBut_86  k12 v1 v2 v3 z3))
set_option maxHeartbeats 4000000 in
set_option maxRecDepth 100000 in
theorem pf_X12_servedBut_73 {p : Program} {l : Launch} {e : Env} {s : State} {m : MethodId} {args : Array Value} {below : List Frame} {meth : Method} {c : Code} {G : wG} (C : CX p s m args meth c cX12_servedBut 5 (wsU yX12_servedBut cX12_servedBut 5 (some .int)) RX12 (some .int) G) {Rz : Int32 × St} {k12 : Int32 → Int32 → Int32 → St → Option (Int32 × St)} (hk_12 : ∀ (v1 : Int32) (v2 : Int32) (v3 : Int32) (z : St)  (H : Heap) (locs : List Loc) (ls : Array Slot), WP G z H → va_S (AW G) s.heap H locs → lv_has ls 5 [(0, .ref (G.2.2 172)), (1, .int v1), (2, .int v2), (3, .int v3)] → k12 v1 v2 v3 z = some Rz → W p l e (rmd 2) s m args below meth c H locs 0 0 (QI below args s G Rz) (F0 m 12 ls [])) (v1 : Int32) (v2 : Int32) (v3 : Int32) (tv1 : Int32) (tv2 : Int32) (z : St)  {H : Heap} {locs : List Loc} {ls : Array Slot} (hP : WP G z H) (hS : va_S (AW G) s.heap H locs) (hl : lv_has ls 5 [(0, .ref (G.2.2 172)), (1, .int v1), (2, .int v2), (3, .int v3)]) (h : fn_X12_servedBut_73  k12 v1 v2 v3 tv1 tv2 z = some Rz) : W p l e (rmd 2) s m args below meth c H locs 0 0 (QI below args s G Rz) (F0 m 73 ls [.int tv2, .int tv1, .ref (G.2.2 200)]) := by
  obtain ⟨hx, hb, hml, hown, hts, hr, hlocks, hK, hG⟩ := id C
  unfold fn_X12_servedBut_73 at h
  obtain ⟨z2, h1, h⟩ := bv_s h
  refine x_Sv (Rz := z2) (As := [.ref (G.2.2 200), .int tv1, .int tv2]) (rest := []) ⟨hx, hb, hml, hown, hts⟩ hK hP hS (m_X12_put hG  k_200 h1) (va_cwS 3 hts (gS lw_1941 lw_1942 lw_125 lw_1943) rfl rfl rfl (by decide +kernel) (rmd_ok (by decide) (by decide))) rfl hl.1 rfl (Nat.le_of_ble_eq_true rfl) dX12_servedBut_73 ⟨Nat.le_refl _, Nat.le_refl _⟩ (fun H locs hP hS => ?_)
  refine lv_aload_n hx hb dX12_servedBut_76 rfl (lv_at hl 0 rfl) ?_
  refine lv_dup hx hb dX12_servedBut_77 rfl ?_
  refine ge_12_55 hx hb hts (inU inW_X12) hown hK hP k_172 (hts _ (List.mem_cons_of_mem _ lw_1489)) dX12_servedBut_78 ?_
  refine lv_iconst (v := 1) hx hb dX12_servedBut_81 (by decide) ?_
  refine lv_iadd hx hb dX12_servedBut_82 ?_
  obtain ⟨z3, e_z3, h⟩ := nm_s h
  refine pu_12_55 hx hb hts (inU inW_X12) hown hK hG hP hS k_172 (hts _ (List.mem_cons_of_mem _ lw_1489)) dX12_servedBut_83 (fun H locs hP hS => ?_)
  rw [← e_z3] at hP
  exact pf_X12_servedBut_86 C  hk_12 v1 v2 v3 z3  hP hS (lv_sub hl [0, 1, 2, 3] rfl) h
def fn_X12_servedBut_148 (k94 : Int32 → Int32 → St → Option (Int32 × St)) (v2 : Int32) (v3 : Int32) (z : St) : Option (Int32 × St) := k94 v2 (v3 + 1) z
set_option maxHeartbeats 4000000 in
set_option maxRecDepth 100000 in
theorem pf_X12_servedBut_148 {p : Program} {l : Launch} {e : Env} {s : State} {m : MethodId} {args : Array Value} {below : List Frame} {meth : Method} {c : Code} {G : wG} (C : CX p s m args meth c cX12_servedBut 5 (wsU yX12_servedBut cX12_servedBut 5 (some .int)) RX12 (some .int) G) {Rz : Int32 × St} {k94 : Int32 → Int32 → St → Option (Int32 × St)} (hk_94 : ∀ (v2 : Int32) (v3 : Int32) (z : St)  (H : Heap) (locs : List Loc) (ls : Array Slot), WP G z H → va_S (AW G) s.heap H locs → lv_has ls 5 [(0, .ref (G.2.2 172)), (2, .int v2), (3, .int v3)] → k94 v2 v3 z = some Rz → W p l e (rmd 2) s m args below meth c H locs 0 0 (QI below args s G Rz) (F0 m 94 ls [])) (v2 : Int32) (v3 : Int32) (z : St)  {H : Heap} {locs : List Loc} {ls : Array Slot} (hP : WP G z H) (hS : va_S (AW G) s.heap H locs) (hl : lv_has ls 5 [(0, .ref (G.2.2 172)), (2, .int v2), (3, .int v3)]) (h : fn_X12_servedBut_148  k94 v2 v3 z = some Rz) : W p l e (rmd 2) s m args below meth c H locs 0 0 (QI below args s G Rz) (F0 m 148 ls []) := by
  obtain ⟨hx, hb, hml, hown, hts, hr, hlocks, hK, hG⟩ := id C
  unfold fn_X12_servedBut_148 at h
  refine lv_iinc (v := (v3 + 1)) (lv' := [(3, .int (v3 + 1)), (0, .ref (G.2.2 172)), (2, .int v2)]) hx hb dX12_servedBut_148 hl (k := 2) rfl rfl (by decide) rfl (fun ls hl => ?_)
  refine lv_goto (tgt := 94) hx hb dX12_servedBut_151 (by decide) ?_
  exact hk_94 v2 (v3 + 1) z  _ _ _ hP hS (lv_sub hl [1, 2, 0] rfl) h
def fn_X12_servedBut_195 (k159 : Int32 → Int32 → St → Option (Int32 × St)) (v3 : Int32) (v4 : Int32) (z : St) : Option (Int32 × St) := k159 v3 (v4 + 1) z
set_option maxHeartbeats 4000000 in
set_option maxRecDepth 100000 in
theorem pf_X12_servedBut_195 {p : Program} {l : Launch} {e : Env} {s : State} {m : MethodId} {args : Array Value} {below : List Frame} {meth : Method} {c : Code} {G : wG} (C : CX p s m args meth c cX12_servedBut 5 (wsU yX12_servedBut cX12_servedBut 5 (some .int)) RX12 (some .int) G) {Rz : Int32 × St} {k159 : Int32 → Int32 → St → Option (Int32 × St)} (hk_159 : ∀ (v3 : Int32) (v4 : Int32) (z : St)  (H : Heap) (locs : List Loc) (ls : Array Slot), WP G z H → va_S (AW G) s.heap H locs → lv_has ls 5 [(0, .ref (G.2.2 172)), (3, .int v3), (4, .int v4)] → k159 v3 v4 z = some Rz → W p l e (rmd 2) s m args below meth c H locs 0 0 (QI below args s G Rz) (F0 m 159 ls [])) (v3 : Int32) (v4 : Int32) (z : St)  {H : Heap} {locs : List Loc} {ls : Array Slot} (hP : WP G z H) (hS : va_S (AW G) s.heap H locs) (hl : lv_has ls 5 [(0, .ref (G.2.2 172)), (3, .int v3), (4, .int v4)]) (h : fn_X12_servedBut_195  k159 v3 v4 z = some Rz) : W p l e (rmd 2) s m args below meth c H locs 0 0 (QI below args s G Rz) (F0 m 195 ls []) := by
  obtain ⟨hx, hb, hml, hown, hts, hr, hlocks, hK, hG⟩ := id C
  unfold fn_X12_servedBut_195 at h
  refine lv_iinc (v := (v4 + 1)) (lv' := [(4, .int (v4 + 1)), (0, .ref (G.2.2 172)), (3, .int v3)]) hx hb dX12_servedBut_195 hl (k := 2) rfl rfl (by decide) rfl (fun ls hl => ?_)
  refine lv_goto (tgt := 159) hx hb dX12_servedBut_198 (by decide) ?_
  exact hk_159 v3 (v4 + 1) z  _ _ _ hP hS (lv_sub hl [1, 2, 0] rfl) h
def fn_X12_servedBut_159 : Nat → Int32 → Int32 → St → Option (Int32 × St)
  | 0, _, _, _ => none
  | n + 1, v3, v4, z => (if (z.1 172 56) ≤ v4 then some (v3, z) else (if (z.1 172 55) ≤ v3 then some (v3, z) else gd (ix v4 25) (gd (ix v3 6) ((if (z.1 201 (Int32.toNatClampNeg v4)) < (z.1 200 (Int32.toNatClampNeg v3)) then fn_X12_servedBut_195  (fn_X12_servedBut_159   n) v3 v4 z else fn_X12_servedBut_195  (fn_X12_servedBut_159   n) (v3 + 1) v4 z)))))
set_option maxHeartbeats 4000000 in
set_option maxRecDepth 100000 in
theorem pf_X12_servedBut_159 {p : Program} {l : Launch} {e : Env} {s : State} {m : MethodId} {args : Array Value} {below : List Frame} {meth : Method} {c : Code} {G : wG} (C : CX p s m args meth c cX12_servedBut 5 (wsU yX12_servedBut cX12_servedBut 5 (some .int)) RX12 (some .int) G) {Rz : Int32 × St} : ∀ (n : Nat) (v3 : Int32) (v4 : Int32) (z : St)  (H : Heap) (locs : List Loc) (ls : Array Slot), WP G z H → va_S (AW G) s.heap H locs → lv_has ls 5 [(0, .ref (G.2.2 172)), (3, .int v3), (4, .int v4)] → fn_X12_servedBut_159   n v3 v4 z = some Rz → W p l e (rmd 2) s m args below meth c H locs 0 0 (QI below args s G Rz) (F0 m 159 ls []) := by
  obtain ⟨hx, hb, hml, hown, hts, hr, hlocks, hK, hG⟩ := id C
  intro n
  induction n with
  | zero => intro v3 v4 z  H locs ls hP hS hl h; cases h
  | succ n ih =>
    intro v3 v4 z  H locs ls hP hS hl h
    rw [fn_X12_servedBut_159] at h
    refine lv_iload hx hb dX12_servedBut_159 (lv_at hl 2 rfl) ?_
    refine lv_aload_n hx hb dX12_servedBut_161 rfl (lv_at hl 0 rfl) ?_
    refine ge_12_56 hx hb hts (inU inW_X12) hown hK hP k_172 (hts _ (List.mem_cons_of_mem _ lw_1490)) dX12_servedBut_162 ?_
    refine lv_icmp_ge (tgt := 201) hx hb dX12_servedBut_165 (by decide) (fun c1 => ?_) (fun c1 => ?_)
    · rw [if_pos c1] at h
      refine lv_iload_n hx hb dX12_servedBut_201 rfl (lv_at hl 1 rfl) ?_
      exact x_iret hx hb hr hlocks hK hP hS h dX12_servedBut_202
    · rw [if_neg c1] at h
      refine lv_iload_n hx hb dX12_servedBut_168 rfl (lv_at hl 1 rfl) ?_
      refine lv_aload_n hx hb dX12_servedBut_169 rfl (lv_at hl 0 rfl) ?_
      refine ge_12_55 hx hb hts (inU inW_X12) hown hK hP k_172 (hts _ (List.mem_cons_of_mem _ lw_1489)) dX12_servedBut_170 ?_
      refine lv_icmp_ge (tgt := 201) hx hb dX12_servedBut_173 (by decide) (fun c2 => ?_) (fun c2 => ?_)
      · rw [if_pos c2] at h
        refine lv_iload_n hx hb dX12_servedBut_201 rfl (lv_at hl 1 rfl) ?_
        exact x_iret hx hb hr hlocks hK hP hS h dX12_servedBut_202
      · rw [if_neg c2] at h
        refine lv_aload_n hx hb dX12_servedBut_176 rfl (lv_at hl 0 rfl) ?_
        refine ge_12_54 hx hb hts (inU inW_X12) hown hK hP k_172 (hts _ (List.mem_cons_of_mem _ lw_1488)) dX12_servedBut_177 ?_
        refine lv_iload hx hb dX12_servedBut_180 (lv_at hl 2 rfl) ?_
        obtain ⟨g3, h⟩ := gd_s h
        refine xl_14 hx hb hK hP k_201 l_201 (ix_in g3) dX12_servedBut_182 ?_
        refine lv_aload_n hx hb dX12_servedBut_183 rfl (lv_at hl 0 rfl) ?_
        refine ge_12_53 hx hb hts (inU inW_X12) hown hK hP k_172 (hts _ (List.mem_cons_of_mem _ lw_1487)) dX12_servedBut_184 ?_
        refine lv_iload_n hx hb dX12_servedBut_187 rfl (lv_at hl 1 rfl) ?_
        obtain ⟨g4, h⟩ := gd_s h
        refine xl_14 hx hb hK hP k_200 l_200 (ix_in g4) dX12_servedBut_188 ?_
        refine lv_icmp_lt (tgt := 195) hx hb dX12_servedBut_189 (by decide) (fun c5 => ?_) (fun c5 => ?_)
        · rw [if_pos c5] at h
          exact pf_X12_servedBut_195 C  ih v3 v4 z  hP hS (lv_sub hl [0, 1, 2] rfl) h
        · rw [if_neg c5] at h
          refine lv_iinc (v := (v3 + 1)) (lv' := [(3, .int (v3 + 1)), (0, .ref (G.2.2 172)), (4, .int v4)]) hx hb dX12_servedBut_192 hl (k := 1) rfl rfl (by decide) rfl (fun ls hl => ?_)
          exact pf_X12_servedBut_195 C  ih (v3 + 1) v4 z  hP hS (lv_sub hl [1, 0, 2] rfl) h
def fn_X12_servedBut_94 : Nat → Int32 → Int32 → St → Option (Int32 × St)
  | 0, _, _, _ => none
  | n + 1, v2, v3, z => (if (z.1 198 (Int32.toNatClampNeg 168)) ≤ v3 then fn_X12_servedBut_159   fu 0 0 z else (if v3 = v2 then fn_X12_servedBut_148  (fn_X12_servedBut_94   n) v2 v3 z else bd (fn_X12_isFree  v3 z) (fun r4 z5 => (if r4 = 0 then fn_X12_servedBut_148  (fn_X12_servedBut_94   n) v2 v3 z5 else bd (fn_X12_areaOf  v3 z5) (fun r8 z9 => bv (fn_X12_put  201 (z5.1 172 56) r8 z9) (fun z11 => nm (sI z11 172 56 ((z11.1 172 56) + 1)) (fun z12 => fn_X12_servedBut_148  (fn_X12_servedBut_94   n) v2 v3 z12)))))))
set_option maxHeartbeats 4000000 in
set_option maxRecDepth 100000 in
theorem pf_X12_servedBut_94 {p : Program} {l : Launch} {e : Env} {s : State} {m : MethodId} {args : Array Value} {below : List Frame} {meth : Method} {c : Code} {G : wG} (C : CX p s m args meth c cX12_servedBut 5 (wsU yX12_servedBut cX12_servedBut 5 (some .int)) RX12 (some .int) G) {Rz : Int32 × St} : ∀ (n : Nat) (v2 : Int32) (v3 : Int32) (z : St)  (H : Heap) (locs : List Loc) (ls : Array Slot), WP G z H → va_S (AW G) s.heap H locs → lv_has ls 5 [(0, .ref (G.2.2 172)), (2, .int v2), (3, .int v3)] → fn_X12_servedBut_94   n v2 v3 z = some Rz → W p l e (rmd 2) s m args below meth c H locs 0 0 (QI below args s G Rz) (F0 m 94 ls []) := by
  obtain ⟨hx, hb, hml, hown, hts, hr, hlocks, hK, hG⟩ := id C
  intro n
  induction n with
  | zero => intro v2 v3 z  H locs ls hP hS hl h; cases h
  | succ n ih =>
    intro v2 v3 z  H locs ls hP hS hl h
    rw [fn_X12_servedBut_94] at h
    refine lv_iload_n hx hb dX12_servedBut_94 rfl (lv_at hl 2 rfl) ?_
    refine lv_aload_n hx hb dX12_servedBut_95 rfl (lv_at hl 0 rfl) ?_
    refine ge_12_49 hx hb hts (inU inW_X12) hown hK hP k_172 (hts _ (List.mem_cons_of_mem _ lw_1483)) dX12_servedBut_96 ?_
    refine lv_sipush (v := 168) hx hb dX12_servedBut_99 (by decide) ?_
    refine xl_14 hx hb hK hP k_198 l_198 (ix_in (by decide)) dX12_servedBut_102 ?_
    refine lv_icmp_ge (tgt := 154) hx hb dX12_servedBut_103 (by decide) (fun c1 => ?_) (fun c1 => ?_)
    · rw [if_pos c1] at h
      refine lv_iconst (v := 0) hx hb dX12_servedBut_154 (by decide) ?_
      refine lv_istore_n (lv' := [(3, .int 0), (0, .ref (G.2.2 172)), (2, .int v2)]) hx hb dX12_servedBut_155 rfl hl (by decide) rfl (fun ls hl => ?_)
      refine lv_iconst (v := 0) hx hb dX12_servedBut_156 (by decide) ?_
      refine lv_istore (lv' := [(4, .int 0), (3, .int 0), (0, .ref (G.2.2 172)), (2, .int v2)]) hx hb dX12_servedBut_157 hl (by decide) rfl (fun ls hl => ?_)
      exact pf_X12_servedBut_159 C   fu 0 0 z  _ _ _ hP hS (lv_sub hl [2, 1, 0] rfl) h
    · rw [if_neg c1] at h
      refine lv_iload_n hx hb dX12_servedBut_106 rfl (lv_at hl 2 rfl) ?_
      refine lv_iload_n hx hb dX12_servedBut_107 rfl (lv_at hl 1 rfl) ?_
      refine lv_icmp_eq (tgt := 148) hx hb dX12_servedBut_108 (by decide) (fun c2 => ?_) (fun c2 => ?_)
      · rw [if_pos c2] at h
        exact pf_X12_servedBut_148 C  ih v2 v3 z  hP hS (lv_sub hl [0, 1, 2] rfl) h
      · rw [if_neg c2] at h
        refine lv_aload_n hx hb dX12_servedBut_111 rfl (lv_at hl 0 rfl) ?_
        refine lv_iload_n hx hb dX12_servedBut_112 rfl (lv_at hl 2 rfl) ?_
        obtain ⟨r4, z5, h3, h⟩ := bd_s h
        refine x_Vi (Rz := (r4, z5)) (As := [.int v3]) (rest := []) ⟨hx, hb, hml, hown, hts⟩ hK hP hS (kd_lt k_172 (by decide)) (cell_12 k_172) rfl (m_X12_isFree hG   h3) (cwV 1 hts (gV lw_1885 lw_1887 lw_82 lw_125 lw_1888) rfl rfl rfl (by decide +kernel) (rmd_ok (by decide) (by decide))) rfl hl.1 rfl (Nat.le_of_ble_eq_true rfl) dX12_servedBut_113 ⟨Nat.le_refl _, Nat.le_refl _⟩ (fun H locs hP hS => ?_)
        refine lv_if_ne (tgt := 122) hx hb dX12_servedBut_116 (by decide) (fun c6 => ?_) (fun c6 => ?_)
        · rw [if_neg c6] at h
          refine lv_aload_n hx hb dX12_servedBut_122 rfl (lv_at hl 0 rfl) ?_
          refine ge_12_54 hx hb hts (inU inW_X12) hown hK hP k_172 (hts _ (List.mem_cons_of_mem _ lw_1488)) dX12_servedBut_123 ?_
          refine lv_aload_n hx hb dX12_servedBut_126 rfl (lv_at hl 0 rfl) ?_
          refine ge_12_56 hx hb hts (inU inW_X12) hown hK hP k_172 (hts _ (List.mem_cons_of_mem _ lw_1490)) dX12_servedBut_127 ?_
          refine lv_aload_n hx hb dX12_servedBut_130 rfl (lv_at hl 0 rfl) ?_
          refine lv_iload_n hx hb dX12_servedBut_131 rfl (lv_at hl 2 rfl) ?_
          obtain ⟨r8, z9, h7, h⟩ := bd_s h
          refine x_Vi (Rz := (r8, z9)) (As := [.int v3]) (rest := [.int (z5.1 172 56), .ref (G.2.2 201)]) ⟨hx, hb, hml, hown, hts⟩ hK hP hS (kd_lt k_172 (by decide)) (cell_12 k_172) rfl (m_X12_areaOf hG   h7) (cwV 1 hts (gV lw_1834 lw_1836 lw_74 lw_125 lw_1837) rfl rfl rfl (by decide +kernel) (rmd_ok (by decide) (by decide))) rfl hl.1 rfl (Nat.le_of_ble_eq_true rfl) dX12_servedBut_132 ⟨Nat.le_refl _, Nat.le_refl _⟩ (fun H locs hP hS => ?_)
          obtain ⟨z11, h10, h⟩ := bv_s h
          refine x_Sv (Rz := z11) (As := [.ref (G.2.2 201), .int (z5.1 172 56), .int r8]) (rest := []) ⟨hx, hb, hml, hown, hts⟩ hK hP hS (m_X12_put hG  k_201 h10) (va_cwS 3 hts (gS lw_1941 lw_1942 lw_125 lw_1943) rfl rfl rfl (by decide +kernel) (rmd_ok (by decide) (by decide))) rfl hl.1 rfl (Nat.le_of_ble_eq_true rfl) dX12_servedBut_135 ⟨Nat.le_refl _, Nat.le_refl _⟩ (fun H locs hP hS => ?_)
          refine lv_aload_n hx hb dX12_servedBut_138 rfl (lv_at hl 0 rfl) ?_
          refine lv_dup hx hb dX12_servedBut_139 rfl ?_
          refine ge_12_56 hx hb hts (inU inW_X12) hown hK hP k_172 (hts _ (List.mem_cons_of_mem _ lw_1490)) dX12_servedBut_140 ?_
          refine lv_iconst (v := 1) hx hb dX12_servedBut_143 (by decide) ?_
          refine lv_iadd hx hb dX12_servedBut_144 ?_
          obtain ⟨z12, e_z12, h⟩ := nm_s h
          refine pu_12_56 hx hb hts (inU inW_X12) hown hK hG hP hS k_172 (hts _ (List.mem_cons_of_mem _ lw_1490)) dX12_servedBut_145 (fun H locs hP hS => ?_)
          rw [← e_z12] at hP
          exact pf_X12_servedBut_148 C  ih v2 v3 z12  hP hS (lv_sub hl [0, 1, 2] rfl) h
        · rw [if_pos c6] at h
          refine lv_goto (tgt := 148) hx hb dX12_servedBut_119 (by decide) ?_
          exact pf_X12_servedBut_148 C  ih v2 v3 z5  hP hS (lv_sub hl [0, 1, 2] rfl) h
def fn_X12_servedBut_12 : Nat → Int32 → Int32 → Int32 → St → Option (Int32 × St)
  | 0, _, _, _, _ => none
  | n + 1, v1, v2, v3, z => (if (z.1 172 44) ≤ v3 then fn_X12_servedBut_94   fu v2 0 z else (if v3 = v1 then fn_X12_servedBut_86  (fn_X12_servedBut_12   n) v1 v2 v3 z else bd (fn_X12_pieceOf  v3 z) (fun r4 z5 => (if r4 < 0 then gd (ix v3 6) ((if 0 ≤ ((z5.1 194 (Int32.toNatClampNeg v3)) + (z5.1 172 57)) then gd (ix v3 6) (fn_X12_servedBut_73  (fn_X12_servedBut_12   n) v1 v2 v3 (z5.1 172 55) ((z5.1 194 (Int32.toNatClampNeg v3)) + (z5.1 172 57)) z5) else fn_X12_servedBut_73  (fn_X12_servedBut_12   n) v1 v2 v3 (z5.1 172 55) 0 z5)) else fn_X12_servedBut_86  (fn_X12_servedBut_12   n) v1 v2 v3 z5))))
set_option maxHeartbeats 4000000 in
set_option maxRecDepth 100000 in
theorem pf_X12_servedBut_12 {p : Program} {l : Launch} {e : Env} {s : State} {m : MethodId} {args : Array Value} {below : List Frame} {meth : Method} {c : Code} {G : wG} (C : CX p s m args meth c cX12_servedBut 5 (wsU yX12_servedBut cX12_servedBut 5 (some .int)) RX12 (some .int) G) {Rz : Int32 × St} : ∀ (n : Nat) (v1 : Int32) (v2 : Int32) (v3 : Int32) (z : St)  (H : Heap) (locs : List Loc) (ls : Array Slot), WP G z H → va_S (AW G) s.heap H locs → lv_has ls 5 [(0, .ref (G.2.2 172)), (1, .int v1), (2, .int v2), (3, .int v3)] → fn_X12_servedBut_12   n v1 v2 v3 z = some Rz → W p l e (rmd 2) s m args below meth c H locs 0 0 (QI below args s G Rz) (F0 m 12 ls []) := by
  obtain ⟨hx, hb, hml, hown, hts, hr, hlocks, hK, hG⟩ := id C
  intro n
  induction n with
  | zero => intro v1 v2 v3 z  H locs ls hP hS hl h; cases h
  | succ n ih =>
    intro v1 v2 v3 z  H locs ls hP hS hl h
    rw [fn_X12_servedBut_12] at h
    refine lv_iload_n hx hb dX12_servedBut_12 rfl (lv_at hl 3 rfl) ?_
    refine lv_aload_n hx hb dX12_servedBut_13 rfl (lv_at hl 0 rfl) ?_
    refine ge_12_44 hx hb hts (inU inW_X12) hown hK hP k_172 (hts _ (List.mem_cons_of_mem _ lw_1478)) dX12_servedBut_14 ?_
    refine lv_icmp_ge (tgt := 92) hx hb dX12_servedBut_17 (by decide) (fun c1 => ?_) (fun c1 => ?_)
    · rw [if_pos c1] at h
      refine lv_iconst (v := 0) hx hb dX12_servedBut_92 (by decide) ?_
      refine lv_istore_n (lv' := [(3, .int 0), (0, .ref (G.2.2 172)), (1, .int v1), (2, .int v2)]) hx hb dX12_servedBut_93 rfl hl (by decide) rfl (fun ls hl => ?_)
      exact pf_X12_servedBut_94 C   fu v2 0 z  _ _ _ hP hS (lv_sub hl [1, 3, 0] rfl) h
    · rw [if_neg c1] at h
      refine lv_iload_n hx hb dX12_servedBut_20 rfl (lv_at hl 3 rfl) ?_
      refine lv_iload_n hx hb dX12_servedBut_21 rfl (lv_at hl 1 rfl) ?_
      refine lv_icmp_eq (tgt := 86) hx hb dX12_servedBut_22 (by decide) (fun c2 => ?_) (fun c2 => ?_)
      · rw [if_pos c2] at h
        exact pf_X12_servedBut_86 C  ih v1 v2 v3 z  hP hS (lv_sub hl [0, 1, 2, 3] rfl) h
      · rw [if_neg c2] at h
        refine lv_aload_n hx hb dX12_servedBut_25 rfl (lv_at hl 0 rfl) ?_
        refine lv_iload_n hx hb dX12_servedBut_26 rfl (lv_at hl 3 rfl) ?_
        obtain ⟨r4, z5, h3, h⟩ := bd_s h
        refine x_Vi (Rz := (r4, z5)) (As := [.int v3]) (rest := []) ⟨hx, hb, hml, hown, hts⟩ hK hP hS (kd_lt k_172 (by decide)) (cell_12 k_172) rfl (m_X12_pieceOf hG   h3) (cwV 1 hts (gV lw_1853 lw_1855 lw_77 lw_125 lw_1856) rfl rfl rfl (by decide +kernel) (rmd_ok (by decide) (by decide))) rfl hl.1 rfl (Nat.le_of_ble_eq_true rfl) dX12_servedBut_27 ⟨Nat.le_refl _, Nat.le_refl _⟩ (fun H locs hP hS => ?_)
        refine lv_if_lt (tgt := 36) hx hb dX12_servedBut_30 (by decide) (fun c6 => ?_) (fun c6 => ?_)
        · rw [if_pos c6] at h
          refine lv_aload_n hx hb dX12_servedBut_36 rfl (lv_at hl 0 rfl) ?_
          refine ge_12_53 hx hb hts (inU inW_X12) hown hK hP k_172 (hts _ (List.mem_cons_of_mem _ lw_1487)) dX12_servedBut_37 ?_
          refine lv_aload_n hx hb dX12_servedBut_40 rfl (lv_at hl 0 rfl) ?_
          refine ge_12_55 hx hb hts (inU inW_X12) hown hK hP k_172 (hts _ (List.mem_cons_of_mem _ lw_1489)) dX12_servedBut_41 ?_
          refine lv_aload_n hx hb dX12_servedBut_44 rfl (lv_at hl 0 rfl) ?_
          refine ge_12_36 hx hb hts (inU inW_X12) hown hK hP k_172 (hts _ (List.mem_cons_of_mem _ lw_1470)) dX12_servedBut_45 ?_
          refine lv_iload_n hx hb dX12_servedBut_48 rfl (lv_at hl 3 rfl) ?_
          obtain ⟨g7, h⟩ := gd_s h
          refine xl_14 hx hb hK hP k_194 l_194 (ix_in g7) dX12_servedBut_49 ?_
          refine lv_aload_n hx hb dX12_servedBut_50 rfl (lv_at hl 0 rfl) ?_
          refine ge_12_57 hx hb hts (inU inW_X12) hown hK hP k_172 (hts _ (List.mem_cons_of_mem _ lw_1491)) dX12_servedBut_51 ?_
          refine lv_iadd hx hb dX12_servedBut_54 ?_
          refine lv_if_ge (tgt := 62) hx hb dX12_servedBut_55 (by decide) (fun c8 => ?_) (fun c8 => ?_)
          · rw [if_pos c8] at h
            refine lv_aload_n hx hb dX12_servedBut_62 rfl (lv_at hl 0 rfl) ?_
            refine ge_12_36 hx hb hts (inU inW_X12) hown hK hP k_172 (hts _ (List.mem_cons_of_mem _ lw_1470)) dX12_servedBut_63 ?_
            refine lv_iload_n hx hb dX12_servedBut_66 rfl (lv_at hl 3 rfl) ?_
            obtain ⟨g9, h⟩ := gd_s h
            refine xl_14 hx hb hK hP k_194 l_194 (ix_in g9) dX12_servedBut_67 ?_
            refine lv_aload_n hx hb dX12_servedBut_68 rfl (lv_at hl 0 rfl) ?_
            refine ge_12_57 hx hb hts (inU inW_X12) hown hK hP k_172 (hts _ (List.mem_cons_of_mem _ lw_1491)) dX12_servedBut_69 ?_
            refine lv_iadd hx hb dX12_servedBut_72 ?_
            exact pf_X12_servedBut_73 C  ih v1 v2 v3 (z5.1 172 55) ((z5.1 194 (Int32.toNatClampNeg v3)) + (z5.1 172 57)) z5  hP hS (lv_sub hl [0, 1, 2, 3] rfl) h
          · rw [if_neg c8] at h
            refine lv_iconst (v := 0) hx hb dX12_servedBut_58 (by decide) ?_
            refine lv_goto (tgt := 73) hx hb dX12_servedBut_59 (by decide) ?_
            exact pf_X12_servedBut_73 C  ih v1 v2 v3 (z5.1 172 55) 0 z5  hP hS (lv_sub hl [0, 1, 2, 3] rfl) h
        · rw [if_neg c6] at h
          refine lv_goto (tgt := 86) hx hb dX12_servedBut_33 (by decide) ?_
          exact pf_X12_servedBut_86 C  ih v1 v2 v3 z5  hP hS (lv_sub hl [0, 1, 2, 3] rfl) h
def fn_X12_servedBut (v1 : Int32) (v2 : Int32) (z : St) : Option (Int32 × St) := nm (sI z 172 55 0) (fun z1 => nm (sI z1 172 56 0) (fun z2 => fn_X12_servedBut_12   fu v1 v2 0 z2))
set_option maxHeartbeats 4000000 in
set_option maxRecDepth 100000 in
theorem m_X12_servedBut {l : Launch} {G : wG} (hG : Ok G) {v1 : Int32} {v2 : Int32} {z : St} {Rz : Int32 × St}  (h : fn_X12_servedBut  v1 v2 z = some Rz) : Met l yX12_servedBut (wsU yX12_servedBut cX12_servedBut 5 (some .int)) (rmd 2) (va_Pc [.ref (G.2.2 172), .int v1, .int v2] (Pre G z)) (va_Qi (fun r u => (r, u) = Rz) (Pre G) (AW G)) 0 0 (AW G) := by
  refine Met.ofW (cc := cX12_servedBut) (maxL := 5) (ret := (some .int)) (by decide) rfl ?_
  intro p e s m args below meth c s₁ B hml hv
  obtain ⟨rfl, hP, hK⟩ := hv
  have C : CX p s m ([.ref (G.2.2 172), .int v1, .int v2] : List Value).toArray meth c cX12_servedBut 5 (wsU yX12_servedBut cX12_servedBut 5 (some .int)) RX12 (some .int) G := ⟨B.exec, B.bytes, hml, findClass_of_methodNamed B.named, atoms_spec (ws := (wsU yX12_servedBut cX12_servedBut 5 (some .int))) B.pre, B.returns, B.notSynchronized, hK, hG⟩
  obtain ⟨hx, hb, -, hown, hts, hr, hlocks, -, -⟩ := id C
  have hS : va_S (AW G) s.heap s.heap [] := va_S.rf
  have hl := lv_entry [.ref (G.2.2 172), .int v1, .int v2] (n := 5) (Nat.le_of_ble_eq_true rfl)
  rw [lg_entry_eq]
  generalize (lg_sl [.ref (G.2.2 172), .int v1, .int v2] ++ List.replicate (5 - (lg_sl [.ref (G.2.2 172), .int v1, .int v2]).length) Slot.unset).toArray = ls at hl ⊢
  have hl : lv_has ls 5 [(0, .ref (G.2.2 172)), (1, .int v1), (2, .int v2)] := hl
  unfold fn_X12_servedBut at h
  refine lv_aload_n hx hb dX12_servedBut_0 rfl (lv_at hl 0 rfl) ?_
  refine lv_iconst (v := 0) hx hb dX12_servedBut_1 (by decide) ?_
  obtain ⟨z1, e_z1, h⟩ := nm_s h
  refine pu_12_55 hx hb hts (inU inW_X12) hown hK hG hP hS k_172 (hts _ (List.mem_cons_of_mem _ lw_1489)) dX12_servedBut_2 (fun H locs hP hS => ?_)
  rw [← e_z1] at hP
  refine lv_aload_n hx hb dX12_servedBut_5 rfl (lv_at hl 0 rfl) ?_
  refine lv_iconst (v := 0) hx hb dX12_servedBut_6 (by decide) ?_
  obtain ⟨z2, e_z2, h⟩ := nm_s h
  refine pu_12_56 hx hb hts (inU inW_X12) hown hK hG hP hS k_172 (hts _ (List.mem_cons_of_mem _ lw_1490)) dX12_servedBut_7 (fun H locs hP hS => ?_)
  rw [← e_z2] at hP
  refine lv_iconst (v := 0) hx hb dX12_servedBut_10 (by decide) ?_
  refine lv_istore_n (lv' := [(3, .int 0), (0, .ref (G.2.2 172)), (1, .int v1), (2, .int v2)]) hx hb dX12_servedBut_11 rfl hl (by decide) rfl (fun ls hl => ?_)
  exact pf_X12_servedBut_12 C   fu v1 v2 0 z2  _ _ _ hP hS (lv_sub hl [1, 2, 3, 0] rfl) h
def fn_X12_feeds_58 (k18 : Int32 → Int32 → Int32 → St → Option (Int32 × St)) (v1 : Int32) (v3 : Int32) (tv0 : Int32) (tv1 : Int32) (z : St) : Option (Int32 × St) := bd (fn_X12_truth  tv1 z) (fun r2 z3 => nm (tv0 ||| (r2 <<< (v3 &&& 31))) (fun v2_4 => k18 v1 v2_4 (v3 + 1) z3))
set_option maxHeartbeats 4000000 in
set_option maxRecDepth 100000 in
theorem pf_X12_feeds_58 {p : Program} {l : Launch} {e : Env} {s : State} {m : MethodId} {args : Array Value} {below : List Frame} {meth : Method} {c : Code} {G : wG} (C : CX p s m args meth c cX12_feeds 4 (wsU yX12_feeds cX12_feeds 4 (some .int)) RX12 (some .int) G) {Rz : Int32 × St} {k18 : Int32 → Int32 → Int32 → St → Option (Int32 × St)} (hk_18 : ∀ (v1 : Int32) (v2 : Int32) (v3 : Int32) (z : St)  (H : Heap) (locs : List Loc) (ls : Array Slot), WP G z H → va_S (AW G) s.heap H locs → lv_has ls 4 [(0, .ref (G.2.2 172)), (1, .int v1), (2, .int v2), (3, .int v3)] → k18 v1 v2 v3 z = some Rz → W p l e (rmd 3) s m args below meth c H locs 0 0 (QI below args s G Rz) (F0 m 18 ls [])) (v1 : Int32) (v3 : Int32) (tv0 : Int32) (tv1 : Int32) (z : St)  {H : Heap} {locs : List Loc} {ls : Array Slot} (hP : WP G z H) (hS : va_S (AW G) s.heap H locs) (hl : lv_has ls 4 [(0, .ref (G.2.2 172)), (1, .int v1), (3, .int v3)]) (h : fn_X12_feeds_58  k18 v1 v3 tv0 tv1 z = some Rz) : W p l e (rmd 3) s m args below meth c H locs 0 0 (QI below args s G Rz) (F0 m 58 ls [.int tv1, .int tv0]) := by
  obtain ⟨hx, hb, hml, hown, hts, hr, hlocks, hK, hG⟩ := id C
  unfold fn_X12_feeds_58 at h
  obtain ⟨r2, z3, h1, h⟩ := bd_s h
  refine x_Si (Rz := (r2, z3)) (As := [.int tv1]) (rest := [.int tv0]) ⟨hx, hb, hml, hown, hts⟩ hK hP hS (m_X12_truth hG   h1) (va_cwS 1 hts (gS lw_1842 lw_1843 lw_125 lw_1844) rfl rfl rfl (by decide +kernel) (rmd_ok (by decide) (by decide))) rfl hl.1 rfl (Nat.le_of_ble_eq_true rfl) dX12_feeds_58 ⟨Nat.le_refl _, Nat.le_refl _⟩ (fun H locs hP hS => ?_)
  refine lv_iload_n hx hb dX12_feeds_61 rfl (lv_at hl 2 rfl) ?_
  refine lv_ishl hx hb dX12_feeds_62 ?_
  refine lv_ior hx hb dX12_feeds_63 ?_
  obtain ⟨v2_4, e_v2_4, h⟩ := nm_s h
  refine x_top e_v2_4 ?_
  refine lv_istore_n (lv' := [(2, .int v2_4), (0, .ref (G.2.2 172)), (1, .int v1), (3, .int v3)]) hx hb dX12_feeds_64 rfl hl (by decide) rfl (fun ls hl => ?_)
  refine lv_iinc (v := (v3 + 1)) (lv' := [(3, .int (v3 + 1)), (2, .int v2_4), (0, .ref (G.2.2 172)), (1, .int v1)]) hx hb dX12_feeds_65 hl (k := 3) rfl rfl (by decide) rfl (fun ls hl => ?_)
  refine lv_goto (tgt := 18) hx hb dX12_feeds_68 (by decide) ?_
  exact hk_18 v1 v2_4 (v3 + 1) z3  _ _ _ hP hS (lv_sub hl [2, 3, 1, 0] rfl) h
def fn_X12_feeds_57 (k18 : Int32 → Int32 → Int32 → St → Option (Int32 × St)) (v1 : Int32) (v3 : Int32) (tv0 : Int32) (z : St) : Option (Int32 × St) := fn_X12_feeds_58  k18 v1 v3 tv0 0 z
set_option maxHeartbeats 4000000 in
set_option maxRecDepth 100000 in
theorem pf_X12_feeds_57 {p : Program} {l : Launch} {e : Env} {s : State} {m : MethodId} {args : Array Value} {below : List Frame} {meth : Method} {c : Code} {G : wG} (C : CX p s m args meth c cX12_feeds 4 (wsU yX12_feeds cX12_feeds 4 (some .int)) RX12 (some .int) G) {Rz : Int32 × St} {k18 : Int32 → Int32 → Int32 → St → Option (Int32 × St)} (hk_18 : ∀ (v1 : Int32) (v2 : Int32) (v3 : Int32) (z : St)  (H : Heap) (locs : List Loc) (ls : Array Slot), WP G z H → va_S (AW G) s.heap H locs → lv_has ls 4 [(0, .ref (G.2.2 172)), (1, .int v1), (2, .int v2), (3, .int v3)] → k18 v1 v2 v3 z = some Rz → W p l e (rmd 3) s m args below meth c H locs 0 0 (QI below args s G Rz) (F0 m 18 ls [])) (v1 : Int32) (v3 : Int32) (tv0 : Int32) (z : St)  {H : Heap} {locs : List Loc} {ls : Array Slot} (hP : WP G z H) (hS : va_S (AW G) s.heap H locs) (hl : lv_has ls 4 [(0, .ref (G.2.2 172)), (1, .int v1), (3, .int v3)]) (h : fn_X12_feeds_57  k18 v1 v3 tv0 z = some Rz) : W p l e (rmd 3) s m args below meth c H locs 0 0 (QI below args s G Rz) (F0 m 57 ls [.int tv0]) := by
  obtain ⟨hx, hb, hml, hown, hts, hr, hlocks, hK, hG⟩ := id C
  unfold fn_X12_feeds_57 at h
  refine lv_iconst (v := 0) hx hb dX12_feeds_57 (by decide) ?_
  exact pf_X12_feeds_58 C  hk_18 v1 v3 tv0 0 z  hP hS (lv_sub hl [0, 1, 2] rfl) h
def fn_X12_feeds_18 : Nat → Int32 → Int32 → Int32 → St → Option (Int32 × St)
  | 0, _, _, _, _ => none
  | n + 1, v1, v2, v3, z => (if (z.1 198 (Int32.toNatClampNeg 168)) ≤ v3 then some (v2, z) else bd (fn_X12_isFree  v3 z) (fun r3 z4 => (if r3 = 0 then fn_X12_feeds_57  (fn_X12_feeds_18   n) v1 v3 v2 z4 else bd (fn_X12_areaOf  v3 z4) (fun r7 z8 => gd (ix v1 6) ((if r7 < (z8.1 194 (Int32.toNatClampNeg v1)) then fn_X12_feeds_57  (fn_X12_feeds_18   n) v1 v3 v2 z8 else fn_X12_feeds_58  (fn_X12_feeds_18   n) v1 v3 v2 1 z8))))))
set_option maxHeartbeats 4000000 in
set_option maxRecDepth 100000 in
theorem pf_X12_feeds_18 {p : Program} {l : Launch} {e : Env} {s : State} {m : MethodId} {args : Array Value} {below : List Frame} {meth : Method} {c : Code} {G : wG} (C : CX p s m args meth c cX12_feeds 4 (wsU yX12_feeds cX12_feeds 4 (some .int)) RX12 (some .int) G) {Rz : Int32 × St} : ∀ (n : Nat) (v1 : Int32) (v2 : Int32) (v3 : Int32) (z : St)  (H : Heap) (locs : List Loc) (ls : Array Slot), WP G z H → va_S (AW G) s.heap H locs → lv_has ls 4 [(0, .ref (G.2.2 172)), (1, .int v1), (2, .int v2), (3, .int v3)] → fn_X12_feeds_18   n v1 v2 v3 z = some Rz → W p l e (rmd 3) s m args below meth c H locs 0 0 (QI below args s G Rz) (F0 m 18 ls []) := by
  obtain ⟨hx, hb, hml, hown, hts, hr, hlocks, hK, hG⟩ := id C
  intro n
  induction n with
  | zero => intro v1 v2 v3 z  H locs ls hP hS hl h; cases h
  | succ n ih =>
    intro v1 v2 v3 z  H locs ls hP hS hl h
    rw [fn_X12_feeds_18] at h
    refine lv_iload_n hx hb dX12_feeds_18 rfl (lv_at hl 3 rfl) ?_
    refine lv_aload_n hx hb dX12_feeds_19 rfl (lv_at hl 0 rfl) ?_
    refine ge_12_49 hx hb hts (inU inW_X12) hown hK hP k_172 (hts _ (List.mem_cons_of_mem _ lw_1483)) dX12_feeds_20 ?_
    refine lv_sipush (v := 168) hx hb dX12_feeds_23 (by decide) ?_
    refine xl_14 hx hb hK hP k_198 l_198 (ix_in (by decide)) dX12_feeds_26 ?_
    refine lv_icmp_ge (tgt := 71) hx hb dX12_feeds_27 (by decide) (fun c1 => ?_) (fun c1 => ?_)
    · rw [if_pos c1] at h
      refine lv_iload_n hx hb dX12_feeds_71 rfl (lv_at hl 2 rfl) ?_
      exact x_iret hx hb hr hlocks hK hP hS h dX12_feeds_72
    · rw [if_neg c1] at h
      refine lv_iload_n hx hb dX12_feeds_30 rfl (lv_at hl 2 rfl) ?_
      refine lv_aload_n hx hb dX12_feeds_31 rfl (lv_at hl 0 rfl) ?_
      refine lv_iload_n hx hb dX12_feeds_32 rfl (lv_at hl 3 rfl) ?_
      obtain ⟨r3, z4, h2, h⟩ := bd_s h
      refine x_Vi (Rz := (r3, z4)) (As := [.int v3]) (rest := [.int v2]) ⟨hx, hb, hml, hown, hts⟩ hK hP hS (kd_lt k_172 (by decide)) (cell_12 k_172) rfl (m_X12_isFree hG   h2) (cwV 1 hts (gV lw_1885 lw_1887 lw_82 lw_125 lw_1888) rfl rfl rfl (by decide +kernel) (rmd_ok (by decide) (by decide))) rfl hl.1 rfl (Nat.le_of_ble_eq_true rfl) dX12_feeds_33 ⟨Nat.le_refl _, Nat.le_refl _⟩ (fun H locs hP hS => ?_)
      refine lv_if_eq (tgt := 57) hx hb dX12_feeds_36 (by decide) (fun c5 => ?_) (fun c5 => ?_)
      · rw [if_pos c5] at h
        exact pf_X12_feeds_57 C  ih v1 v3 v2 z4  hP hS (lv_sub hl [0, 1, 3] rfl) h
      · rw [if_neg c5] at h
        refine lv_aload_n hx hb dX12_feeds_39 rfl (lv_at hl 0 rfl) ?_
        refine lv_iload_n hx hb dX12_feeds_40 rfl (lv_at hl 3 rfl) ?_
        obtain ⟨r7, z8, h6, h⟩ := bd_s h
        refine x_Vi (Rz := (r7, z8)) (As := [.int v3]) (rest := [.int v2]) ⟨hx, hb, hml, hown, hts⟩ hK hP hS (kd_lt k_172 (by decide)) (cell_12 k_172) rfl (m_X12_areaOf hG   h6) (cwV 1 hts (gV lw_1834 lw_1836 lw_74 lw_125 lw_1837) rfl rfl rfl (by decide +kernel) (rmd_ok (by decide) (by decide))) rfl hl.1 rfl (Nat.le_of_ble_eq_true rfl) dX12_feeds_41 ⟨Nat.le_refl _, Nat.le_refl _⟩ (fun H locs hP hS => ?_)
        refine lv_aload_n hx hb dX12_feeds_44 rfl (lv_at hl 0 rfl) ?_
        refine ge_12_36 hx hb hts (inU inW_X12) hown hK hP k_172 (hts _ (List.mem_cons_of_mem _ lw_1470)) dX12_feeds_45 ?_
        refine lv_iload_n hx hb dX12_feeds_48 rfl (lv_at hl 1 rfl) ?_
        obtain ⟨g9, h⟩ := gd_s h
        refine xl_14 hx hb hK hP k_194 l_194 (ix_in g9) dX12_feeds_49 ?_
        refine lv_icmp_lt (tgt := 57) hx hb dX12_feeds_50 (by decide) (fun c10 => ?_) (fun c10 => ?_)
        · rw [if_pos c10] at h
          exact pf_X12_feeds_57 C  ih v1 v3 v2 z8  hP hS (lv_sub hl [0, 1, 3] rfl) h
        · rw [if_neg c10] at h
          refine lv_iconst (v := 1) hx hb dX12_feeds_53 (by decide) ?_
          refine lv_goto (tgt := 58) hx hb dX12_feeds_54 (by decide) ?_
          exact pf_X12_feeds_58 C  ih v1 v3 v2 1 z8  hP hS (lv_sub hl [0, 1, 3] rfl) h
def fn_X12_feeds (v1 : Int32) (z : St) : Option (Int32 × St) := bd (fn_X12_isGuest  v1 z) (fun r2 z3 => (if r2 = 0 then some ((-1), z3) else bv (fn_X12_load   z3) (fun z6 => fn_X12_feeds_18   fu v1 0 0 z6)))
set_option maxHeartbeats 4000000 in
set_option maxRecDepth 100000 in
theorem m_X12_feeds {l : Launch} {G : wG} (hG : Ok G) {v1 : Int32} {z : St} {Rz : Int32 × St}  (h : fn_X12_feeds  v1 z = some Rz) : Met l yX12_feeds (wsU yX12_feeds cX12_feeds 4 (some .int)) (rmd 3) (va_Pc [.ref (G.2.2 172), .int v1] (Pre G z)) (va_Qi (fun r u => (r, u) = Rz) (Pre G) (AW G)) 0 0 (AW G) := by
  refine Met.ofW (cc := cX12_feeds) (maxL := 4) (ret := (some .int)) (by decide) rfl ?_
  intro p e s m args below meth c s₁ B hml hv
  obtain ⟨rfl, hP, hK⟩ := hv
  have C : CX p s m ([.ref (G.2.2 172), .int v1] : List Value).toArray meth c cX12_feeds 4 (wsU yX12_feeds cX12_feeds 4 (some .int)) RX12 (some .int) G := ⟨B.exec, B.bytes, hml, findClass_of_methodNamed B.named, atoms_spec (ws := (wsU yX12_feeds cX12_feeds 4 (some .int))) B.pre, B.returns, B.notSynchronized, hK, hG⟩
  obtain ⟨hx, hb, -, hown, hts, hr, hlocks, -, -⟩ := id C
  have hS : va_S (AW G) s.heap s.heap [] := va_S.rf
  have hl := lv_entry [.ref (G.2.2 172), .int v1] (n := 4) (Nat.le_of_ble_eq_true rfl)
  rw [lg_entry_eq]
  generalize (lg_sl [.ref (G.2.2 172), .int v1] ++ List.replicate (4 - (lg_sl [.ref (G.2.2 172), .int v1]).length) Slot.unset).toArray = ls at hl ⊢
  have hl : lv_has ls 4 [(0, .ref (G.2.2 172)), (1, .int v1)] := hl
  unfold fn_X12_feeds at h
  refine lv_aload_n hx hb dX12_feeds_0 rfl (lv_at hl 0 rfl) ?_
  refine lv_iload_n hx hb dX12_feeds_1 rfl (lv_at hl 1 rfl) ?_
  obtain ⟨r2, z3, h1, h⟩ := bd_s h
  refine x_Vi (Rz := (r2, z3)) (As := [.int v1]) (rest := []) ⟨hx, hb, hml, hown, hts⟩ hK hP hS (kd_lt k_172 (by decide)) (cell_12 k_172) rfl (m_X12_isGuest hG   h1) (cwV 1 hts (gV lw_1849 lw_1851 lw_76 lw_125 lw_1852) rfl rfl rfl (by decide +kernel) (rmd_ok (by decide) (by decide))) rfl hl.1 rfl (Nat.le_of_ble_eq_true rfl) dX12_feeds_2 ⟨Nat.le_refl _, Nat.le_refl _⟩ (fun H locs hP hS => ?_)
  refine lv_if_ne (tgt := 10) hx hb dX12_feeds_5 (by decide) (fun c4 => ?_) (fun c4 => ?_)
  · rw [if_neg c4] at h
    refine lv_aload_n hx hb dX12_feeds_10 rfl (lv_at hl 0 rfl) ?_
    obtain ⟨z6, h5, h⟩ := bv_s h
    refine x_Vv (Rz := z6) (As := []) (rest := []) ⟨hx, hb, hml, hown, hts⟩ hK hP hS (kd_lt k_172 (by decide)) (cell_12 k_172) rfl (m_X12_load hG   h5) (cwV 0 hts (gV lw_1830 lw_1832 lw_73 lw_125 lw_1833) rfl rfl rfl (by decide +kernel) (rmd_ok (by decide) (by decide))) rfl hl.1 rfl (Nat.le_of_ble_eq_true rfl) dX12_feeds_11 ⟨Nat.le_refl _, Nat.le_refl _⟩ (fun H locs hP hS => ?_)
    refine lv_iconst (v := 0) hx hb dX12_feeds_14 (by decide) ?_
    refine lv_istore_n (lv' := [(2, .int 0), (0, .ref (G.2.2 172)), (1, .int v1)]) hx hb dX12_feeds_15 rfl hl (by decide) rfl (fun ls hl => ?_)
    refine lv_iconst (v := 0) hx hb dX12_feeds_16 (by decide) ?_
    refine lv_istore_n (lv' := [(3, .int 0), (2, .int 0), (0, .ref (G.2.2 172)), (1, .int v1)]) hx hb dX12_feeds_17 rfl hl (by decide) rfl (fun ls hl => ?_)
    exact pf_X12_feeds_18 C   fu v1 0 0 z6  _ _ _ hP hS (lv_sub hl [2, 3, 1, 0] rfl) h
  · rw [if_pos c4] at h
    refine lv_iconst (v := (-1)) hx hb dX12_feeds_8 (by decide) ?_
    exact x_iret hx hb hr hlocks hK hP hS h dX12_feeds_9
def fn_X12_served  (z : St) : Option (Int32 × St) := bv (fn_X12_load   z) (fun z2 => bd (fn_X12_servedBut  (-1) (-1) z2) (fun r4 z5 => some (r4, z5)))
set_option maxHeartbeats 4000000 in
set_option maxRecDepth 100000 in
theorem m_X12_served {l : Launch} {G : wG} (hG : Ok G)  {z : St} {Rz : Int32 × St}  (h : fn_X12_served   z = some Rz) : Met l yX12_served (wsU yX12_served cX12_served 1 (some .int)) (rmd 3) (va_Pc [.ref (G.2.2 172)] (Pre G z)) (va_Qi (fun r u => (r, u) = Rz) (Pre G) (AW G)) 0 0 (AW G) := by
  refine Met.ofW (cc := cX12_served) (maxL := 1) (ret := (some .int)) (by decide) rfl ?_
  intro p e s m args below meth c s₁ B hml hv
  obtain ⟨rfl, hP, hK⟩ := hv
  have C : CX p s m ([.ref (G.2.2 172)] : List Value).toArray meth c cX12_served 1 (wsU yX12_served cX12_served 1 (some .int)) RX12 (some .int) G := ⟨B.exec, B.bytes, hml, findClass_of_methodNamed B.named, atoms_spec (ws := (wsU yX12_served cX12_served 1 (some .int))) B.pre, B.returns, B.notSynchronized, hK, hG⟩
  obtain ⟨hx, hb, -, hown, hts, hr, hlocks, -, -⟩ := id C
  have hS : va_S (AW G) s.heap s.heap [] := va_S.rf
  have hl := lv_entry [.ref (G.2.2 172)] (n := 1) (Nat.le_of_ble_eq_true rfl)
  rw [lg_entry_eq]
  generalize (lg_sl [.ref (G.2.2 172)] ++ List.replicate (1 - (lg_sl [.ref (G.2.2 172)]).length) Slot.unset).toArray = ls at hl ⊢
  have hl : lv_has ls 1 [(0, .ref (G.2.2 172))] := hl
  unfold fn_X12_served at h
  refine lv_aload_n hx hb dX12_served_0 rfl (lv_at hl 0 rfl) ?_
  obtain ⟨z2, h1, h⟩ := bv_s h
  refine x_Vv (Rz := z2) (As := []) (rest := []) ⟨hx, hb, hml, hown, hts⟩ hK hP hS (kd_lt k_172 (by decide)) (cell_12 k_172) rfl (m_X12_load hG   h1) (cwV 0 hts (gV lw_1830 lw_1832 lw_73 lw_125 lw_1833) rfl rfl rfl (by decide +kernel) (rmd_ok (by decide) (by decide))) rfl hl.1 rfl (Nat.le_of_ble_eq_true rfl) dX12_served_1 ⟨Nat.le_refl _, Nat.le_refl _⟩ (fun H locs hP hS => ?_)
  refine lv_aload_n hx hb dX12_served_4 rfl (lv_at hl 0 rfl) ?_
  refine lv_iconst (v := (-1)) hx hb dX12_served_5 (by decide) ?_
  refine lv_iconst (v := (-1)) hx hb dX12_served_6 (by decide) ?_
  obtain ⟨r4, z5, h3, h⟩ := bd_s h
  refine x_Vi (Rz := (r4, z5)) (As := [.int (-1), .int (-1)]) (rest := []) ⟨hx, hb, hml, hown, hts⟩ hK hP hS (kd_lt k_172 (by decide)) (cell_12 k_172) rfl (m_X12_servedBut hG   h3) (cwV 2 hts (gV lw_1937 lw_1939 lw_87 lw_125 lw_1940) rfl rfl rfl (by decide +kernel) (rmd_ok (by decide) (by decide))) rfl hl.1 rfl (Nat.le_of_ble_eq_true rfl) dX12_served_7 ⟨Nat.le_refl _, Nat.le_refl _⟩ (fun H locs hP hS => ?_)
  exact x_iret hx hb hr hlocks hK hP hS h dX12_served_10
def fn_X12_next_113 (k18 : Int32 → Int32 → Int32 → Int32 → St → Option (Int32 × St)) (k34 : Int32 → Int32 → Int32 → Int32 → Int32 → St → Option (Int32 × St)) (v1 : Int32) (v2 : Int32) (v3 : Int32) (v4 : Int32) (v5 : Int32) (z : St) : Option (Int32 × St) := k34 v1 v2 v3 v4 (v5 + 1) z
set_option maxHeartbeats 4000000 in
set_option maxRecDepth 100000 in
theorem pf_X12_next_113 {p : Program} {l : Launch} {e : Env} {s : State} {m : MethodId} {args : Array Value} {below : List Frame} {meth : Method} {c : Code} {G : wG} (C : CX p s m args meth c cX12_next 7 (wsU yX12_next cX12_next 7 (some .int)) RX12 (some .int) G) {Rz : Int32 × St} {k18 : Int32 → Int32 → Int32 → Int32 → St → Option (Int32 × St)} {k34 : Int32 → Int32 → Int32 → Int32 → Int32 → St → Option (Int32 × St)} (hk_18 : ∀ (v1 : Int32) (v2 : Int32) (v3 : Int32) (v4 : Int32) (z : St)  (H : Heap) (locs : List Loc) (ls : Array Slot), WP G z H → va_S (AW G) s.heap H locs → lv_has ls 7 [(0, .ref (G.2.2 172)), (1, .int v1), (2, .int v2), (3, .int v3), (4, .int v4)] → k18 v1 v2 v3 v4 z = some Rz → W p l e (rmd 3) s m args below meth c H locs 0 0 (QI below args s G Rz) (F0 m 18 ls [])) (hk_34 : ∀ (v1 : Int32) (v2 : Int32) (v3 : Int32) (v4 : Int32) (v5 : Int32) (z : St)  (H : Heap) (locs : List Loc) (ls : Array Slot), WP G z H → va_S (AW G) s.heap H locs → lv_has ls 7 [(0, .ref (G.2.2 172)), (1, .int v1), (2, .int v2), (3, .int v3), (4, .int v4), (5, .int v5)] → k34 v1 v2 v3 v4 v5 z = some Rz → W p l e (rmd 3) s m args below meth c H locs 0 0 (QI below args s G Rz) (F0 m 34 ls [])) (v1 : Int32) (v2 : Int32) (v3 : Int32) (v4 : Int32) (v5 : Int32) (z : St)  {H : Heap} {locs : List Loc} {ls : Array Slot} (hP : WP G z H) (hS : va_S (AW G) s.heap H locs) (hl : lv_has ls 7 [(0, .ref (G.2.2 172)), (1, .int v1), (2, .int v2), (3, .int v3), (4, .int v4), (5, .int v5)]) (h : fn_X12_next_113  k18 k34 v1 v2 v3 v4 v5 z = some Rz) : W p l e (rmd 3) s m args below meth c H locs 0 0 (QI below args s G Rz) (F0 m 113 ls []) := by
  obtain ⟨hx, hb, hml, hown, hts, hr, hlocks, hK, hG⟩ := id C
  unfold fn_X12_next_113 at h
  refine lv_iinc (v := (v5 + 1)) (lv' := [(5, .int (v5 + 1)), (0, .ref (G.2.2 172)), (1, .int v1), (2, .int v2), (3, .int v3), (4, .int v4)]) hx hb dX12_next_113 hl (k := 5) rfl rfl (by decide) rfl (fun ls hl => ?_)
  refine lv_goto (tgt := 34) hx hb dX12_next_116 (by decide) ?_
  exact hk_34 v1 v2 v3 v4 (v5 + 1) z  _ _ _ hP hS (lv_sub hl [1, 2, 3, 4, 5, 0] rfl) h
def fn_X12_next_34 (k18 : Int32 → Int32 → Int32 → Int32 → St → Option (Int32 × St)) : Nat → Int32 → Int32 → Int32 → Int32 → Int32 → St → Option (Int32 × St)
  | 0, _, _, _, _, _, _ => none
  | n + 1, v1, v2, v3, v4, v5, z => (if 16 ≤ v5 then k18 v1 v2 v3 (v4 + 1) z else bv (fn_X12_load   z) (fun z3 => bd (fn_X12_canCut  v4 (v5 / 8) (v5 - v5 / 8 * 8) z3) (fun r5 z6 => (if r5 = 0 then fn_X12_next_113  k18 (fn_X12_next_34  k18 n) v1 v2 v3 v4 v5 z6 else bd (fn_X12_goCut  v4 (v5 / 8) (v5 - v5 / 8 * 8) z6) (fun r9 z10 => bd (fn_X12_servedBut  (-1) (-1) z10) (fun r12 z13 => (if v2 < r12 then nm ((16 * v4) + v5) (fun v3_15 => fn_X12_next_113  k18 (fn_X12_next_34  k18 n) v1 r12 v3_15 v4 v5 z13) else fn_X12_next_113  k18 (fn_X12_next_34  k18 n) v1 v2 v3 v4 v5 z13)))))))
set_option maxHeartbeats 4000000 in
set_option maxRecDepth 100000 in
theorem pf_X12_next_34 {p : Program} {l : Launch} {e : Env} {s : State} {m : MethodId} {args : Array Value} {below : List Frame} {meth : Method} {c : Code} {G : wG} (C : CX p s m args meth c cX12_next 7 (wsU yX12_next cX12_next 7 (some .int)) RX12 (some .int) G) {Rz : Int32 × St} {k18 : Int32 → Int32 → Int32 → Int32 → St → Option (Int32 × St)} (hk_18 : ∀ (v1 : Int32) (v2 : Int32) (v3 : Int32) (v4 : Int32) (z : St)  (H : Heap) (locs : List Loc) (ls : Array Slot), WP G z H → va_S (AW G) s.heap H locs → lv_has ls 7 [(0, .ref (G.2.2 172)), (1, .int v1), (2, .int v2), (3, .int v3), (4, .int v4)] → k18 v1 v2 v3 v4 z = some Rz → W p l e (rmd 3) s m args below meth c H locs 0 0 (QI below args s G Rz) (F0 m 18 ls [])) : ∀ (n : Nat) (v1 : Int32) (v2 : Int32) (v3 : Int32) (v4 : Int32) (v5 : Int32) (z : St)  (H : Heap) (locs : List Loc) (ls : Array Slot), WP G z H → va_S (AW G) s.heap H locs → lv_has ls 7 [(0, .ref (G.2.2 172)), (1, .int v1), (2, .int v2), (3, .int v3), (4, .int v4), (5, .int v5)] → fn_X12_next_34  k18 n v1 v2 v3 v4 v5 z = some Rz → W p l e (rmd 3) s m args below meth c H locs 0 0 (QI below args s G Rz) (F0 m 34 ls []) := by
  obtain ⟨hx, hb, hml, hown, hts, hr, hlocks, hK, hG⟩ := id C
  intro n
  induction n with
  | zero => intro v1 v2 v3 v4 v5 z  H locs ls hP hS hl h; cases h
  | succ n ih =>
    intro v1 v2 v3 v4 v5 z  H locs ls hP hS hl h
    rw [fn_X12_next_34] at h
    refine lv_iload hx hb dX12_next_34 (lv_at hl 5 rfl) ?_
    refine lv_bipush (v := 16) hx hb dX12_next_36 (by decide) ?_
    refine lv_icmp_ge (tgt := 119) hx hb dX12_next_38 (by decide) (fun c1 => ?_) (fun c1 => ?_)
    · rw [if_pos c1] at h
      refine lv_iinc (v := (v4 + 1)) (lv' := [(4, .int (v4 + 1)), (0, .ref (G.2.2 172)), (1, .int v1), (2, .int v2), (3, .int v3), (5, .int v5)]) hx hb dX12_next_119 hl (k := 4) rfl rfl (by decide) rfl (fun ls hl => ?_)
      refine lv_goto (tgt := 18) hx hb dX12_next_122 (by decide) ?_
      exact hk_18 v1 v2 v3 (v4 + 1) z  _ _ _ hP hS (lv_sub hl [1, 2, 3, 4, 0] rfl) h
    · rw [if_neg c1] at h
      refine lv_aload_n hx hb dX12_next_41 rfl (lv_at hl 0 rfl) ?_
      obtain ⟨z3, h2, h⟩ := bv_s h
      refine x_Vv (Rz := z3) (As := []) (rest := []) ⟨hx, hb, hml, hown, hts⟩ hK hP hS (kd_lt k_172 (by decide)) (cell_12 k_172) rfl (m_X12_load hG   h2) (cwV 0 hts (gV lw_1830 lw_1832 lw_73 lw_125 lw_1833) rfl rfl rfl (by decide +kernel) (rmd_ok (by decide) (by decide))) rfl hl.1 rfl (Nat.le_of_ble_eq_true rfl) dX12_next_42 ⟨Nat.le_refl _, Nat.le_refl _⟩ (fun H locs hP hS => ?_)
      refine lv_aload_n hx hb dX12_next_45 rfl (lv_at hl 0 rfl) ?_
      refine lv_iload hx hb dX12_next_46 (lv_at hl 4 rfl) ?_
      refine lv_iload hx hb dX12_next_48 (lv_at hl 5 rfl) ?_
      refine lv_bipush (v := 8) hx hb dX12_next_50 (by decide) ?_
      refine lv_idiv hx hb dX12_next_52 (by decide) ?_
      refine lv_iload hx hb dX12_next_53 (lv_at hl 5 rfl) ?_
      refine lv_bipush (v := 8) hx hb dX12_next_55 (by decide) ?_
      refine lv_irem hx hb dX12_next_57 (by decide) ?_
      obtain ⟨r5, z6, h4, h⟩ := bd_s h
      refine x_Vi (Rz := (r5, z6)) (As := [.int v4, .int (v5 / 8), .int (v5 - v5 / 8 * 8)]) (rest := []) ⟨hx, hb, hml, hown, hts⟩ hK hP hS (kd_lt k_172 (by decide)) (cell_12 k_172) rfl (m_X12_canCut hG   h4) (cwV 3 hts (gV lw_1881 lw_1883 lw_81 lw_125 lw_1884) rfl rfl rfl (by decide +kernel) (rmd_ok (by decide) (by decide))) rfl hl.1 rfl (Nat.le_of_ble_eq_true rfl) dX12_next_58 ⟨Nat.le_refl _, Nat.le_refl _⟩ (fun H locs hP hS => ?_)
      refine lv_if_ne (tgt := 67) hx hb dX12_next_61 (by decide) (fun c7 => ?_) (fun c7 => ?_)
      · rw [if_neg c7] at h
        refine lv_aload_n hx hb dX12_next_67 rfl (lv_at hl 0 rfl) ?_
        refine lv_iload hx hb dX12_next_68 (lv_at hl 4 rfl) ?_
        refine lv_iload hx hb dX12_next_70 (lv_at hl 5 rfl) ?_
        refine lv_bipush (v := 8) hx hb dX12_next_72 (by decide) ?_
        refine lv_idiv hx hb dX12_next_74 (by decide) ?_
        refine lv_iload hx hb dX12_next_75 (lv_at hl 5 rfl) ?_
        refine lv_bipush (v := 8) hx hb dX12_next_77 (by decide) ?_
        refine lv_irem hx hb dX12_next_79 (by decide) ?_
        obtain ⟨r9, z10, h8, h⟩ := bd_s h
        refine x_Vi (Rz := (r9, z10)) (As := [.int v4, .int (v5 / 8), .int (v5 - v5 / 8 * 8)]) (rest := []) ⟨hx, hb, hml, hown, hts⟩ hK hP hS (kd_lt k_172 (by decide)) (cell_12 k_172) rfl (m_X12_goCut hG   h8) (cwV 3 hts (gV lw_1901 lw_1903 lw_85 lw_125 lw_1904) rfl rfl rfl (by decide +kernel) (rmd_ok (by decide) (by decide))) rfl hl.1 rfl (Nat.le_of_ble_eq_true rfl) dX12_next_80 ⟨Nat.le_refl _, Nat.le_refl _⟩ (fun H locs hP hS => ?_)
        refine lv_pop hx hb dX12_next_83 rfl ?_
        refine lv_aload_n hx hb dX12_next_84 rfl (lv_at hl 0 rfl) ?_
        refine lv_iconst (v := (-1)) hx hb dX12_next_85 (by decide) ?_
        refine lv_iconst (v := (-1)) hx hb dX12_next_86 (by decide) ?_
        obtain ⟨r12, z13, h11, h⟩ := bd_s h
        refine x_Vi (Rz := (r12, z13)) (As := [.int (-1), .int (-1)]) (rest := []) ⟨hx, hb, hml, hown, hts⟩ hK hP hS (kd_lt k_172 (by decide)) (cell_12 k_172) rfl (m_X12_servedBut hG   h11) (cwV 2 hts (gV lw_1937 lw_1939 lw_87 lw_125 lw_1940) rfl rfl rfl (by decide +kernel) (rmd_ok (by decide) (by decide))) rfl hl.1 rfl (Nat.le_of_ble_eq_true rfl) dX12_next_87 ⟨Nat.le_refl _, Nat.le_refl _⟩ (fun H locs hP hS => ?_)
        refine lv_istore (lv' := [(6, .int r12), (0, .ref (G.2.2 172)), (1, .int v1), (2, .int v2), (3, .int v3), (4, .int v4), (5, .int v5)]) hx hb dX12_next_90 hl (by decide) rfl (fun ls hl => ?_)
        refine lv_iload hx hb dX12_next_92 (lv_at hl 0 rfl) ?_
        refine lv_iload_n hx hb dX12_next_94 rfl (lv_at hl 3 rfl) ?_
        refine lv_icmp_gt (tgt := 101) hx hb dX12_next_95 (by decide) (fun c14 => ?_) (fun c14 => ?_)
        · rw [if_pos c14] at h
          refine lv_iload hx hb dX12_next_101 (lv_at hl 0 rfl) ?_
          refine lv_istore_n (lv' := [(2, .int r12), (6, .int r12), (0, .ref (G.2.2 172)), (1, .int v1), (3, .int v3), (4, .int v4), (5, .int v5)]) hx hb dX12_next_103 rfl hl (by decide) rfl (fun ls hl => ?_)
          refine lv_bipush (v := 16) hx hb dX12_next_104 (by decide) ?_
          refine lv_iload hx hb dX12_next_106 (lv_at hl 5 rfl) ?_
          refine lv_imul hx hb dX12_next_108 ?_
          refine lv_iload hx hb dX12_next_109 (lv_at hl 6 rfl) ?_
          refine lv_iadd hx hb dX12_next_111 ?_
          obtain ⟨v3_15, e_v3_15, h⟩ := nm_s h
          refine x_top e_v3_15 ?_
          refine lv_istore_n (lv' := [(3, .int v3_15), (2, .int r12), (6, .int r12), (0, .ref (G.2.2 172)), (1, .int v1), (4, .int v4), (5, .int v5)]) hx hb dX12_next_112 rfl hl (by decide) rfl (fun ls hl => ?_)
          exact pf_X12_next_113 C  hk_18 ih v1 r12 v3_15 v4 v5 z13  hP hS (lv_sub hl [3, 4, 1, 0, 5, 6] rfl) h
        · rw [if_neg c14] at h
          refine lv_goto (tgt := 113) hx hb dX12_next_98 (by decide) ?_
          exact pf_X12_next_113 C  hk_18 ih v1 v2 v3 v4 v5 z13  hP hS (lv_sub hl [1, 2, 3, 4, 5, 6] rfl) h
      · rw [if_pos c7] at h
        refine lv_goto (tgt := 113) hx hb dX12_next_64 (by decide) ?_
        exact pf_X12_next_113 C  hk_18 ih v1 v2 v3 v4 v5 z6  hP hS (lv_sub hl [0, 1, 2, 3, 4, 5] rfl) h
def fn_X12_next_18 : Nat → Int32 → Int32 → Int32 → Int32 → St → Option (Int32 × St)
  | 0, _, _, _, _, _ => none
  | n + 1, v1, v2, v3, v4, z => (if (z.1 197 (Int32.toNatClampNeg 168)) ≤ v4 then (if 0 ≤ v2 then (if v1 = 0 then some ((v3 / 16), z) else (if v1 = 1 then some (((v3 / 8) - (v3 / 8) / 2 * 2), z) else (if v1 = 2 then some ((v3 - v3 / 8 * 8), z) else some (v2, z)))) else some ((-1), z)) else fn_X12_next_34  (fn_X12_next_18   n) fu v1 v2 v3 v4 0 z)
set_option maxHeartbeats 4000000 in
set_option maxRecDepth 100000 in
theorem pf_X12_next_18 {p : Program} {l : Launch} {e : Env} {s : State} {m : MethodId} {args : Array Value} {below : List Frame} {meth : Method} {c : Code} {G : wG} (C : CX p s m args meth c cX12_next 7 (wsU yX12_next cX12_next 7 (some .int)) RX12 (some .int) G) {Rz : Int32 × St} : ∀ (n : Nat) (v1 : Int32) (v2 : Int32) (v3 : Int32) (v4 : Int32) (z : St)  (H : Heap) (locs : List Loc) (ls : Array Slot), WP G z H → va_S (AW G) s.heap H locs → lv_has ls 7 [(0, .ref (G.2.2 172)), (1, .int v1), (2, .int v2), (3, .int v3), (4, .int v4)] → fn_X12_next_18   n v1 v2 v3 v4 z = some Rz → W p l e (rmd 3) s m args below meth c H locs 0 0 (QI below args s G Rz) (F0 m 18 ls []) := by
  obtain ⟨hx, hb, hml, hown, hts, hr, hlocks, hK, hG⟩ := id C
  intro n
  induction n with
  | zero => intro v1 v2 v3 v4 z  H locs ls hP hS hl h; cases h
  | succ n ih =>
    intro v1 v2 v3 v4 z  H locs ls hP hS hl h
    rw [fn_X12_next_18] at h
    refine lv_iload hx hb dX12_next_18 (lv_at hl 4 rfl) ?_
    refine lv_aload_n hx hb dX12_next_20 rfl (lv_at hl 0 rfl) ?_
    refine ge_12_48 hx hb hts (inU inW_X12) hown hK hP k_172 (hts _ (List.mem_cons_of_mem _ lw_1482)) dX12_next_21 ?_
    refine lv_sipush (v := 168) hx hb dX12_next_24 (by decide) ?_
    refine xl_14 hx hb hK hP k_197 l_197 (ix_in (by decide)) dX12_next_27 ?_
    refine lv_icmp_ge (tgt := 125) hx hb dX12_next_28 (by decide) (fun c1 => ?_) (fun c1 => ?_)
    · rw [if_pos c1] at h
      refine lv_iload_n hx hb dX12_next_125 rfl (lv_at hl 2 rfl) ?_
      refine lv_if_ge (tgt := 131) hx hb dX12_next_126 (by decide) (fun c2 => ?_) (fun c2 => ?_)
      · rw [if_pos c2] at h
        refine lv_iload_n hx hb dX12_next_131 rfl (lv_at hl 1 rfl) ?_
        refine lv_if_ne (tgt := 142) hx hb dX12_next_132 (by decide) (fun c3 => ?_) (fun c3 => ?_)
        · rw [if_neg c3] at h
          refine lv_iload_n hx hb dX12_next_142 rfl (lv_at hl 1 rfl) ?_
          refine lv_iconst (v := 1) hx hb dX12_next_143 (by decide) ?_
          refine lv_icmp_ne (tgt := 156) hx hb dX12_next_144 (by decide) (fun c4 => ?_) (fun c4 => ?_)
          · rw [if_neg c4] at h
            refine lv_iload_n hx hb dX12_next_156 rfl (lv_at hl 1 rfl) ?_
            refine lv_iconst (v := 2) hx hb dX12_next_157 (by decide) ?_
            refine lv_icmp_ne (tgt := 168) hx hb dX12_next_158 (by decide) (fun c5 => ?_) (fun c5 => ?_)
            · rw [if_neg c5] at h
              refine lv_iload_n hx hb dX12_next_168 rfl (lv_at hl 2 rfl) ?_
              exact x_iret hx hb hr hlocks hK hP hS h dX12_next_169
            · rw [if_pos c5] at h
              refine lv_iload_n hx hb dX12_next_161 rfl (lv_at hl 3 rfl) ?_
              refine lv_bipush (v := 8) hx hb dX12_next_162 (by decide) ?_
              refine lv_irem hx hb dX12_next_164 (by decide) ?_
              refine lv_goto (tgt := 169) hx hb dX12_next_165 (by decide) ?_
              exact x_iret hx hb hr hlocks hK hP hS h dX12_next_169
          · rw [if_pos c4] at h
            refine lv_iload_n hx hb dX12_next_147 rfl (lv_at hl 3 rfl) ?_
            refine lv_bipush (v := 8) hx hb dX12_next_148 (by decide) ?_
            refine lv_idiv hx hb dX12_next_150 (by decide) ?_
            refine lv_iconst (v := 2) hx hb dX12_next_151 (by decide) ?_
            refine lv_irem hx hb dX12_next_152 (by decide) ?_
            refine lv_goto (tgt := 169) hx hb dX12_next_153 (by decide) ?_
            exact x_iret hx hb hr hlocks hK hP hS h dX12_next_169
        · rw [if_pos c3] at h
          refine lv_iload_n hx hb dX12_next_135 rfl (lv_at hl 3 rfl) ?_
          refine lv_bipush (v := 16) hx hb dX12_next_136 (by decide) ?_
          refine lv_idiv hx hb dX12_next_138 (by decide) ?_
          refine lv_goto (tgt := 169) hx hb dX12_next_139 (by decide) ?_
          exact x_iret hx hb hr hlocks hK hP hS h dX12_next_169
      · rw [if_neg c2] at h
        refine lv_iconst (v := (-1)) hx hb dX12_next_129 (by decide) ?_
        exact x_iret hx hb hr hlocks hK hP hS h dX12_next_130
    · rw [if_neg c1] at h
      refine lv_iconst (v := 0) hx hb dX12_next_31 (by decide) ?_
      refine lv_istore (lv' := [(5, .int 0), (0, .ref (G.2.2 172)), (1, .int v1), (2, .int v2), (3, .int v3), (4, .int v4)]) hx hb dX12_next_32 hl (by decide) rfl (fun ls hl => ?_)
      exact pf_X12_next_34 C  ih fu v1 v2 v3 v4 0 z  _ _ _ hP hS (lv_sub hl [1, 2, 3, 4, 5, 0] rfl) h
def fn_X12_next (v1 : Int32) (z : St) : Option (Int32 × St) := bd (fn_X12_isIn  v1 0 3 z) (fun r2 z3 => (if r2 = 0 then some ((-1), z3) else fn_X12_next_18   fu v1 (-1) 0 0 z3))
set_option maxHeartbeats 4000000 in
set_option maxRecDepth 100000 in
theorem m_X12_next {l : Launch} {G : wG} (hG : Ok G) {v1 : Int32} {z : St} {Rz : Int32 × St}  (h : fn_X12_next  v1 z = some Rz) : Met l yX12_next (wsU yX12_next cX12_next 7 (some .int)) (rmd 3) (va_Pc [.ref (G.2.2 172), .int v1] (Pre G z)) (va_Qi (fun r u => (r, u) = Rz) (Pre G) (AW G)) 0 0 (AW G) := by
  refine Met.ofW (cc := cX12_next) (maxL := 7) (ret := (some .int)) (by decide) rfl ?_
  intro p e s m args below meth c s₁ B hml hv
  obtain ⟨rfl, hP, hK⟩ := hv
  have C : CX p s m ([.ref (G.2.2 172), .int v1] : List Value).toArray meth c cX12_next 7 (wsU yX12_next cX12_next 7 (some .int)) RX12 (some .int) G := ⟨B.exec, B.bytes, hml, findClass_of_methodNamed B.named, atoms_spec (ws := (wsU yX12_next cX12_next 7 (some .int))) B.pre, B.returns, B.notSynchronized, hK, hG⟩
  obtain ⟨hx, hb, -, hown, hts, hr, hlocks, -, -⟩ := id C
  have hS : va_S (AW G) s.heap s.heap [] := va_S.rf
  have hl := lv_entry [.ref (G.2.2 172), .int v1] (n := 7) (Nat.le_of_ble_eq_true rfl)
  rw [lg_entry_eq]
  generalize (lg_sl [.ref (G.2.2 172), .int v1] ++ List.replicate (7 - (lg_sl [.ref (G.2.2 172), .int v1]).length) Slot.unset).toArray = ls at hl ⊢
  have hl : lv_has ls 7 [(0, .ref (G.2.2 172)), (1, .int v1)] := hl
  unfold fn_X12_next at h
  refine lv_iload_n hx hb dX12_next_0 rfl (lv_at hl 1 rfl) ?_
  refine lv_iconst (v := 0) hx hb dX12_next_1 (by decide) ?_
  refine lv_iconst (v := 3) hx hb dX12_next_2 (by decide) ?_
  obtain ⟨r2, z3, h1, h⟩ := bd_s h
  refine x_Si (Rz := (r2, z3)) (As := [.int v1, .int 0, .int 3]) (rest := []) ⟨hx, hb, hml, hown, hts⟩ hK hP hS (m_X12_isIn hG   h1) (va_cwS 3 hts (gS lw_1827 lw_1828 lw_125 lw_1829) rfl rfl rfl (by decide +kernel) (rmd_ok (by decide) (by decide))) rfl hl.1 rfl (Nat.le_of_ble_eq_true rfl) dX12_next_3 ⟨Nat.le_refl _, Nat.le_refl _⟩ (fun H locs hP hS => ?_)
  refine lv_if_ne (tgt := 11) hx hb dX12_next_6 (by decide) (fun c4 => ?_) (fun c4 => ?_)
  · rw [if_neg c4] at h
    refine lv_iconst (v := (-1)) hx hb dX12_next_11 (by decide) ?_
    refine lv_istore_n (lv' := [(2, .int (-1)), (0, .ref (G.2.2 172)), (1, .int v1)]) hx hb dX12_next_12 rfl hl (by decide) rfl (fun ls hl => ?_)
    refine lv_iconst (v := 0) hx hb dX12_next_13 (by decide) ?_
    refine lv_istore_n (lv' := [(3, .int 0), (2, .int (-1)), (0, .ref (G.2.2 172)), (1, .int v1)]) hx hb dX12_next_14 rfl hl (by decide) rfl (fun ls hl => ?_)
    refine lv_iconst (v := 0) hx hb dX12_next_15 (by decide) ?_
    refine lv_istore (lv' := [(4, .int 0), (3, .int 0), (2, .int (-1)), (0, .ref (G.2.2 172)), (1, .int v1)]) hx hb dX12_next_16 hl (by decide) rfl (fun ls hl => ?_)
    exact pf_X12_next_18 C   fu v1 (-1) 0 0 z3  _ _ _ hP hS (lv_sub hl [3, 4, 2, 1, 0] rfl) h
  · rw [if_pos c4] at h
    refine lv_iconst (v := (-1)) hx hb dX12_next_9 (by decide) ?_
    exact x_iret hx hb hr hlocks hK hP hS h dX12_next_10
