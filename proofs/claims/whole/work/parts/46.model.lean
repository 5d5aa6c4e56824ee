def fn_X12_sized (v1 : Int32) (v2 : Int32) (z : St) : Option (Int32 × St) := bd (fn_X12_isIn  v1 1 64 z) (fun r2 z3 => (if r2 = 0 then some ((-1), z3) else bd (fn_X12_tell  0 v1 v2 z3) (fun r6 z7 => some (r6, z7))))
set_option maxHeartbeats 4000000 in
set_option maxRecDepth 100000 in
theorem m_X12_sized {l : Launch} {G : wG} (hG : Ok G) {v1 : Int32} {v2 : Int32} {z : St} {Rz : Int32 × St}  (h : fn_X12_sized  v1 v2 z = some Rz) : Met l yX12_sized (wsU yX12_sized cX12_sized 3 (some .int)) (rmd 2) (va_Pc [.ref (G.2.2 172), .int v1, .int v2] (Pre G z)) (va_Qi (fun r u => (r, u) = Rz) (Pre G) (AW G)) 0 0 (AW G) := by
  refine Met.ofW (cc := cX12_sized) (maxL := 3) (ret := (some .int)) (by decide) rfl ?_
  intro p e s m args below meth c s₁ B hml hv
  obtain ⟨rfl, hP, hK⟩ := hv
  have C : CX p s m ([.ref (G.2.2 172), .int v1, .int v2] : List Value).toArray meth c cX12_sized 3 (wsU yX12_sized cX12_sized 3 (some .int)) RX12 (some .int) G := ⟨B.exec, B.bytes, hml, findClass_of_methodNamed B.named, atoms_spec (ws := (wsU yX12_sized cX12_sized 3 (some .int))) B.pre, B.returns, B.notSynchronized, hK, hG⟩
  obtain ⟨hx, hb, -, hown, hts, hr, hlocks, -, -⟩ := id C
  have hS : va_S (AW G) s.heap s.heap [] := va_S.rf
  have hl := lv_entry [.ref (G.2.2 172), .int v1, .int v2] (n := 3) (Nat.le_of_ble_eq_true rfl)
  rw [lg_entry_eq]
  generalize (lg_sl [.ref (G.2.2 172), .int v1, .int v2] ++ List.replicate (3 - (lg_sl [.ref (G.2.2 172), .int v1, .int v2]).length) Slot.unset).toArray = ls at hl ⊢
  have hl : lv_has ls 3 [(0, .ref (G.2.2 172)), (1, .int v1), (2, .int v2)] := hl
  unfold fn_X12_sized at h
  refine lv_iload_n hx hb dX12_sized_0 rfl (lv_at hl 1 rfl) ?_
  refine lv_iconst (v := 1) hx hb dX12_sized_1 (by decide) ?_
  refine lv_bipush (v := 64) hx hb dX12_sized_2 (by decide) ?_
  obtain ⟨r2, z3, h1, h⟩ := bd_s h
  refine x_Si (Rz := (r2, z3)) (As := [.int v1, .int 1, .int 64]) (rest := []) ⟨hx, hb, hml, hown, hts⟩ hK hP hS (m_X12_isIn hG   h1) (va_cwS 3 hts (gS lw_1827 lw_1828 lw_125 lw_1829) rfl rfl rfl (by decide +kernel) (rmd_ok (by decide) (by decide))) rfl hl.1 rfl (Nat.le_of_ble_eq_true rfl) dX12_sized_4 ⟨Nat.le_refl _, Nat.le_refl _⟩ (fun H locs hP hS => ?_)
  refine lv_if_eq (tgt := 20) hx hb dX12_sized_7 (by decide) (fun c4 => ?_) (fun c4 => ?_)
  · rw [if_pos c4] at h
    refine lv_iconst (v := (-1)) hx hb dX12_sized_20 (by decide) ?_
    exact x_iret hx hb hr hlocks hK hP hS h dX12_sized_21
  · rw [if_neg c4] at h
    refine lv_aload_n hx hb dX12_sized_10 rfl (lv_at hl 0 rfl) ?_
    refine lv_iconst (v := 0) hx hb dX12_sized_11 (by decide) ?_
    refine lv_iload_n hx hb dX12_sized_12 rfl (lv_at hl 1 rfl) ?_
    refine lv_iload_n hx hb dX12_sized_13 rfl (lv_at hl 2 rfl) ?_
    obtain ⟨r6, z7, h5, h⟩ := bd_s h
    refine x_Vi (Rz := (r6, z7)) (As := [.int 0, .int v1, .int v2]) (rest := []) ⟨hx, hb, hml, hown, hts⟩ hK hP hS (kd_lt k_172 (by decide)) (cell_12 k_172) rfl (m_X12_tell hG   h5) (cwV 3 hts (gV lw_2088 lw_2090 lw_102 lw_125 lw_2091) rfl rfl rfl (by decide +kernel) (rmd_ok (by decide) (by decide))) rfl hl.1 rfl (Nat.le_of_ble_eq_true rfl) dX12_sized_14 ⟨Nat.le_refl _, Nat.le_refl _⟩ (fun H locs hP hS => ?_)
    refine lv_goto (tgt := 21) hx hb dX12_sized_17 (by decide) ?_
    exact x_iret hx hb hr hlocks hK hP hS h dX12_sized_21
def fn_X12_rimmed (v1 : Int32) (v2 : Int32) (z : St) : Option (Int32 × St) := bd (fn_X12_isIn  v1 0 32 z) (fun r2 z3 => (if r2 = 0 then some ((-1), z3) else bd (fn_X12_tell  1 v1 v2 z3) (fun r6 z7 => some (r6, z7))))
set_option maxHeartbeats 4000000 in
set_option maxRecDepth 100000 in
theorem m_X12_rimmed {l : Launch} {G : wG} (hG : Ok G) {v1 : Int32} {v2 : Int32} {z : St} {Rz : Int32 × St}  (h : fn_X12_rimmed  v1 v2 z = some Rz) : Met l yX12_rimmed (wsU yX12_rimmed cX12_rimmed 3 (some .int)) (rmd 2) (va_Pc [.ref (G.2.2 172), .int v1, .int v2] (Pre G z)) (va_Qi (fun r u => (r, u) = Rz) (Pre G) (AW G)) 0 0 (AW G) := by
  refine Met.ofW (cc := cX12_rimmed) (maxL := 3) (ret := (some .int)) (by decide) rfl ?_
  intro p e s m args below meth c s₁ B hml hv
  obtain ⟨rfl, hP, hK⟩ := hv
  have C : CX p s m ([.ref (G.2.2 172), .int v1, .int v2] : List Value).toArray meth c cX12_rimmed 3 (wsU yX12_rimmed cX12_rimmed 3 (some .int)) RX12 (some .int) G := ⟨B.exec, B.bytes, hml, findClass_of_methodNamed B.named, atoms_spec (ws := (wsU yX12_rimmed cX12_rimmed 3 (some .int))) B.pre, B.returns, B.notSynchronized, hK, hG⟩
  obtain ⟨hx, hb, -, hown, hts, hr, hlocks, -, -⟩ := id C
  have hS : va_S (AW G) s.heap s.heap [] := va_S.rf
  have hl := lv_entry [.ref (G.2.2 172), .int v1, .int v2] (n := 3) (Nat.le_of_ble_eq_true rfl)
  rw [lg_entry_eq]
  generalize (lg_sl [.ref (G.2.2 172), .int v1, .int v2] ++ List.replicate (3 - (lg_sl [.ref (G.2.2 172), .int v1, .int v2]).length) Slot.unset).toArray = ls at hl ⊢
  have hl : lv_has ls 3 [(0, .ref (G.2.2 172)), (1, .int v1), (2, .int v2)] := hl
  unfold fn_X12_rimmed at h
  refine lv_iload_n hx hb dX12_rimmed_0 rfl (lv_at hl 1 rfl) ?_
  refine lv_iconst (v := 0) hx hb dX12_rimmed_1 (by decide) ?_
  refine lv_bipush (v := 32) hx hb dX12_rimmed_2 (by decide) ?_
  obtain ⟨r2, z3, h1, h⟩ := bd_s h
  refine x_Si (Rz := (r2, z3)) (As := [.int v1, .int 0, .int 32]) (rest := []) ⟨hx, hb, hml, hown, hts⟩ hK hP hS (m_X12_isIn hG   h1) (va_cwS 3 hts (gS lw_1827 lw_1828 lw_125 lw_1829) rfl rfl rfl (by decide +kernel) (rmd_ok (by decide) (by decide))) rfl hl.1 rfl (Nat.le_of_ble_eq_true rfl) dX12_rimmed_4 ⟨Nat.le_refl _, Nat.le_refl _⟩ (fun H locs hP hS => ?_)
  refine lv_if_eq (tgt := 20) hx hb dX12_rimmed_7 (by decide) (fun c4 => ?_) (fun c4 => ?_)
  · rw [if_pos c4] at h
    refine lv_iconst (v := (-1)) hx hb dX12_rimmed_20 (by decide) ?_
    exact x_iret hx hb hr hlocks hK hP hS h dX12_rimmed_21
  · rw [if_neg c4] at h
    refine lv_aload_n hx hb dX12_rimmed_10 rfl (lv_at hl 0 rfl) ?_
    refine lv_iconst (v := 1) hx hb dX12_rimmed_11 (by decide) ?_
    refine lv_iload_n hx hb dX12_rimmed_12 rfl (lv_at hl 1 rfl) ?_
    refine lv_iload_n hx hb dX12_rimmed_13 rfl (lv_at hl 2 rfl) ?_
    obtain ⟨r6, z7, h5, h⟩ := bd_s h
    refine x_Vi (Rz := (r6, z7)) (As := [.int 1, .int v1, .int v2]) (rest := []) ⟨hx, hb, hml, hown, hts⟩ hK hP hS (kd_lt k_172 (by decide)) (cell_12 k_172) rfl (m_X12_tell hG   h5) (cwV 3 hts (gV lw_2088 lw_2090 lw_102 lw_125 lw_2091) rfl rfl rfl (by decide +kernel) (rmd_ok (by decide) (by decide))) rfl hl.1 rfl (Nat.le_of_ble_eq_true rfl) dX12_rimmed_14 ⟨Nat.le_refl _, Nat.le_refl _⟩ (fun H locs hP hS => ?_)
    refine lv_goto (tgt := 21) hx hb dX12_rimmed_17 (by decide) ?_
    exact x_iret hx hb hr hlocks hK hP hS h dX12_rimmed_21
def fn_X12_untell (v1 : Int32) (z : St) : Option (Int32 × St) := bd (fn_X12_isIn  v1 0 ((z.1 172 71) - 1) z) (fun r2 z3 => (if r2 = 0 then some (0, z3) else gd (ix v1 30) ((if (z3.1 209 (Int32.toNatClampNeg v1)) < 0 then gd (ix v1 30) (nm (sI z3 209 (Int32.toNatClampNeg v1) (z3.1 172 72)) (fun z8 => some (1, z8))) else some (0, z3)))))
set_option maxHeartbeats 4000000 in
set_option maxRecDepth 100000 in
theorem m_X12_untell {l : Launch} {G : wG} (hG : Ok G) {v1 : Int32} {z : St} {Rz : Int32 × St}  (h : fn_X12_untell  v1 z = some Rz) : Met l yX12_untell (wsU yX12_untell cX12_untell 2 (some .boolean)) (rmd 2) (va_Pc [.ref (G.2.2 172), .int v1] (Pre G z)) (va_Qi (fun r u => (r, u) = Rz) (Pre G) (AW G)) 0 0 (AW G) := by
  refine Met.ofW (cc := cX12_untell) (maxL := 2) (ret := (some .boolean)) (by decide) rfl ?_
  intro p e s m args below meth c s₁ B hml hv
  obtain ⟨rfl, hP, hK⟩ := hv
  have C : CX p s m ([.ref (G.2.2 172), .int v1] : List Value).toArray meth c cX12_untell 2 (wsU yX12_untell cX12_untell 2 (some .boolean)) RX12 (some .boolean) G := ⟨B.exec, B.bytes, hml, findClass_of_methodNamed B.named, atoms_spec (ws := (wsU yX12_untell cX12_untell 2 (some .boolean))) B.pre, B.returns, B.notSynchronized, hK, hG⟩
  obtain ⟨hx, hb, -, hown, hts, hr, hlocks, -, -⟩ := id C
  have hS : va_S (AW G) s.heap s.heap [] := va_S.rf
  have hl := lv_entry [.ref (G.2.2 172), .int v1] (n := 2) (Nat.le_of_ble_eq_true rfl)
  rw [lg_entry_eq]
  generalize (lg_sl [.ref (G.2.2 172), .int v1] ++ List.replicate (2 - (lg_sl [.ref (G.2.2 172), .int v1]).length) Slot.unset).toArray = ls at hl ⊢
  have hl : lv_has ls 2 [(0, .ref (G.2.2 172)), (1, .int v1)] := hl
  unfold fn_X12_untell at h
  refine lv_iload_n hx hb dX12_untell_0 rfl (lv_at hl 1 rfl) ?_
  refine lv_iconst (v := 0) hx hb dX12_untell_1 (by decide) ?_
  refine lv_aload_n hx hb dX12_untell_2 rfl (lv_at hl 0 rfl) ?_
  refine ge_12_71 hx hb hts (inU inW_X12) hown hK hP k_172 (hts _ (List.mem_cons_of_mem _ lw_1505)) dX12_untell_3 ?_
  refine lv_iconst (v := 1) hx hb dX12_untell_6 (by decide) ?_
  refine lv_isub hx hb dX12_untell_7 ?_
  obtain ⟨r2, z3, h1, h⟩ := bd_s h
  refine x_Si (Rz := (r2, z3)) (As := [.int v1, .int 0, .int ((z.1 172 71) - 1)]) (rest := []) ⟨hx, hb, hml, hown, hts⟩ hK hP hS (m_X12_isIn hG   h1) (va_cwS 3 hts (gS lw_1827 lw_1828 lw_125 lw_1829) rfl rfl rfl (by decide +kernel) (rmd_ok (by decide) (by decide))) rfl hl.1 rfl (Nat.le_of_ble_eq_true rfl) dX12_untell_8 ⟨Nat.le_refl _, Nat.le_refl _⟩ (fun H locs hP hS => ?_)
  refine lv_if_eq (tgt := 23) hx hb dX12_untell_11 (by decide) (fun c4 => ?_) (fun c4 => ?_)
  · rw [if_pos c4] at h
    refine lv_iconst (v := 0) hx hb dX12_untell_23 (by decide) ?_
    exact x_zret hx hb hr hlocks hK hP hS rfl h dX12_untell_24
  · rw [if_neg c4] at h
    refine lv_aload_n hx hb dX12_untell_14 rfl (lv_at hl 0 rfl) ?_
    refine ge_12_69 hx hb hts (inU inW_X12) hown hK hP k_172 (hts _ (List.mem_cons_of_mem _ lw_1503)) dX12_untell_15 ?_
    refine lv_iload_n hx hb dX12_untell_18 rfl (lv_at hl 1 rfl) ?_
    obtain ⟨g5, h⟩ := gd_s h
    refine xl_14 hx hb hK hP k_209 l_209 (ix_in g5) dX12_untell_19 ?_
    refine lv_if_lt (tgt := 25) hx hb dX12_untell_20 (by decide) (fun c6 => ?_) (fun c6 => ?_)
    · rw [if_pos c6] at h
      refine lv_aload_n hx hb dX12_untell_25 rfl (lv_at hl 0 rfl) ?_
      refine ge_12_69 hx hb hts (inU inW_X12) hown hK hP k_172 (hts _ (List.mem_cons_of_mem _ lw_1503)) dX12_untell_26 ?_
      refine lv_iload_n hx hb dX12_untell_29 rfl (lv_at hl 1 rfl) ?_
      refine lv_aload_n hx hb dX12_untell_30 rfl (lv_at hl 0 rfl) ?_
      refine ge_12_72 hx hb hts (inU inW_X12) hown hK hP k_172 (hts _ (List.mem_cons_of_mem _ lw_1506)) dX12_untell_31 ?_
      obtain ⟨g7, h⟩ := gd_s h
      obtain ⟨z8, e_z8, h⟩ := nm_s h
      refine xs_14 hx hb hK hG hP hS k_209 l_209 (ix_in g7) dX12_untell_34 (fun H locs hP hS => ?_)
      rw [← e_z8] at hP
      refine lv_iconst (v := 1) hx hb dX12_untell_35 (by decide) ?_
      exact x_zret hx hb hr hlocks hK hP hS rfl h dX12_untell_36
    · rw [if_neg c6] at h
      refine lv_iconst (v := 0) hx hb dX12_untell_23 (by decide) ?_
      exact x_zret hx hb hr hlocks hK hP hS rfl h dX12_untell_24
def fn_X12_later (v1 : Int32) (z : St) : Option (Int32 × St) := (if v1 < 0 then some ((-1), z) else (if 1000 < v1 then some ((-1), z) else (if ((z.1 172 72) + v1) ≤ 100000 then nm (sI z 172 72 ((z.1 172 72) + v1)) (fun z4 => some ((z4.1 172 72), z4)) else some ((-1), z))))
set_option maxHeartbeats 4000000 in
set_option maxRecDepth 100000 in
theorem m_X12_later {l : Launch} {G : wG} (hG : Ok G) {v1 : Int32} {z : St} {Rz : Int32 × St}  (h : fn_X12_later  v1 z = some Rz) : Met l yX12_later (wsU yX12_later cX12_later 2 (some .int)) (rmd 1) (va_Pc [.ref (G.2.2 172), .int v1] (Pre G z)) (va_Qi (fun r u => (r, u) = Rz) (Pre G) (AW G)) 0 0 (AW G) := by
  refine Met.ofW (cc := cX12_later) (maxL := 2) (ret := (some .int)) (by decide) rfl ?_
  intro p e s m args below meth c s₁ B hml hv
  obtain ⟨rfl, hP, hK⟩ := hv
  have C : CX p s m ([.ref (G.2.2 172), .int v1] : List Value).toArray meth c cX12_later 2 (wsU yX12_later cX12_later 2 (some .int)) RX12 (some .int) G := ⟨B.exec, B.bytes, hml, findClass_of_methodNamed B.named, atoms_spec (ws := (wsU yX12_later cX12_later 2 (some .int))) B.pre, B.returns, B.notSynchronized, hK, hG⟩
  obtain ⟨hx, hb, -, hown, hts, hr, hlocks, -, -⟩ := id C
  have hS : va_S (AW G) s.heap s.heap [] := va_S.rf
  have hl := lv_entry [.ref (G.2.2 172), .int v1] (n := 2) (Nat.le_of_ble_eq_true rfl)
  rw [lg_entry_eq]
  generalize (lg_sl [.ref (G.2.2 172), .int v1] ++ List.replicate (2 - (lg_sl [.ref (G.2.2 172), .int v1]).length) Slot.unset).toArray = ls at hl ⊢
  have hl : lv_has ls 2 [(0, .ref (G.2.2 172)), (1, .int v1)] := hl
  unfold fn_X12_later at h
  refine lv_iload_n hx hb dX12_later_0 rfl (lv_at hl 1 rfl) ?_
  refine lv_if_lt (tgt := 23) hx hb dX12_later_1 (by decide) (fun c1 => ?_) (fun c1 => ?_)
  · rw [if_pos c1] at h
    refine lv_iconst (v := (-1)) hx hb dX12_later_23 (by decide) ?_
    exact x_iret hx hb hr hlocks hK hP hS h dX12_later_24
  · rw [if_neg c1] at h
    refine lv_iload_n hx hb dX12_later_4 rfl (lv_at hl 1 rfl) ?_
    refine lv_sipush (v := 1000) hx hb dX12_later_5 (by decide) ?_
    refine lv_icmp_gt (tgt := 23) hx hb dX12_later_8 (by decide) (fun c2 => ?_) (fun c2 => ?_)
    · rw [if_pos c2] at h
      refine lv_iconst (v := (-1)) hx hb dX12_later_23 (by decide) ?_
      exact x_iret hx hb hr hlocks hK hP hS h dX12_later_24
    · rw [if_neg c2] at h
      refine lv_aload_n hx hb dX12_later_11 rfl (lv_at hl 0 rfl) ?_
      refine ge_12_72 hx hb hts (inU inW_X12) hown hK hP k_172 (hts _ (List.mem_cons_of_mem _ lw_1506)) dX12_later_12 ?_
      refine lv_iload_n hx hb dX12_later_15 rfl (lv_at hl 1 rfl) ?_
      refine lv_iadd hx hb dX12_later_16 ?_
      refine lv_ldcw (v := 100000) hx hb hown (hts _ (List.mem_cons_of_mem _ lw_2104)) dX12_later_17 ?_
      refine lv_icmp_le (tgt := 25) hx hb dX12_later_20 (by decide) (fun c3 => ?_) (fun c3 => ?_)
      · rw [if_pos c3] at h
        refine lv_aload_n hx hb dX12_later_25 rfl (lv_at hl 0 rfl) ?_
        refine lv_dup hx hb dX12_later_26 rfl ?_
        refine ge_12_72 hx hb hts (inU inW_X12) hown hK hP k_172 (hts _ (List.mem_cons_of_mem _ lw_1506)) dX12_later_27 ?_
        refine lv_iload_n hx hb dX12_later_30 rfl (lv_at hl 1 rfl) ?_
        refine lv_iadd hx hb dX12_later_31 ?_
        obtain ⟨z4, e_z4, h⟩ := nm_s h
        refine pu_12_72 hx hb hts (inU inW_X12) hown hK hG hP hS k_172 (hts _ (List.mem_cons_of_mem _ lw_1506)) dX12_later_32 (fun H locs hP hS => ?_)
        rw [← e_z4] at hP
        refine lv_aload_n hx hb dX12_later_35 rfl (lv_at hl 0 rfl) ?_
        refine ge_12_72 hx hb hts (inU inW_X12) hown hK hP k_172 (hts _ (List.mem_cons_of_mem _ lw_1506)) dX12_later_36 ?_
        exact x_iret hx hb hr hlocks hK hP hS h dX12_later_39
      · rw [if_neg c3] at h
        refine lv_iconst (v := (-1)) hx hb dX12_later_23 (by decide) ?_
        exact x_iret hx hb hr hlocks hK hP hS h dX12_later_24
def fn_X12_hasIcing_46 (k6 : Int32 → Int32 → Int32 → Int32 → Int32 → St → Option (Int32 × St)) (k15 : Int32 → Int32 → Int32 → Int32 → Int32 → Int32 → St → Option (Int32 × St)) (v1 : Int32) (v2 : Int32) (v3 : Int32) (v5 : Int32) (v6 : Int32) (tv0 : Int32) (z : St) : Option (Int32 × St) := k15 v1 v2 v3 tv0 v5 (v6 + 1) z
set_option maxHeartbeats 4000000 in
set_option maxRecDepth 100000 in
theorem pf_X12_hasIcing_46 {p : Program} {l : Launch} {e : Env} {s : State} {m : MethodId} {args : Array Value} {below : List Frame} {meth : Method} {c : Code} {G : wG} (C : CX p s m args meth c cX12_hasIcing 7 (wsU yX12_hasIcing cX12_hasIcing 7 (some .boolean)) RX12 (some .boolean) G) {Rz : Int32 × St} {k6 : Int32 → Int32 → Int32 → Int32 → Int32 → St → Option (Int32 × St)} {k15 : Int32 → Int32 → Int32 → Int32 → Int32 → Int32 → St → Option (Int32 × St)} (hk_6 : ∀ (v1 : Int32) (v2 : Int32) (v3 : Int32) (v4 : Int32) (v5 : Int32) (z : St)  (H : Heap) (locs : List Loc) (ls : Array Slot), WP G z H → va_S (AW G) s.heap H locs → lv_has ls 7 [(0, .ref (G.2.2 172)), (1, .int v1), (2, .int v2), (3, .int v3), (4, .int v4), (5, .int v5)] → k6 v1 v2 v3 v4 v5 z = some Rz → W p l e (rmd 3) s m args below meth c H locs 0 0 (QI below args s G Rz) (F0 m 6 ls [])) (hk_15 : ∀ (v1 : Int32) (v2 : Int32) (v3 : Int32) (v4 : Int32) (v5 : Int32) (v6 : Int32) (z : St)  (H : Heap) (locs : List Loc) (ls : Array Slot), WP G z H → va_S (AW G) s.heap H locs → lv_has ls 7 [(0, .ref (G.2.2 172)), (1, .int v1), (2, .int v2), (3, .int v3), (4, .int v4), (5, .int v5), (6, .int v6)] → k15 v1 v2 v3 v4 v5 v6 z = some Rz → W p l e (rmd 3) s m args below meth c H locs 0 0 (QI below args s G Rz) (F0 m 15 ls [])) (v1 : Int32) (v2 : Int32) (v3 : Int32) (v5 : Int32) (v6 : Int32) (tv0 : Int32) (z : St)  {H : Heap} {locs : List Loc} {ls : Array Slot} (hP : WP G z H) (hS : va_S (AW G) s.heap H locs) (hl : lv_has ls 7 [(0, .ref (G.2.2 172)), (1, .int v1), (2, .int v2), (3, .int v3), (5, .int v5), (6, .int v6)]) (h : fn_X12_hasIcing_46  k6 k15 v1 v2 v3 v5 v6 tv0 z = some Rz) : W p l e (rmd 3) s m args below meth c H locs 0 0 (QI below args s G Rz) (F0 m 46 ls [.int tv0]) := by
  obtain ⟨hx, hb, hml, hown, hts, hr, hlocks, hK, hG⟩ := id C
  unfold fn_X12_hasIcing_46 at h
  refine lv_istore (lv' := [(4, .int tv0), (0, .ref (G.2.2 172)), (1, .int v1), (2, .int v2), (3, .int v3), (5, .int v5), (6, .int v6)]) hx hb dX12_hasIcing_46 hl (by decide) rfl (fun ls hl => ?_)
  refine lv_iinc (v := (v6 + 1)) (lv' := [(6, .int (v6 + 1)), (4, .int tv0), (0, .ref (G.2.2 172)), (1, .int v1), (2, .int v2), (3, .int v3), (5, .int v5)]) hx hb dX12_hasIcing_48 hl (k := 6) rfl rfl (by decide) rfl (fun ls hl => ?_)
  refine lv_goto (tgt := 15) hx hb dX12_hasIcing_51 (by decide) ?_
  exact hk_15 v1 v2 v3 tv0 v5 (v6 + 1) z  _ _ _ hP hS (lv_sub hl [2, 3, 4, 5, 1, 6, 0] rfl) h
def fn_X12_hasIcing_41 (k6 : Int32 → Int32 → Int32 → Int32 → Int32 → St → Option (Int32 × St)) (k15 : Int32 → Int32 → Int32 → Int32 → Int32 → Int32 → St → Option (Int32 × St)) (v1 : Int32) (v2 : Int32) (v3 : Int32) (v5 : Int32) (v6 : Int32) (z : St) : Option (Int32 × St) := fn_X12_hasIcing_46  k6 k15 v1 v2 v3 v5 v6 1 z
set_option maxHeartbeats 4000000 in
set_option maxRecDepth 100000 in
theorem pf_X12_hasIcing_41 {p : Program} {l : Launch} {e : Env} {s : State} {m : MethodId} {args : Array Value} {below : List Frame} {meth : Method} {c : Code} {G : wG} (C : CX p s m args meth c cX12_hasIcing 7 (wsU yX12_hasIcing cX12_hasIcing 7 (some .boolean)) RX12 (some .boolean) G) {Rz : Int32 × St} {k6 : Int32 → Int32 → Int32 → Int32 → Int32 → St → Option (Int32 × St)} {k15 : Int32 → Int32 → Int32 → Int32 → Int32 → Int32 → St → Option (Int32 × St)} (hk_6 : ∀ (v1 : Int32) (v2 : Int32) (v3 : Int32) (v4 : Int32) (v5 : Int32) (z : St)  (H : Heap) (locs : List Loc) (ls : Array Slot), WP G z H → va_S (AW G) s.heap H locs → lv_has ls 7 [(0, .ref (G.2.2 172)), (1, .int v1), (2, .int v2), (3, .int v3), (4, .int v4), (5, .int v5)] → k6 v1 v2 v3 v4 v5 z = some Rz → W p l e (rmd 3) s m args below meth c H locs 0 0 (QI below args s G Rz) (F0 m 6 ls [])) (hk_15 : ∀ (v1 : Int32) (v2 : Int32) (v3 : Int32) (v4 : Int32) (v5 : Int32) (v6 : Int32) (z : St)  (H : Heap) (locs : List Loc) (ls : Array Slot), WP G z H → va_S (AW G) s.heap H locs → lv_has ls 7 [(0, .ref (G.2.2 172)), (1, .int v1), (2, .int v2), (3, .int v3), (4, .int v4), (5, .int v5), (6, .int v6)] → k15 v1 v2 v3 v4 v5 v6 z = some Rz → W p l e (rmd 3) s m args below meth c H locs 0 0 (QI below args s G Rz) (F0 m 15 ls [])) (v1 : Int32) (v2 : Int32) (v3 : Int32) (v5 : Int32) (v6 : Int32) (z : St)  {H : Heap} {locs : List Loc} {ls : Array Slot} (hP : WP G z H) (hS : va_S (AW G) s.heap H locs) (hl : lv_has ls 7 [(0, .ref (G.2.2 172)), (1, .int v1), (2, .int v2), (3, .int v3), (5, .int v5), (6, .int v6)]) (h : fn_X12_hasIcing_41  k6 k15 v1 v2 v3 v5 v6 z = some Rz) : W p l e (rmd 3) s m args below meth c H locs 0 0 (QI below args s G Rz) (F0 m 41 ls []) := by
  obtain ⟨hx, hb, hml, hown, hts, hr, hlocks, hK, hG⟩ := id C
  unfold fn_X12_hasIcing_41 at h
  refine lv_iconst (v := 1) hx hb dX12_hasIcing_41 (by decide) ?_
  refine lv_goto (tgt := 46) hx hb dX12_hasIcing_42 (by decide) ?_
  exact pf_X12_hasIcing_46 C  hk_6 hk_15 v1 v2 v3 v5 v6 1 z  hP hS (lv_sub hl [0, 1, 2, 3, 4, 5] rfl) h
def fn_X12_hasIcing_15 (k6 : Int32 → Int32 → Int32 → Int32 → Int32 → St → Option (Int32 × St)) : Nat → Int32 → Int32 → Int32 → Int32 → Int32 → Int32 → St → Option (Int32 × St)
  | 0, _, _, _, _, _, _, _ => none
  | n + 1, v1, v2, v3, v4, v5, v6, z => (if v2 ≤ v6 then k6 v1 v2 v3 v4 (v5 + 1) z else (if v4 = 0 then bd (fn_X12_gridIcing  0 v1 v2 v5 v6 z) (fun r4 z5 => (if r4 = v3 then fn_X12_hasIcing_41  k6 (fn_X12_hasIcing_15  k6 n) v1 v2 v3 v5 v6 z5 else fn_X12_hasIcing_46  k6 (fn_X12_hasIcing_15  k6 n) v1 v2 v3 v5 v6 0 z5)) else fn_X12_hasIcing_41  k6 (fn_X12_hasIcing_15  k6 n) v1 v2 v3 v5 v6 z))
set_option maxHeartbeats 4000000 in
set_option maxRecDepth 100000 in
theorem pf_X12_hasIcing_15 {p : Program} {l : Launch} {e : Env} {s : State} {m : MethodId} {args : Array Value} {below : List Frame} {meth : Method} {c : Code} {G : wG} (C : CX p s m args meth c cX12_hasIcing 7 (wsU yX12_hasIcing cX12_hasIcing 7 (some .boolean)) RX12 (some .boolean) G) {Rz : Int32 × St} {k6 : Int32 → Int32 → Int32 → Int32 → Int32 → St → Option (Int32 × St)} (hk_6 : ∀ (v1 : Int32) (v2 : Int32) (v3 : Int32) (v4 : Int32) (v5 : Int32) (z : St)  (H : Heap) (locs : List Loc) (ls : Array Slot), WP G z H → va_S (AW G) s.heap H locs → lv_has ls 7 [(0, .ref (G.2.2 172)), (1, .int v1), (2, .int v2), (3, .int v3), (4, .int v4), (5, .int v5)] → k6 v1 v2 v3 v4 v5 z = some Rz → W p l e (rmd 3) s m args below meth c H locs 0 0 (QI below args s G Rz) (F0 m 6 ls [])) : ∀ (n : Nat) (v1 : Int32) (v2 : Int32) (v3 : Int32) (v4 : Int32) (v5 : Int32) (v6 : Int32) (z : St)  (H : Heap) (locs : List Loc) (ls : Array Slot), WP G z H → va_S (AW G) s.heap H locs → lv_has ls 7 [(0, .ref (G.2.2 172)), (1, .int v1), (2, .int v2), (3, .int v3), (4, .int v4), (5, .int v5), (6, .int v6)] → fn_X12_hasIcing_15  k6 n v1 v2 v3 v4 v5 v6 z = some Rz → W p l e (rmd 3) s m args below meth c H locs 0 0 (QI below args s G Rz) (F0 m 15 ls []) := by
  obtain ⟨hx, hb, hml, hown, hts, hr, hlocks, hK, hG⟩ := id C
  intro n
  induction n with
  | zero => intro v1 v2 v3 v4 v5 v6 z  H locs ls hP hS hl h; cases h
  | succ n ih =>
    intro v1 v2 v3 v4 v5 v6 z  H locs ls hP hS hl h
    rw [fn_X12_hasIcing_15] at h
    refine lv_iload hx hb dX12_hasIcing_15 (lv_at hl 6 rfl) ?_
    refine lv_iload_n hx hb dX12_hasIcing_17 rfl (lv_at hl 2 rfl) ?_
    refine lv_icmp_ge (tgt := 54) hx hb dX12_hasIcing_18 (by decide) (fun c1 => ?_) (fun c1 => ?_)
    · rw [if_pos c1] at h
      refine lv_iinc (v := (v5 + 1)) (lv' := [(5, .int (v5 + 1)), (0, .ref (G.2.2 172)), (1, .int v1), (2, .int v2), (3, .int v3), (4, .int v4), (6, .int v6)]) hx hb dX12_hasIcing_54 hl (k := 5) rfl rfl (by decide) rfl (fun ls hl => ?_)
      refine lv_goto (tgt := 6) hx hb dX12_hasIcing_57 (by decide) ?_
      exact hk_6 v1 v2 v3 v4 (v5 + 1) z  _ _ _ hP hS (lv_sub hl [1, 2, 3, 4, 5, 0] rfl) h
    · rw [if_neg c1] at h
      refine lv_iload hx hb dX12_hasIcing_21 (lv_at hl 4 rfl) ?_
      refine lv_if_ne (tgt := 41) hx hb dX12_hasIcing_23 (by decide) (fun c2 => ?_) (fun c2 => ?_)
      · rw [if_neg c2] at h
        exact pf_X12_hasIcing_41 C  hk_6 ih v1 v2 v3 v5 v6 z  hP hS (lv_sub hl [0, 1, 2, 3, 5, 6] rfl) h
      · rw [if_pos c2] at h
        refine lv_aload_n hx hb dX12_hasIcing_26 rfl (lv_at hl 0 rfl) ?_
        refine lv_iconst (v := 0) hx hb dX12_hasIcing_27 (by decide) ?_
        refine lv_iload_n hx hb dX12_hasIcing_28 rfl (lv_at hl 1 rfl) ?_
        refine lv_iload_n hx hb dX12_hasIcing_29 rfl (lv_at hl 2 rfl) ?_
        refine lv_iload hx hb dX12_hasIcing_30 (lv_at hl 5 rfl) ?_
        refine lv_iload hx hb dX12_hasIcing_32 (lv_at hl 6 rfl) ?_
        obtain ⟨r4, z5, h3, h⟩ := bd_s h
        refine x_Vi (Rz := (r4, z5)) (As := [.int 0, .int v1, .int v2, .int v5, .int v6]) (rest := []) ⟨hx, hb, hml, hown, hts⟩ hK hP hS (kd_lt k_172 (by decide)) (cell_12 k_172) rfl (m_X12_gridIcing hG   h3) (cwV 5 hts (gV lw_2028 lw_2030 lw_100 lw_125 lw_2031) rfl rfl rfl (by decide +kernel) (rmd_ok (by decide) (by decide))) rfl hl.1 rfl (Nat.le_of_ble_eq_true rfl) dX12_hasIcing_34 ⟨Nat.le_refl _, Nat.le_refl _⟩ (fun H locs hP hS => ?_)
        refine lv_iload_n hx hb dX12_hasIcing_37 rfl (lv_at hl 3 rfl) ?_
        refine lv_icmp_ne (tgt := 45) hx hb dX12_hasIcing_38 (by decide) (fun c6 => ?_) (fun c6 => ?_)
        · rw [if_neg c6] at h
          refine lv_iconst (v := 0) hx hb dX12_hasIcing_45 (by decide) ?_
          exact pf_X12_hasIcing_46 C  hk_6 ih v1 v2 v3 v5 v6 0 z5  hP hS (lv_sub hl [0, 1, 2, 3, 5, 6] rfl) h
        · rw [if_pos c6] at h
          exact pf_X12_hasIcing_41 C  hk_6 ih v1 v2 v3 v5 v6 z5  hP hS (lv_sub hl [0, 1, 2, 3, 5, 6] rfl) h
def fn_X12_hasIcing_6 : Nat → Int32 → Int32 → Int32 → Int32 → Int32 → St → Option (Int32 × St)
  | 0, _, _, _, _, _, _ => none
  | n + 1, v1, v2, v3, v4, v5, z => (if v1 ≤ v5 then gd (zok v4) (some (v4, z)) else fn_X12_hasIcing_15  (fn_X12_hasIcing_6   n) fu v1 v2 v3 v4 v5 0 z)
set_option maxHeartbeats 4000000 in
set_option maxRecDepth 100000 in
theorem pf_X12_hasIcing_6 {p : Program} {l : Launch} {e : Env} {s : State} {m : MethodId} {args : Array Value} {below : List Frame} {meth : Method} {c : Code} {G : wG} (C : CX p s m args meth c cX12_hasIcing 7 (wsU yX12_hasIcing cX12_hasIcing 7 (some .boolean)) RX12 (some .boolean) G) {Rz : Int32 × St} : ∀ (n : Nat) (v1 : Int32) (v2 : Int32) (v3 : Int32) (v4 : Int32) (v5 : Int32) (z : St)  (H : Heap) (locs : List Loc) (ls : Array Slot), WP G z H → va_S (AW G) s.heap H locs → lv_has ls 7 [(0, .ref (G.2.2 172)), (1, .int v1), (2, .int v2), (3, .int v3), (4, .int v4), (5, .int v5)] → fn_X12_hasIcing_6   n v1 v2 v3 v4 v5 z = some Rz → W p l e (rmd 3) s m args below meth c H locs 0 0 (QI below args s G Rz) (F0 m 6 ls []) := by
  obtain ⟨hx, hb, hml, hown, hts, hr, hlocks, hK, hG⟩ := id C
  intro n
  induction n with
  | zero => intro v1 v2 v3 v4 v5 z  H locs ls hP hS hl h; cases h
  | succ n ih =>
    intro v1 v2 v3 v4 v5 z  H locs ls hP hS hl h
    rw [fn_X12_hasIcing_6] at h
    refine lv_iload hx hb dX12_hasIcing_6 (lv_at hl 5 rfl) ?_
    refine lv_iload_n hx hb dX12_hasIcing_8 rfl (lv_at hl 1 rfl) ?_
    refine lv_icmp_ge (tgt := 60) hx hb dX12_hasIcing_9 (by decide) (fun c1 => ?_) (fun c1 => ?_)
    · rw [if_pos c1] at h
      refine lv_iload hx hb dX12_hasIcing_60 (lv_at hl 4 rfl) ?_
      obtain ⟨g2, h⟩ := gd_s h
      exact x_zret hx hb hr hlocks hK hP hS g2 h dX12_hasIcing_62
    · rw [if_neg c1] at h
      refine lv_iconst (v := 0) hx hb dX12_hasIcing_12 (by decide) ?_
      refine lv_istore (lv' := [(6, .int 0), (0, .ref (G.2.2 172)), (1, .int v1), (2, .int v2), (3, .int v3), (4, .int v4), (5, .int v5)]) hx hb dX12_hasIcing_13 hl (by decide) rfl (fun ls hl => ?_)
      exact pf_X12_hasIcing_15 C  ih fu v1 v2 v3 v4 v5 0 z  _ _ _ hP hS (lv_sub hl [1, 2, 3, 4, 5, 6, 0] rfl) h
def fn_X12_hasIcing (v1 : Int32) (v2 : Int32) (v3 : Int32) (z : St) : Option (Int32 × St) := fn_X12_hasIcing_6   fu v1 v2 v3 0 0 z
set_option maxHeartbeats 4000000 in
set_option maxRecDepth 100000 in
theorem m_X12_hasIcing {l : Launch} {G : wG} (hG : Ok G) {v1 : Int32} {v2 : Int32} {v3 : Int32} {z : St} {Rz : Int32 × St}  (h : fn_X12_hasIcing  v1 v2 v3 z = some Rz) : Met l yX12_hasIcing (wsU yX12_hasIcing cX12_hasIcing 7 (some .boolean)) (rmd 3) (va_Pc [.ref (G.2.2 172), .int v1, .int v2, .int v3] (Pre G z)) (va_Qi (fun r u => (r, u) = Rz) (Pre G) (AW G)) 0 0 (AW G) := by
  refine Met.ofW (cc := cX12_hasIcing) (maxL := 7) (ret := (some .boolean)) (by decide) rfl ?_
  intro p e s m args below meth c s₁ B hml hv
  obtain ⟨rfl, hP, hK⟩ := hv
  have C : CX p s m ([.ref (G.2.2 172), .int v1, .int v2, .int v3] : List Value).toArray meth c cX12_hasIcing 7 (wsU yX12_hasIcing cX12_hasIcing 7 (some .boolean)) RX12 (some .boolean) G := ⟨B.exec, B.bytes, hml, findClass_of_methodNamed B.named, atoms_spec (ws := (wsU yX12_hasIcing cX12_hasIcing 7 (some .boolean))) B.pre, B.returns, B.notSynchronized, hK, hG⟩
  obtain ⟨hx, hb, -, hown, hts, hr, hlocks, -, -⟩ := id C
  have hS : va_S (AW G) s.heap s.heap [] := va_S.rf
  have hl := lv_entry [.ref (G.2.2 172), .int v1, .int v2, .int v3] (n := 7) (Nat.le_of_ble_eq_true rfl)
  rw [lg_entry_eq]
  generalize (lg_sl [.ref (G.2.2 172), .int v1, .int v2, .int v3] ++ List.replicate (7 - (lg_sl [.ref (G.2.2 172), .int v1, .int v2, .int v3]).length) Slot.unset).toArray = ls at hl ⊢
  have hl : lv_has ls 7 [(0, .ref (G.2.2 172)), (1, .int v1), (2, .int v2), (3, .int v3)] := hl
  unfold fn_X12_hasIcing at h
  refine lv_iconst (v := 0) hx hb dX12_hasIcing_0 (by decide) ?_
  refine lv_istore (lv' := [(4, .int 0), (0, .ref (G.2.2 172)), (1, .int v1), (2, .int v2), (3, .int v3)]) hx hb dX12_hasIcing_1 hl (by decide) rfl (fun ls hl => ?_)
  refine lv_iconst (v := 0) hx hb dX12_hasIcing_3 (by decide) ?_
  refine lv_istore (lv' := [(5, .int 0), (4, .int 0), (0, .ref (G.2.2 172)), (1, .int v1), (2, .int v2), (3, .int v3)]) hx hb dX12_hasIcing_4 hl (by decide) rfl (fun ls hl => ?_)
  exact pf_X12_hasIcing_6 C   fu v1 v2 v3 0 0 z  _ _ _ hP hS (lv_sub hl [2, 3, 4, 5, 1, 0] rfl) h
def fn_X12_isSo (v1 : Int32) (v2 : Int32) (v3 : Int32) (z : St) : Option (Int32 × St) := gd (ix v1 30) ((if (z.1 206 (Int32.toNatClampNeg v1)) = 0 then gd (v2 != 0) (gd (v3 != 0) (gd (ix v1 30) ((if (((z.1 188 (Int32.toNatClampNeg 0)) / v2) * ((z.1 189 (Int32.toNatClampNeg 0)) / v3)) = (z.1 207 (Int32.toNatClampNeg v1)) then some (1, z) else some (0, z))))) else gd (ix v1 30) (bd (fn_X12_hasIcing  v2 v3 (z.1 207 (Int32.toNatClampNeg v1)) z) (fun r5 z6 => gd (zok r5) (some (r5, z6))))))
set_option maxHeartbeats 4000000 in
set_option maxRecDepth 100000 in
theorem m_X12_isSo {l : Launch} {G : wG} (hG : Ok G) {v1 : Int32} {v2 : Int32} {v3 : Int32} {z : St} {Rz : Int32 × St}  (h : fn_X12_isSo  v1 v2 v3 z = some Rz) : Met l yX12_isSo (wsU yX12_isSo cX12_isSo 4 (some .boolean)) (rmd 4) (va_Pc [.ref (G.2.2 172), .int v1, .int v2, .int v3] (Pre G z)) (va_Qi (fun r u => (r, u) = Rz) (Pre G) (AW G)) 0 0 (AW G) := by
  refine Met.ofW (cc := cX12_isSo) (maxL := 4) (ret := (some .boolean)) (by decide) rfl ?_
  intro p e s m args below meth c s₁ B hml hv
  obtain ⟨rfl, hP, hK⟩ := hv
  have C : CX p s m ([.ref (G.2.2 172), .int v1, .int v2, .int v3] : List Value).toArray meth c cX12_isSo 4 (wsU yX12_isSo cX12_isSo 4 (some .boolean)) RX12 (some .boolean) G := ⟨B.exec, B.bytes, hml, findClass_of_methodNamed B.named, atoms_spec (ws := (wsU yX12_isSo cX12_isSo 4 (some .boolean))) B.pre, B.returns, B.notSynchronized, hK, hG⟩
  obtain ⟨hx, hb, -, hown, hts, hr, hlocks, -, -⟩ := id C
  have hS : va_S (AW G) s.heap s.heap [] := va_S.rf
  have hl := lv_entry [.ref (G.2.2 172), .int v1, .int v2, .int v3] (n := 4) (Nat.le_of_ble_eq_true rfl)
  rw [lg_entry_eq]
  generalize (lg_sl [.ref (G.2.2 172), .int v1, .int v2, .int v3] ++ List.replicate (4 - (lg_sl [.ref (G.2.2 172), .int v1, .int v2, .int v3]).length) Slot.unset).toArray = ls at hl ⊢
  have hl : lv_has ls 4 [(0, .ref (G.2.2 172)), (1, .int v1), (2, .int v2), (3, .int v3)] := hl
  unfold fn_X12_isSo at h
  refine lv_aload_n hx hb dX12_isSo_0 rfl (lv_at hl 0 rfl) ?_
  refine ge_12_66 hx hb hts (inU inW_X12) hown hK hP k_172 (hts _ (List.mem_cons_of_mem _ lw_1500)) dX12_isSo_1 ?_
  refine lv_iload_n hx hb dX12_isSo_4 rfl (lv_at hl 1 rfl) ?_
  obtain ⟨g1, h⟩ := gd_s h
  refine xl_14 hx hb hK hP k_206 l_206 (ix_in g1) dX12_isSo_5 ?_
  refine lv_if_ne (tgt := 43) hx hb dX12_isSo_6 (by decide) (fun c2 => ?_) (fun c2 => ?_)
  · rw [if_neg c2] at h
    refine lv_aload_n hx hb dX12_isSo_43 rfl (lv_at hl 0 rfl) ?_
    refine lv_iload_n hx hb dX12_isSo_44 rfl (lv_at hl 2 rfl) ?_
    refine lv_iload_n hx hb dX12_isSo_45 rfl (lv_at hl 3 rfl) ?_
    refine lv_aload_n hx hb dX12_isSo_46 rfl (lv_at hl 0 rfl) ?_
    refine ge_12_67 hx hb hts (inU inW_X12) hown hK hP k_172 (hts _ (List.mem_cons_of_mem _ lw_1501)) dX12_isSo_47 ?_
    refine lv_iload_n hx hb dX12_isSo_50 rfl (lv_at hl 1 rfl) ?_
    obtain ⟨g3, h⟩ := gd_s h
    refine xl_14 hx hb hK hP k_207 l_207 (ix_in g3) dX12_isSo_51 ?_
    obtain ⟨r5, z6, h4, h⟩ := bd_s h
    refine x_Vi (Rz := (r5, z6)) (As := [.int v2, .int v3, .int (z.1 207 (Int32.toNatClampNeg v1))]) (rest := []) ⟨hx, hb, hml, hown, hts⟩ hK hP hS (kd_lt k_172 (by decide)) (cell_12 k_172) rfl (m_X12_hasIcing hG   h4) (cwV 3 hts (gV lw_2117 lw_2119 lw_105 lw_125 lw_2120) rfl rfl rfl (by decide +kernel) (rmd_ok (by decide) (by decide))) rfl hl.1 rfl (Nat.le_of_ble_eq_true rfl) dX12_isSo_52 ⟨Nat.le_refl _, Nat.le_refl _⟩ (fun H locs hP hS => ?_)
    obtain ⟨g7, h⟩ := gd_s h
    exact x_zret hx hb hr hlocks hK hP hS g7 h dX12_isSo_55
  · rw [if_pos c2] at h
    refine lv_aload_n hx hb dX12_isSo_9 rfl (lv_at hl 0 rfl) ?_
    refine ge_12_30 hx hb hts (inU inW_X12) hown hK hP k_172 (hts _ (List.mem_cons_of_mem _ lw_1464)) dX12_isSo_10 ?_
    refine lv_iconst (v := 0) hx hb dX12_isSo_13 (by decide) ?_
    refine xl_14 hx hb hK hP k_188 l_188 (ix_in (by decide)) dX12_isSo_14 ?_
    refine lv_iload_n hx hb dX12_isSo_15 rfl (lv_at hl 2 rfl) ?_
    obtain ⟨g8, h⟩ := gd_s h
    refine lv_idiv hx hb dX12_isSo_16 (bne_z g8) ?_
    refine lv_aload_n hx hb dX12_isSo_17 rfl (lv_at hl 0 rfl) ?_
    refine ge_12_31 hx hb hts (inU inW_X12) hown hK hP k_172 (hts _ (List.mem_cons_of_mem _ lw_1465)) dX12_isSo_18 ?_
    refine lv_iconst (v := 0) hx hb dX12_isSo_21 (by decide) ?_
    refine xl_14 hx hb hK hP k_189 l_189 (ix_in (by decide)) dX12_isSo_22 ?_
    refine lv_iload_n hx hb dX12_isSo_23 rfl (lv_at hl 3 rfl) ?_
    obtain ⟨g9, h⟩ := gd_s h
    refine lv_idiv hx hb dX12_isSo_24 (bne_z g9) ?_
    refine lv_imul hx hb dX12_isSo_25 ?_
    refine lv_aload_n hx hb dX12_isSo_26 rfl (lv_at hl 0 rfl) ?_
    refine ge_12_67 hx hb hts (inU inW_X12) hown hK hP k_172 (hts _ (List.mem_cons_of_mem _ lw_1501)) dX12_isSo_27 ?_
    refine lv_iload_n hx hb dX12_isSo_30 rfl (lv_at hl 1 rfl) ?_
    obtain ⟨g10, h⟩ := gd_s h
    refine xl_14 hx hb hK hP k_207 l_207 (ix_in g10) dX12_isSo_31 ?_
    refine lv_icmp_ne (tgt := 39) hx hb dX12_isSo_32 (by decide) (fun c11 => ?_) (fun c11 => ?_)
    · rw [if_neg c11] at h
      refine lv_iconst (v := 0) hx hb dX12_isSo_39 (by decide) ?_
      refine lv_goto (tgt := 55) hx hb dX12_isSo_40 (by decide) ?_
      exact x_zret hx hb hr hlocks hK hP hS rfl h dX12_isSo_55
    · rw [if_pos c11] at h
      refine lv_iconst (v := 1) hx hb dX12_isSo_35 (by decide) ?_
      refine lv_goto (tgt := 55) hx hb dX12_isSo_36 (by decide) ?_
      exact x_zret hx hb hr hlocks hK hP hS rfl h dX12_isSo_55
def fn_X12_isFit_101 (k27 : Int32 → Int32 → Int32 → Int32 → Int32 → St → Option (Int32 × St)) (v1 : Int32) (v2 : Int32) (v3 : Int32) (v4 : Int32) (v5 : Int32) (z : St) : Option (Int32 × St) := k27 v1 v2 v3 v4 (v5 + 1) z
set_option maxHeartbeats 4000000 in
set_option maxRecDepth 100000 in
theorem pf_X12_isFit_101 {p : Program} {l : Launch} {e : Env} {s : State} {m : MethodId} {args : Array Value} {below : List Frame} {meth : Method} {c : Code} {G : wG} (C : CX p s m args meth c cX12_isFit 6 (wsU yX12_isFit cX12_isFit 6 (some .boolean)) RX12 (some .boolean) G) {Rz : Int32 × St} {k27 : Int32 → Int32 → Int32 → Int32 → Int32 → St → Option (Int32 × St)} (hk_27 : ∀ (v1 : Int32) (v2 : Int32) (v3 : Int32) (v4 : Int32) (v5 : Int32) (z : St)  (H : Heap) (locs : List Loc) (ls : Array Slot), WP G z H → va_S (AW G) s.heap H locs → lv_has ls 6 [(0, .ref (G.2.2 172)), (1, .int v1), (2, .int v2), (3, .int v3), (4, .int v4), (5, .int v5)] → k27 v1 v2 v3 v4 v5 z = some Rz → W p l e (rmd 5) s m args below meth c H locs 0 0 (QI below args s G Rz) (F0 m 27 ls [])) (v1 : Int32) (v2 : Int32) (v3 : Int32) (v4 : Int32) (v5 : Int32) (z : St)  {H : Heap} {locs : List Loc} {ls : Array Slot} (hP : WP G z H) (hS : va_S (AW G) s.heap H locs) (hl : lv_has ls 6 [(0, .ref (G.2.2 172)), (1, .int v1), (2, .int v2), (3, .int v3), (4, .int v4), (5, .int v5)]) (h : fn_X12_isFit_101  k27 v1 v2 v3 v4 v5 z = some Rz) : W p l e (rmd 5) s m args below meth c H locs 0 0 (QI below args s G Rz) (F0 m 101 ls []) := by
  obtain ⟨hx, hb, hml, hown, hts, hr, hlocks, hK, hG⟩ := id C
  unfold fn_X12_isFit_101 at h
  refine lv_iinc (v := (v5 + 1)) (lv' := [(5, .int (v5 + 1)), (0, .ref (G.2.2 172)), (1, .int v1), (2, .int v2), (3, .int v3), (4, .int v4)]) hx hb dX12_isFit_101 hl (k := 5) rfl rfl (by decide) rfl (fun ls hl => ?_)
  refine lv_goto (tgt := 27) hx hb dX12_isFit_104 (by decide) ?_
  exact hk_27 v1 v2 v3 v4 (v5 + 1) z  _ _ _ hP hS (lv_sub hl [1, 2, 3, 4, 5, 0] rfl) h
def fn_X12_isFit_99 (k27 : Int32 → Int32 → Int32 → Int32 → Int32 → St → Option (Int32 × St)) (v1 : Int32) (v2 : Int32) (v3 : Int32) (v5 : Int32) (tv0 : Int32) (z : St) : Option (Int32 × St) := fn_X12_isFit_101  k27 v1 v2 v3 tv0 v5 z
set_option maxHeartbeats 4000000 in
set_option maxRecDepth 100000 in
theorem pf_X12_isFit_99 {p : Program} {l : Launch} {e : Env} {s : State} {m : MethodId} {args : Array Value} {below : List Frame} {meth : Method} {c : Code} {G : wG} (C : CX p s m args meth c cX12_isFit 6 (wsU yX12_isFit cX12_isFit 6 (some .boolean)) RX12 (some .boolean) G) {Rz : Int32 × St} {k27 : Int32 → Int32 → Int32 → Int32 → Int32 → St → Option (Int32 × St)} (hk_27 : ∀ (v1 : Int32) (v2 : Int32) (v3 : Int32) (v4 : Int32) (v5 : Int32) (z : St)  (H : Heap) (locs : List Loc) (ls : Array Slot), WP G z H → va_S (AW G) s.heap H locs → lv_has ls 6 [(0, .ref (G.2.2 172)), (1, .int v1), (2, .int v2), (3, .int v3), (4, .int v4), (5, .int v5)] → k27 v1 v2 v3 v4 v5 z = some Rz → W p l e (rmd 5) s m args below meth c H locs 0 0 (QI below args s G Rz) (F0 m 27 ls [])) (v1 : Int32) (v2 : Int32) (v3 : Int32) (v5 : Int32) (tv0 : Int32) (z : St)  {H : Heap} {locs : List Loc} {ls : Array Slot} (hP : WP G z H) (hS : va_S (AW G) s.heap H locs) (hl : lv_has ls 6 [(0, .ref (G.2.2 172)), (1, .int v1), (2, .int v2), (3, .int v3), (5, .int v5)]) (h : fn_X12_isFit_99  k27 v1 v2 v3 v5 tv0 z = some Rz) : W p l e (rmd 5) s m args below meth c H locs 0 0 (QI below args s G Rz) (F0 m 99 ls [.int tv0]) := by
  obtain ⟨hx, hb, hml, hown, hts, hr, hlocks, hK, hG⟩ := id C
  unfold fn_X12_isFit_99 at h
  refine lv_istore (lv' := [(4, .int tv0), (0, .ref (G.2.2 172)), (1, .int v1), (2, .int v2), (3, .int v3), (5, .int v5)]) hx hb dX12_isFit_99 hl (by decide) rfl (fun ls hl => ?_)
  exact pf_X12_isFit_101 C  hk_27 v1 v2 v3 tv0 v5 z  hP hS (lv_sub hl [1, 2, 3, 4, 0, 5] rfl) h
def fn_X12_isFit_76 (k27 : Int32 → Int32 → Int32 → Int32 → Int32 → St → Option (Int32 × St)) (v1 : Int32) (v2 : Int32) (v3 : Int32) (v5 : Int32) (z : St) : Option (Int32 × St) := bd (fn_X12_isSo  v5 v1 v2 z) (fun r2 z3 => gd (ix v5 30) ((if r2 = (z3.1 210 (Int32.toNatClampNeg v5)) then fn_X12_isFit_99  k27 v1 v2 v3 v5 1 z3 else fn_X12_isFit_99  k27 v1 v2 v3 v5 0 z3)))
set_option maxHeartbeats 4000000 in
set_option maxRecDepth 100000 in
theorem pf_X12_isFit_76 {p : Program} {l : Launch} {e : Env} {s : State} {m : MethodId} {args : Array Value} {below : List Frame} {meth : Method} {c : Code} {G : wG} (C : CX p s m args meth c cX12_isFit 6 (wsU yX12_isFit cX12_isFit 6 (some .boolean)) RX12 (some .boolean) G) {Rz : Int32 × St} {k27 : Int32 → Int32 → Int32 → Int32 → Int32 → St → Option (Int32 × St)} (hk_27 : ∀ (v1 : Int32) (v2 : Int32) (v3 : Int32) (v4 : Int32) (v5 : Int32) (z : St)  (H : Heap) (locs : List Loc) (ls : Array Slot), WP G z H → va_S (AW G) s.heap H locs → lv_has ls 6 [(0, .ref (G.2.2 172)), (1, .int v1), (2, .int v2), (3, .int v3), (4, .int v4), (5, .int v5)] → k27 v1 v2 v3 v4 v5 z = some Rz → W p l e (rmd 5) s m args below meth c H locs 0 0 (QI below args s G Rz) (F0 m 27 ls [])) (v1 : Int32) (v2 : Int32) (v3 : Int32) (v5 : Int32) (z : St)  {H : Heap} {locs : List Loc} {ls : Array Slot} (hP : WP G z H) (hS : va_S (AW G) s.heap H locs) (hl : lv_has ls 6 [(0, .ref (G.2.2 172)), (1, .int v1), (2, .int v2), (3, .int v3), (5, .int v5)]) (h : fn_X12_isFit_76  k27 v1 v2 v3 v5 z = some Rz) : W p l e (rmd 5) s m args below meth c H locs 0 0 (QI below args s G Rz) (F0 m 76 ls []) := by
  obtain ⟨hx, hb, hml, hown, hts, hr, hlocks, hK, hG⟩ := id C
  unfold fn_X12_isFit_76 at h
  refine lv_aload_n hx hb dX12_isFit_76 rfl (lv_at hl 0 rfl) ?_
  refine lv_iload hx hb dX12_isFit_77 (lv_at hl 4 rfl) ?_
  refine lv_iload_n hx hb dX12_isFit_79 rfl (lv_at hl 1 rfl) ?_
  refine lv_iload_n hx hb dX12_isFit_80 rfl (lv_at hl 2 rfl) ?_
  obtain ⟨r2, z3, h1, h⟩ := bd_s h
  refine x_Vi (Rz := (r2, z3)) (As := [.int v5, .int v1, .int v2]) (rest := []) ⟨hx, hb, hml, hown, hts⟩ hK hP hS (kd_lt k_172 (by decide)) (cell_12 k_172) rfl (m_X12_isSo hG   h1) (cwV 3 hts (gV lw_2113 lw_2115 lw_104 lw_125 lw_2116) rfl rfl rfl (by decide +kernel) (rmd_ok (by decide) (by decide))) rfl hl.1 rfl (Nat.le_of_ble_eq_true rfl) dX12_isFit_81 ⟨Nat.le_refl _, Nat.le_refl _⟩ (fun H locs hP hS => ?_)
  refine lv_aload_n hx hb dX12_isFit_84 rfl (lv_at hl 0 rfl) ?_
  refine ge_12_70 hx hb hts (inU inW_X12) hown hK hP k_172 (hts _ (List.mem_cons_of_mem _ lw_1504)) dX12_isFit_85 ?_
  refine lv_iload hx hb dX12_isFit_88 (lv_at hl 4 rfl) ?_
  obtain ⟨g4, h⟩ := gd_s h
  refine xl_16 hx hb hK hP k_210 l_210 (ix_in g4) dX12_isFit_90 ?_
  refine lv_icmp_ne (tgt := 98) hx hb dX12_isFit_91 (by decide) (fun c5 => ?_) (fun c5 => ?_)
  · rw [if_neg c5] at h
    refine lv_iconst (v := 0) hx hb dX12_isFit_98 (by decide) ?_
    exact pf_X12_isFit_99 C  hk_27 v1 v2 v3 v5 0 z3  hP hS (lv_sub hl [0, 1, 2, 3, 4] rfl) h
  · rw [if_pos c5] at h
    refine lv_iconst (v := 1) hx hb dX12_isFit_94 (by decide) ?_
    refine lv_goto (tgt := 99) hx hb dX12_isFit_95 (by decide) ?_
    exact pf_X12_isFit_99 C  hk_27 v1 v2 v3 v5 1 z3  hP hS (lv_sub hl [0, 1, 2, 3, 4] rfl) h
def fn_X12_isFit_27 : Nat → Int32 → Int32 → Int32 → Int32 → Int32 → St → Option (Int32 × St)
  | 0, _, _, _, _, _, _ => none
  | n + 1, v1, v2, v3, v4, v5, z => (if (z.1 172 71) ≤ v5 then gd (zok v4) (some (v4, z)) else (if v4 = 0 then gd (zok v4) (some (v4, z)) else gd (ix v5 30) ((if v3 < (z.1 208 (Int32.toNatClampNeg v5)) then fn_X12_isFit_101  (fn_X12_isFit_27   n) v1 v2 v3 v4 v5 z else gd (ix v5 30) ((if (z.1 209 (Int32.toNatClampNeg v5)) < 0 then fn_X12_isFit_76  (fn_X12_isFit_27   n) v1 v2 v3 v5 z else gd (ix v5 30) ((if v3 < (z.1 209 (Int32.toNatClampNeg v5)) then fn_X12_isFit_76  (fn_X12_isFit_27   n) v1 v2 v3 v5 z else fn_X12_isFit_101  (fn_X12_isFit_27   n) v1 v2 v3 v4 v5 z))))))))
set_option maxHeartbeats 4000000 in
set_option maxRecDepth 100000 in
theorem pf_X12_isFit_27 {p : Program} {l : Launch} {e : Env} {s : State} {m : MethodId} {args : Array Value} {below : List Frame} {meth : Method} {c : Code} {G : wG} (C : CX p s m args meth c cX12_isFit 6 (wsU yX12_isFit cX12_isFit 6 (some .boolean)) RX12 (some .boolean) G) {Rz : Int32 × St} : ∀ (n : Nat) (v1 : Int32) (v2 : Int32) (v3 : Int32) (v4 : Int32) (v5 : Int32) (z : St)  (H : Heap) (locs : List Loc) (ls : Array Slot), WP G z H → va_S (AW G) s.heap H locs → lv_has ls 6 [(0, .ref (G.2.2 172)), (1, .int v1), (2, .int v2), (3, .int v3), (4, .int v4), (5, .int v5)] → fn_X12_isFit_27   n v1 v2 v3 v4 v5 z = some Rz → W p l e (rmd 5) s m args below meth c H locs 0 0 (QI below args s G Rz) (F0 m 27 ls []) := by
  obtain ⟨hx, hb, hml, hown, hts, hr, hlocks, hK, hG⟩ := id C
  intro n
  induction n with
  | zero => intro v1 v2 v3 v4 v5 z  H locs ls hP hS hl h; cases h
  | succ n ih =>
    intro v1 v2 v3 v4 v5 z  H locs ls hP hS hl h
    rw [fn_X12_isFit_27] at h
    refine lv_iload hx hb dX12_isFit_27 (lv_at hl 5 rfl) ?_
    refine lv_aload_n hx hb dX12_isFit_29 rfl (lv_at hl 0 rfl) ?_
    refine ge_12_71 hx hb hts (inU inW_X12) hown hK hP k_172 (hts _ (List.mem_cons_of_mem _ lw_1505)) dX12_isFit_30 ?_
    refine lv_icmp_ge (tgt := 107) hx hb dX12_isFit_33 (by decide) (fun c1 => ?_) (fun c1 => ?_)
    · rw [if_pos c1] at h
      refine lv_iload hx hb dX12_isFit_107 (lv_at hl 4 rfl) ?_
      obtain ⟨g2, h⟩ := gd_s h
      exact x_zret hx hb hr hlocks hK hP hS g2 h dX12_isFit_109
    · rw [if_neg c1] at h
      refine lv_iload hx hb dX12_isFit_36 (lv_at hl 4 rfl) ?_
      refine lv_if_eq (tgt := 107) hx hb dX12_isFit_38 (by decide) (fun c3 => ?_) (fun c3 => ?_)
      · rw [if_pos c3] at h
        refine lv_iload hx hb dX12_isFit_107 (lv_at hl 4 rfl) ?_
        obtain ⟨g4, h⟩ := gd_s h
        exact x_zret hx hb hr hlocks hK hP hS g4 h dX12_isFit_109
      · rw [if_neg c3] at h
        refine lv_aload_n hx hb dX12_isFit_41 rfl (lv_at hl 0 rfl) ?_
        refine ge_12_68 hx hb hts (inU inW_X12) hown hK hP k_172 (hts _ (List.mem_cons_of_mem _ lw_1502)) dX12_isFit_42 ?_
        refine lv_iload hx hb dX12_isFit_45 (lv_at hl 5 rfl) ?_
        obtain ⟨g5, h⟩ := gd_s h
        refine xl_14 hx hb hK hP k_208 l_208 (ix_in g5) dX12_isFit_47 ?_
        refine lv_iload_n hx hb dX12_isFit_48 rfl (lv_at hl 3 rfl) ?_
        refine lv_icmp_gt (tgt := 101) hx hb dX12_isFit_49 (by decide) (fun c6 => ?_) (fun c6 => ?_)
        · rw [if_pos c6] at h
          exact pf_X12_isFit_101 C  ih v1 v2 v3 v4 v5 z  hP hS (lv_sub hl [0, 1, 2, 3, 4, 5] rfl) h
        · rw [if_neg c6] at h
          refine lv_aload_n hx hb dX12_isFit_52 rfl (lv_at hl 0 rfl) ?_
          refine ge_12_69 hx hb hts (inU inW_X12) hown hK hP k_172 (hts _ (List.mem_cons_of_mem _ lw_1503)) dX12_isFit_53 ?_
          refine lv_iload hx hb dX12_isFit_56 (lv_at hl 5 rfl) ?_
          obtain ⟨g7, h⟩ := gd_s h
          refine xl_14 hx hb hK hP k_209 l_209 (ix_in g7) dX12_isFit_58 ?_
          refine lv_if_lt (tgt := 76) hx hb dX12_isFit_59 (by decide) (fun c8 => ?_) (fun c8 => ?_)
          · rw [if_pos c8] at h
            exact pf_X12_isFit_76 C  ih v1 v2 v3 v5 z  hP hS (lv_sub hl [0, 1, 2, 3, 5] rfl) h
          · rw [if_neg c8] at h
            refine lv_aload_n hx hb dX12_isFit_62 rfl (lv_at hl 0 rfl) ?_
            refine ge_12_69 hx hb hts (inU inW_X12) hown hK hP k_172 (hts _ (List.mem_cons_of_mem _ lw_1503)) dX12_isFit_63 ?_
            refine lv_iload hx hb dX12_isFit_66 (lv_at hl 5 rfl) ?_
            obtain ⟨g9, h⟩ := gd_s h
            refine xl_14 hx hb hK hP k_209 l_209 (ix_in g9) dX12_isFit_68 ?_
            refine lv_iload_n hx hb dX12_isFit_69 rfl (lv_at hl 3 rfl) ?_
            refine lv_icmp_gt (tgt := 76) hx hb dX12_isFit_70 (by decide) (fun c10 => ?_) (fun c10 => ?_)
            · rw [if_pos c10] at h
              exact pf_X12_isFit_76 C  ih v1 v2 v3 v5 z  hP hS (lv_sub hl [0, 1, 2, 3, 5] rfl) h
            · rw [if_neg c10] at h
              refine lv_goto (tgt := 101) hx hb dX12_isFit_73 (by decide) ?_
              exact pf_X12_isFit_101 C  ih v1 v2 v3 v4 v5 z  hP hS (lv_sub hl [0, 1, 2, 3, 4, 5] rfl) h
def fn_X12_isFit_22 (v1 : Int32) (v2 : Int32) (v3 : Int32) (tv0 : Int32) (z : St) : Option (Int32 × St) := fn_X12_isFit_27   fu v1 v2 v3 tv0 0 z
set_option maxHeartbeats 4000000 in
set_option maxRecDepth 100000 in
theorem pf_X12_isFit_22 {p : Program} {l : Launch} {e : Env} {s : State} {m : MethodId} {args : Array Value} {below : List Frame} {meth : Method} {c : Code} {G : wG} (C : CX p s m args meth c cX12_isFit 6 (wsU yX12_isFit cX12_isFit 6 (some .boolean)) RX12 (some .boolean) G) {Rz : Int32 × St} (v1 : Int32) (v2 : Int32) (v3 : Int32) (tv0 : Int32) (z : St)  {H : Heap} {locs : List Loc} {ls : Array Slot} (hP : WP G z H) (hS : va_S (AW G) s.heap H locs) (hl : lv_has ls 6 [(0, .ref (G.2.2 172)), (1, .int v1), (2, .int v2), (3, .int v3)]) (h : fn_X12_isFit_22   v1 v2 v3 tv0 z = some Rz) : W p l e (rmd 5) s m args below meth c H locs 0 0 (QI below args s G Rz) (F0 m 22 ls [.int tv0]) := by
  obtain ⟨hx, hb, hml, hown, hts, hr, hlocks, hK, hG⟩ := id C
  unfold fn_X12_isFit_22 at h
  refine lv_istore (lv' := [(4, .int tv0), (0, .ref (G.2.2 172)), (1, .int v1), (2, .int v2), (3, .int v3)]) hx hb dX12_isFit_22 hl (by decide) rfl (fun ls hl => ?_)
  refine lv_iconst (v := 0) hx hb dX12_isFit_24 (by decide) ?_
  refine lv_istore (lv' := [(5, .int 0), (4, .int tv0), (0, .ref (G.2.2 172)), (1, .int v1), (2, .int v2), (3, .int v3)]) hx hb dX12_isFit_25 hl (by decide) rfl (fun ls hl => ?_)
  exact pf_X12_isFit_27 C   fu v1 v2 v3 tv0 0 z  _ _ _ hP hS (lv_sub hl [2, 3, 4, 5, 1, 0] rfl) h
def fn_X12_isFit_21 (v1 : Int32) (v2 : Int32) (v3 : Int32) (z : St) : Option (Int32 × St) := fn_X12_isFit_22   v1 v2 v3 0 z
set_option maxHeartbeats 4000000 in
set_option maxRecDepth 100000 in
theorem pf_X12_isFit_21 {p : Program} {l : Launch} {e : Env} {s : State} {m : MethodId} {args : Array Value} {below : List Frame} {meth : Method} {c : Code} {G : wG} (C : CX p s m args meth c cX12_isFit 6 (wsU yX12_isFit cX12_isFit 6 (some .boolean)) RX12 (some .boolean) G) {Rz : Int32 × St} (v1 : Int32) (v2 : Int32) (v3 : Int32) (z : St)  {H : Heap} {locs : List Loc} {ls : Array Slot} (hP : WP G z H) (hS : va_S (AW G) s.heap H locs) (hl : lv_has ls 6 [(0, .ref (G.2.2 172)), (1, .int v1), (2, .int v2), (3, .int v3)]) (h : fn_X12_isFit_21   v1 v2 v3 z = some Rz) : W p l e (rmd 5) s m args below meth c H locs 0 0 (QI below args s G Rz) (F0 m 21 ls []) := by
  obtain ⟨hx, hb, hml, hown, hts, hr, hlocks, hK, hG⟩ := id C
  unfold fn_X12_isFit_21 at h
  refine lv_iconst (v := 0) hx hb dX12_isFit_21 (by decide) ?_
  exact pf_X12_isFit_22 C   v1 v2 v3 0 z  hP hS (lv_sub hl [0, 1, 2, 3] rfl) h
def fn_X12_isFit (v1 : Int32) (v2 : Int32) (v3 : Int32) (z : St) : Option (Int32 × St) := (if (z.1 172 43) ≤ 0 then fn_X12_isFit_21   v1 v2 v3 z else bd (fn_X12_isGrid  0 v1 v2 z) (fun r3 z4 => (if r3 = 0 then fn_X12_isFit_21   v1 v2 v3 z4 else fn_X12_isFit_22   v1 v2 v3 1 z4)))
set_option maxHeartbeats 4000000 in
set_option maxRecDepth 100000 in
theorem m_X12_isFit {l : Launch} {G : wG} (hG : Ok G) {v1 : Int32} {v2 : Int32} {v3 : Int32} {z : St} {Rz : Int32 × St}  (h : fn_X12_isFit  v1 v2 v3 z = some Rz) : Met l yX12_isFit (wsU yX12_isFit cX12_isFit 6 (some .boolean)) (rmd 5) (va_Pc [.ref (G.2.2 172), .int v1, .int v2, .int v3] (Pre G z)) (va_Qi (fun r u => (r, u) = Rz) (Pre G) (AW G)) 0 0 (AW G) := by
  refine Met.ofW (cc := cX12_isFit) (maxL := 6) (ret := (some .boolean)) (by decide) rfl ?_
  intro p e s m args below meth c s₁ B hml hv
  obtain ⟨rfl, hP, hK⟩ := hv
  have C : CX p s m ([.ref (G.2.2 172), .int v1, .int v2, .int v3] : List Value).toArray meth c cX12_isFit 6 (wsU yX12_isFit cX12_isFit 6 (some .boolean)) RX12 (some .boolean) G := ⟨B.exec, B.bytes, hml, findClass_of_methodNamed B.named, atoms_spec (ws := (wsU yX12_isFit cX12_isFit 6 (some .boolean))) B.pre, B.returns, B.notSynchronized, hK, hG⟩
  obtain ⟨hx, hb, -, hown, hts, hr, hlocks, -, -⟩ := id C
  have hS : va_S (AW G) s.heap s.heap [] := va_S.rf
  have hl := lv_entry [.ref (G.2.2 172), .int v1, .int v2, .int v3] (n := 6) (Nat.le_of_ble_eq_true rfl)
  rw [lg_entry_eq]
  generalize (lg_sl [.ref (G.2.2 172), .int v1, .int v2, .int v3] ++ List.replicate (6 - (lg_sl [.ref (G.2.2 172), .int v1, .int v2, .int v3]).length) Slot.unset).toArray = ls at hl ⊢
  have hl : lv_has ls 6 [(0, .ref (G.2.2 172)), (1, .int v1), (2, .int v2), (3, .int v3)] := hl
  unfold fn_X12_isFit at h
  refine lv_aload_n hx hb dX12_isFit_0 rfl (lv_at hl 0 rfl) ?_
  refine ge_12_43 hx hb hts (inU inW_X12) hown hK hP k_172 (hts _ (List.mem_cons_of_mem _ lw_1477)) dX12_isFit_1 ?_
  refine lv_if_le (tgt := 21) hx hb dX12_isFit_4 (by decide) (fun c1 => ?_) (fun c1 => ?_)
  · rw [if_pos c1] at h
    exact pf_X12_isFit_21 C   v1 v2 v3 z  hP hS (lv_sub hl [0, 1, 2, 3] rfl) h
  · rw [if_neg c1] at h
    refine lv_aload_n hx hb dX12_isFit_7 rfl (lv_at hl 0 rfl) ?_
    refine lv_iconst (v := 0) hx hb dX12_isFit_8 (by decide) ?_
    refine lv_iload_n hx hb dX12_isFit_9 rfl (lv_at hl 1 rfl) ?_
    refine lv_iload_n hx hb dX12_isFit_10 rfl (lv_at hl 2 rfl) ?_
    obtain ⟨r3, z4, h2, h⟩ := bd_s h
    refine x_Vi (Rz := (r3, z4)) (As := [.int 0, .int v1, .int v2]) (rest := []) ⟨hx, hb, hml, hown, hts⟩ hK hP hS (kd_lt k_172 (by decide)) (cell_12 k_172) rfl (m_X12_isGrid hG   h2) (cwV 3 hts (gV lw_2020 lw_2022 lw_98 lw_125 lw_2023) rfl rfl rfl (by decide +kernel) (rmd_ok (by decide) (by decide))) rfl hl.1 rfl (Nat.le_of_ble_eq_true rfl) dX12_isFit_11 ⟨Nat.le_refl _, Nat.le_refl _⟩ (fun H locs hP hS => ?_)
    refine lv_if_eq (tgt := 21) hx hb dX12_isFit_14 (by decide) (fun c5 => ?_) (fun c5 => ?_)
    · rw [if_pos c5] at h
      exact pf_X12_isFit_21 C   v1 v2 v3 z4  hP hS (lv_sub hl [0, 1, 2, 3] rfl) h
    · rw [if_neg c5] at h
      refine lv_iconst (v := 1) hx hb dX12_isFit_17 (by decide) ?_
      refine lv_goto (tgt := 22) hx hb dX12_isFit_18 (by decide) ?_
      exact pf_X12_isFit_22 C   v1 v2 v3 1 z4  hP hS (lv_sub hl [0, 1, 2, 3] rfl) h
def fn_X12_fits_13 (k4 : Int32 → Int32 → Int32 → St → Option (Int32 × St)) : Nat → Int32 → Int32 → Int32 → Int32 → St → Option (Int32 × St)
  | 0, _, _, _, _, _ => none
  | n + 1, v1, v2, v3, v4, z => (if 8 < v4 then k4 v1 v2 (v3 + 1) z else bd (fn_X12_isFit  v3 v4 v1 z) (fun r3 z4 => bd (fn_X12_truth  r3 z4) (fun r6 z7 => nm (v2 + r6) (fun v2_8 => fn_X12_fits_13  k4 n v1 v2_8 v3 (v4 + 1) z7))))
set_option maxHeartbeats 4000000 in
set_option maxRecDepth 100000 in
theorem pf_X12_fits_13 {p : Program} {l : Launch} {e : Env} {s : State} {m : MethodId} {args : Array Value} {below : List Frame} {meth : Method} {c : Code} {G : wG} (C : CX p s m args meth c cX12_fits 5 (wsU yX12_fits cX12_fits 5 (some .int)) RX12 (some .int) G) {Rz : Int32 × St} {k4 : Int32 → Int32 → Int32 → St → Option (Int32 × St)} (hk_4 : ∀ (v1 : Int32) (v2 : Int32) (v3 : Int32) (z : St)  (H : Heap) (locs : List Loc) (ls : Array Slot), WP G z H → va_S (AW G) s.heap H locs → lv_has ls 5 [(0, .ref (G.2.2 172)), (1, .int v1), (2, .int v2), (3, .int v3)] → k4 v1 v2 v3 z = some Rz → W p l e (rmd 6) s m args below meth c H locs 0 0 (QI below args s G Rz) (F0 m 4 ls [])) : ∀ (n : Nat) (v1 : Int32) (v2 : Int32) (v3 : Int32) (v4 : Int32) (z : St)  (H : Heap) (locs : List Loc) (ls : Array Slot), WP G z H → va_S (AW G) s.heap H locs → lv_has ls 5 [(0, .ref (G.2.2 172)), (1, .int v1), (2, .int v2), (3, .int v3), (4, .int v4)] → fn_X12_fits_13  k4 n v1 v2 v3 v4 z = some Rz → W p l e (rmd 6) s m args below meth c H locs 0 0 (QI below args s G Rz) (F0 m 13 ls []) := by
  obtain ⟨hx, hb, hml, hown, hts, hr, hlocks, hK, hG⟩ := id C
  intro n
  induction n with
  | zero => intro v1 v2 v3 v4 z  H locs ls hP hS hl h; cases h
  | succ n ih =>
    intro v1 v2 v3 v4 z  H locs ls hP hS hl h
    rw [fn_X12_fits_13] at h
    refine lv_iload hx hb dX12_fits_13 (lv_at hl 4 rfl) ?_
    refine lv_bipush (v := 8) hx hb dX12_fits_15 (by decide) ?_
    refine lv_icmp_gt (tgt := 40) hx hb dX12_fits_17 (by decide) (fun c1 => ?_) (fun c1 => ?_)
    · rw [if_pos c1] at h
      refine lv_iinc (v := (v3 + 1)) (lv' := [(3, .int (v3 + 1)), (0, .ref (G.2.2 172)), (1, .int v1), (2, .int v2), (4, .int v4)]) hx hb dX12_fits_40 hl (k := 3) rfl rfl (by decide) rfl (fun ls hl => ?_)
      refine lv_goto (tgt := 4) hx hb dX12_fits_43 (by decide) ?_
      exact hk_4 v1 v2 (v3 + 1) z  _ _ _ hP hS (lv_sub hl [1, 2, 3, 0] rfl) h
    · rw [if_neg c1] at h
      refine lv_iload_n hx hb dX12_fits_20 rfl (lv_at hl 2 rfl) ?_
      refine lv_aload_n hx hb dX12_fits_21 rfl (lv_at hl 0 rfl) ?_
      refine lv_iload_n hx hb dX12_fits_22 rfl (lv_at hl 3 rfl) ?_
      refine lv_iload hx hb dX12_fits_23 (lv_at hl 4 rfl) ?_
      refine lv_iload_n hx hb dX12_fits_25 rfl (lv_at hl 1 rfl) ?_
      obtain ⟨r3, z4, h2, h⟩ := bd_s h
      refine x_Vi (Rz := (r3, z4)) (As := [.int v3, .int v4, .int v1]) (rest := [.int v2]) ⟨hx, hb, hml, hown, hts⟩ hK hP hS (kd_lt k_172 (by decide)) (cell_12 k_172) rfl (m_X12_isFit hG   h2) (cwV 3 hts (gV lw_2109 lw_2111 lw_103 lw_125 lw_2112) rfl rfl rfl (by decide +kernel) (rmd_ok (by decide) (by decide))) rfl hl.1 rfl (Nat.le_of_ble_eq_true rfl) dX12_fits_26 ⟨Nat.le_refl _, Nat.le_refl _⟩ (fun H locs hP hS => ?_)
      obtain ⟨r6, z7, h5, h⟩ := bd_s h
      refine x_Si (Rz := (r6, z7)) (As := [.int r3]) (rest := [.int v2]) ⟨hx, hb, hml, hown, hts⟩ hK hP hS (m_X12_truth hG   h5) (va_cwS 1 hts (gS lw_1842 lw_1843 lw_125 lw_1844) rfl rfl rfl (by decide +kernel) (rmd_ok (by decide) (by decide))) rfl hl.1 rfl (Nat.le_of_ble_eq_true rfl) dX12_fits_29 ⟨Nat.le_refl _, Nat.le_refl _⟩ (fun H locs hP hS => ?_)
      refine lv_iadd hx hb dX12_fits_32 ?_
      obtain ⟨v2_8, e_v2_8, h⟩ := nm_s h
      refine x_top e_v2_8 ?_
      refine lv_istore_n (lv' := [(2, .int v2_8), (0, .ref (G.2.2 172)), (1, .int v1), (3, .int v3), (4, .int v4)]) hx hb dX12_fits_33 rfl hl (by decide) rfl (fun ls hl => ?_)
      refine lv_iinc (v := (v4 + 1)) (lv' := [(4, .int (v4 + 1)), (2, .int v2_8), (0, .ref (G.2.2 172)), (1, .int v1), (3, .int v3)]) hx hb dX12_fits_34 hl (k := 4) rfl rfl (by decide) rfl (fun ls hl => ?_)
      refine lv_goto (tgt := 13) hx hb dX12_fits_37 (by decide) ?_
      exact ih v1 v2_8 v3 (v4 + 1) z7  _ _ _ hP hS (lv_sub hl [2, 3, 1, 4, 0] rfl) h
def fn_X12_fits_4 : Nat → Int32 → Int32 → Int32 → St → Option (Int32 × St)
  | 0, _, _, _, _ => none
  | n + 1, v1, v2, v3, z => (if 8 < v3 then some (v2, z) else fn_X12_fits_13  (fn_X12_fits_4   n) fu v1 v2 v3 1 z)
set_option maxHeartbeats 4000000 in
set_option maxRecDepth 100000 in
theorem pf_X12_fits_4 {p : Program} {l : Launch} {e : Env} {s : State} {m : MethodId} {args : Array Value} {below : List Frame} {meth : Method} {c : Code} {G : wG} (C : CX p s m args meth c cX12_fits 5 (wsU yX12_fits cX12_fits 5 (some .int)) RX12 (some .int) G) {Rz : Int32 × St} : ∀ (n : Nat) (v1 : Int32) (v2 : Int32) (v3 : Int32) (z : St)  (H : Heap) (locs : List Loc) (ls : Array Slot), WP G z H → va_S (AW G) s.heap H locs → lv_has ls 5 [(0, .ref (G.2.2 172)), (1, .int v1), (2, .int v2), (3, .int v3)] → fn_X12_fits_4   n v1 v2 v3 z = some Rz → W p l e (rmd 6) s m args below meth c H locs 0 0 (QI below args s G Rz) (F0 m 4 ls []) := by
  obtain ⟨hx, hb, hml, hown, hts, hr, hlocks, hK, hG⟩ := id C
  intro n
  induction n with
  | zero => intro v1 v2 v3 z  H locs ls hP hS hl h; cases h
  | succ n ih =>
    intro v1 v2 v3 z  H locs ls hP hS hl h
    rw [fn_X12_fits_4] at h
    refine lv_iload_n hx hb dX12_fits_4 rfl (lv_at hl 3 rfl) ?_
    refine lv_bipush (v := 8) hx hb dX12_fits_5 (by decide) ?_
    refine lv_icmp_gt (tgt := 46) hx hb dX12_fits_7 (by decide) (fun c1 => ?_) (fun c1 => ?_)
    · rw [if_pos c1] at h
      refine lv_iload_n hx hb dX12_fits_46 rfl (lv_at hl 2 rfl) ?_
      exact x_iret hx hb hr hlocks hK hP hS h dX12_fits_47
    · rw [if_neg c1] at h
      refine lv_iconst (v := 1) hx hb dX12_fits_10 (by decide) ?_
      refine lv_istore (lv' := [(4, .int 1), (0, .ref (G.2.2 172)), (1, .int v1), (2, .int v2), (3, .int v3)]) hx hb dX12_fits_11 hl (by decide) rfl (fun ls hl => ?_)
      exact pf_X12_fits_13 C  ih fu v1 v2 v3 1 z  _ _ _ hP hS (lv_sub hl [1, 2, 3, 4, 0] rfl) h
def fn_X12_fits (v1 : Int32) (z : St) : Option (Int32 × St) := fn_X12_fits_4   fu v1 0 1 z
set_option maxHeartbeats 4000000 in
set_option maxRecDepth 100000 in
theorem m_X12_fits {l : Launch} {G : wG} (hG : Ok G) {v1 : Int32} {z : St} {Rz : Int32 × St}  (h : fn_X12_fits  v1 z = some Rz) : Met l yX12_fits (wsU yX12_fits cX12_fits 5 (some .int)) (rmd 6) (va_Pc [.ref (G.2.2 172), .int v1] (Pre G z)) (va_Qi (fun r u => (r, u) = Rz) (Pre G) (AW G)) 0 0 (AW G) := by
  refine Met.ofW (cc := cX12_fits) (maxL := 5) (ret := (some .int)) (by decide) rfl ?_
  intro p e s m args below meth c s₁ B hml hv
  obtain ⟨rfl, hP, hK⟩ := hv
  have C : CX p s m ([.ref (G.2.2 172), .int v1] : List Value).toArray meth c cX12_fits 5 (wsU yX12_fits cX12_fits 5 (some .int)) RX12 (some .int) G := ⟨B.exec, B.bytes, hml, findClass_of_methodNamed B.named, atoms_spec (ws := (wsU yX12_fits cX12_fits 5 (some .int))) B.pre, B.returns, B.notSynchronized, hK, hG⟩
  obtain ⟨hx, hb, -, hown, hts, hr, hlocks, -, -⟩ := id C
  have hS : va_S (AW G) s.heap s.heap [] := va_S.rf
  have hl := lv_entry [.ref (G.2.2 172), .int v1] (n := 5) (Nat.le_of_ble_eq_true rfl)
  rw [lg_entry_eq]
  generalize (lg_sl [.ref (G.2.2 172), .int v1] ++ List.replicate (5 - (lg_sl [.ref (G.2.2 172), .int v1]).length) Slot.unset).toArray = ls at hl ⊢
  have hl : lv_has ls 5 [(0, .ref (G.2.2 172)), (1, .int v1)] := hl
  unfold fn_X12_fits at h
  refine lv_iconst (v := 0) hx hb dX12_fits_0 (by decide) ?_
  refine lv_istore_n (lv' := [(2, .int 0), (0, .ref (G.2.2 172)), (1, .int v1)]) hx hb dX12_fits_1 rfl hl (by decide) rfl (fun ls hl => ?_)
  refine lv_iconst (v := 1) hx hb dX12_fits_2 (by decide) ?_
  refine lv_istore_n (lv' := [(3, .int 1), (2, .int 0), (0, .ref (G.2.2 172)), (1, .int v1)]) hx hb dX12_fits_3 rfl hl (by decide) rfl (fun ls hl => ?_)
  exact pf_X12_fits_4 C   fu v1 0 1 z  _ _ _ hP hS (lv_sub hl [2, 3, 1, 0] rfl) h
def fn_X12_sure_80 (k16 : Int32 → Int32 → Int32 → Int32 → St → Option (Int32 × St)) (k26 : Int32 → Int32 → Int32 → Int32 → Int32 → St → Option (Int32 × St)) (v1 : Int32) (v2 : Int32) (v3 : Int32) (v4 : Int32) (v5 : Int32) (z : St) : Option (Int32 × St) := k26 v1 v2 v3 v4 (v5 + 1) z
set_option maxHeartbeats 4000000 in
set_option maxRecDepth 100000 in
theorem pf_X12_sure_80 {p : Program} {l : Launch} {e : Env} {s : State} {m : MethodId} {args : Array Value} {below : List Frame} {meth : Method} {c : Code} {G : wG} (C : CX p s m args meth c cX12_sure 7 (wsU yX12_sure cX12_sure 7 (some .int)) RX12 (some .int) G) {Rz : Int32 × St} {k16 : Int32 → Int32 → Int32 → Int32 → St → Option (Int32 × St)} {k26 : Int32 → Int32 → Int32 → Int32 → Int32 → St → Option (Int32 × St)} (hk_16 : ∀ (v1 : Int32) (v2 : Int32) (v3 : Int32) (v4 : Int32) (z : St)  (H : Heap) (locs : List Loc) (ls : Array Slot), WP G z H → va_S (AW G) s.heap H locs → lv_has ls 7 [(0, .ref (G.2.2 172)), (1, .int v1), (2, .int v2), (3, .int v3), (4, .int v4)] → k16 v1 v2 v3 v4 z = some Rz → W p l e (rmd 6) s m args below meth c H locs 0 0 (QI below args s G Rz) (F0 m 16 ls [])) (hk_26 : ∀ (v1 : Int32) (v2 : Int32) (v3 : Int32) (v4 : Int32) (v5 : Int32) (z : St)  (H : Heap) (locs : List Loc) (ls : Array Slot), WP G z H → va_S (AW G) s.heap H locs → lv_has ls 7 [(0, .ref (G.2.2 172)), (1, .int v1), (2, .int v2), (3, .int v3), (4, .int v4), (5, .int v5)] → k26 v1 v2 v3 v4 v5 z = some Rz → W p l e (rmd 6) s m args below meth c H locs 0 0 (QI below args s G Rz) (F0 m 26 ls [])) (v1 : Int32) (v2 : Int32) (v3 : Int32) (v4 : Int32) (v5 : Int32) (z : St)  {H : Heap} {locs : List Loc} {ls : Array Slot} (hP : WP G z H) (hS : va_S (AW G) s.heap H locs) (hl : lv_has ls 7 [(0, .ref (G.2.2 172)), (1, .int v1), (2, .int v2), (3, .int v3), (4, .int v4), (5, .int v5)]) (h : fn_X12_sure_80  k16 k26 v1 v2 v3 v4 v5 z = some Rz) : W p l e (rmd 6) s m args below meth c H locs 0 0 (QI below args s G Rz) (F0 m 80 ls []) := by
  obtain ⟨hx, hb, hml, hown, hts, hr, hlocks, hK, hG⟩ := id C
  unfold fn_X12_sure_80 at h
  refine lv_iinc (v := (v5 + 1)) (lv' := [(5, .int (v5 + 1)), (0, .ref (G.2.2 172)), (1, .int v1), (2, .int v2), (3, .int v3), (4, .int v4)]) hx hb dX12_sure_80 hl (k := 5) rfl rfl (by decide) rfl (fun ls hl => ?_)
  refine lv_goto (tgt := 26) hx hb dX12_sure_83 (by decide) ?_
  exact hk_26 v1 v2 v3 v4 (v5 + 1) z  _ _ _ hP hS (lv_sub hl [1, 2, 3, 4, 5, 0] rfl) h
def fn_X12_sure_79 (k16 : Int32 → Int32 → Int32 → Int32 → St → Option (Int32 × St)) (k26 : Int32 → Int32 → Int32 → Int32 → Int32 → St → Option (Int32 × St)) (v1 : Int32) (v2 : Int32) (v4 : Int32) (v5 : Int32) (tv0 : Int32) (z : St) : Option (Int32 × St) := fn_X12_sure_80  k16 k26 v1 v2 tv0 v4 v5 z
set_option maxHeartbeats 4000000 in
set_option maxRecDepth 100000 in
theorem pf_X12_sure_79 {p : Program} {l : Launch} {e : Env} {s : State} {m : MethodId} {args : Array Value} {below : List Frame} {meth : Method} {c : Code} {G : wG} (C : CX p s m args meth c cX12_sure 7 (wsU yX12_sure cX12_sure 7 (some .int)) RX12 (some .int) G) {Rz : Int32 × St} {k16 : Int32 → Int32 → Int32 → Int32 → St → Option (Int32 × St)} {k26 : Int32 → Int32 → Int32 → Int32 → Int32 → St → Option (Int32 × St)} (hk_16 : ∀ (v1 : Int32) (v2 : Int32) (v3 : Int32) (v4 : Int32) (z : St)  (H : Heap) (locs : List Loc) (ls : Array Slot), WP G z H → va_S (AW G) s.heap H locs → lv_has ls 7 [(0, .ref (G.2.2 172)), (1, .int v1), (2, .int v2), (3, .int v3), (4, .int v4)] → k16 v1 v2 v3 v4 z = some Rz → W p l e (rmd 6) s m args below meth c H locs 0 0 (QI below args s G Rz) (F0 m 16 ls [])) (hk_26 : ∀ (v1 : Int32) (v2 : Int32) (v3 : Int32) (v4 : Int32) (v5 : Int32) (z : St)  (H : Heap) (locs : List Loc) (ls : Array Slot), WP G z H → va_S (AW G) s.heap H locs → lv_has ls 7 [(0, .ref (G.2.2 172)), (1, .int v1), (2, .int v2), (3, .int v3), (4, .int v4), (5, .int v5)] → k26 v1 v2 v3 v4 v5 z = some Rz → W p l e (rmd 6) s m args below meth c H locs 0 0 (QI below args s G Rz) (F0 m 26 ls [])) (v1 : Int32) (v2 : Int32) (v4 : Int32) (v5 : Int32) (tv0 : Int32) (z : St)  {H : Heap} {locs : List Loc} {ls : Array Slot} (hP : WP G z H) (hS : va_S (AW G) s.heap H locs) (hl : lv_has ls 7 [(0, .ref (G.2.2 172)), (1, .int v1), (2, .int v2), (4, .int v4), (5, .int v5)]) (h : fn_X12_sure_79  k16 k26 v1 v2 v4 v5 tv0 z = some Rz) : W p l e (rmd 6) s m args below meth c H locs 0 0 (QI below args s G Rz) (F0 m 79 ls [.int tv0]) := by
  obtain ⟨hx, hb, hml, hown, hts, hr, hlocks, hK, hG⟩ := id C
  unfold fn_X12_sure_79 at h
  refine lv_istore_n (lv' := [(3, .int tv0), (0, .ref (G.2.2 172)), (1, .int v1), (2, .int v2), (4, .int v4), (5, .int v5)]) hx hb dX12_sure_79 rfl hl (by decide) rfl (fun ls hl => ?_)
  exact pf_X12_sure_80 C  hk_16 hk_26 v1 v2 tv0 v4 v5 z  hP hS (lv_sub hl [1, 2, 3, 0, 4, 5] rfl) h
def fn_X12_sure_72 (k16 : Int32 → Int32 → Int32 → Int32 → St → Option (Int32 × St)) (k26 : Int32 → Int32 → Int32 → Int32 → Int32 → St → Option (Int32 × St)) (v1 : Int32) (v2 : Int32) (v4 : Int32) (v5 : Int32) (v6 : Int32) (z : St) : Option (Int32 × St) := fn_X12_sure_79  k16 k26 v1 v2 v4 v5 v6 z
set_option maxHeartbeats 4000000 in
set_option maxRecDepth 100000 in
theorem pf_X12_sure_72 {p : Program} {l : Launch} {e : Env} {s : State} {m : MethodId} {args : Array Value} {below : List Frame} {meth : Method} {c : Code} {G : wG} (C : CX p s m args meth c cX12_sure 7 (wsU yX12_sure cX12_sure 7 (some .int)) RX12 (some .int) G) {Rz : Int32 × St} {k16 : Int32 → Int32 → Int32 → Int32 → St → Option (Int32 × St)} {k26 : Int32 → Int32 → Int32 → Int32 → Int32 → St → Option (Int32 × St)} (hk_16 : ∀ (v1 : Int32) (v2 : Int32) (v3 : Int32) (v4 : Int32) (z : St)  (H : Heap) (locs : List Loc) (ls : Array Slot), WP G z H → va_S (AW G) s.heap H locs → lv_has ls 7 [(0, .ref (G.2.2 172)), (1, .int v1), (2, .int v2), (3, .int v3), (4, .int v4)] → k16 v1 v2 v3 v4 z = some Rz → W p l e (rmd 6) s m args below meth c H locs 0 0 (QI below args s G Rz) (F0 m 16 ls [])) (hk_26 : ∀ (v1 : Int32) (v2 : Int32) (v3 : Int32) (v4 : Int32) (v5 : Int32) (z : St)  (H : Heap) (locs : List Loc) (ls : Array Slot), WP G z H → va_S (AW G) s.heap H locs → lv_has ls 7 [(0, .ref (G.2.2 172)), (1, .int v1), (2, .int v2), (3, .int v3), (4, .int v4), (5, .int v5)] → k26 v1 v2 v3 v4 v5 z = some Rz → W p l e (rmd 6) s m args below meth c H locs 0 0 (QI below args s G Rz) (F0 m 26 ls [])) (v1 : Int32) (v2 : Int32) (v4 : Int32) (v5 : Int32) (v6 : Int32) (z : St)  {H : Heap} {locs : List Loc} {ls : Array Slot} (hP : WP G z H) (hS : va_S (AW G) s.heap H locs) (hl : lv_has ls 7 [(0, .ref (G.2.2 172)), (1, .int v1), (2, .int v2), (4, .int v4), (5, .int v5), (6, .int v6)]) (h : fn_X12_sure_72  k16 k26 v1 v2 v4 v5 v6 z = some Rz) : W p l e (rmd 6) s m args below meth c H locs 0 0 (QI below args s G Rz) (F0 m 72 ls []) := by
  obtain ⟨hx, hb, hml, hown, hts, hr, hlocks, hK, hG⟩ := id C
  unfold fn_X12_sure_72 at h
  refine lv_iload hx hb dX12_sure_72 (lv_at hl 5 rfl) ?_
  refine lv_goto (tgt := 79) hx hb dX12_sure_74 (by decide) ?_
  exact pf_X12_sure_79 C  hk_16 hk_26 v1 v2 v4 v5 v6 z  hP hS (lv_sub hl [0, 1, 2, 3, 4] rfl) h
def fn_X12_sure_59 (k16 : Int32 → Int32 → Int32 → Int32 → St → Option (Int32 × St)) (k26 : Int32 → Int32 → Int32 → Int32 → Int32 → St → Option (Int32 × St)) (v1 : Int32) (v2 : Int32) (v3 : Int32) (v4 : Int32) (v5 : Int32) (tv0 : Int32) (z : St) : Option (Int32 × St) := (if v3 = (-1) then fn_X12_sure_72  k16 k26 v1 v2 v4 v5 tv0 z else (if v3 = tv0 then fn_X12_sure_72  k16 k26 v1 v2 v4 v5 tv0 z else fn_X12_sure_79  k16 k26 v1 v2 v4 v5 (-2) z))
set_option maxHeartbeats 4000000 in
set_option maxRecDepth 100000 in
theorem pf_X12_sure_59 {p : Program} {l : Launch} {e : Env} {s : State} {m : MethodId} {args : Array Value} {below : List Frame} {meth : Method} {c : Code} {G : wG} (C : CX p s m args meth c cX12_sure 7 (wsU yX12_sure cX12_sure 7 (some .int)) RX12 (some .int) G) {Rz : Int32 × St} {k16 : Int32 → Int32 → Int32 → Int32 → St → Option (Int32 × St)} {k26 : Int32 → Int32 → Int32 → Int32 → Int32 → St → Option (Int32 × St)} (hk_16 : ∀ (v1 : Int32) (v2 : Int32) (v3 : Int32) (v4 : Int32) (z : St)  (H : Heap) (locs : List Loc) (ls : Array Slot), WP G z H → va_S (AW G) s.heap H locs → lv_has ls 7 [(0, .ref (G.2.2 172)), (1, .int v1), (2, .int v2), (3, .int v3), (4, .int v4)] → k16 v1 v2 v3 v4 z = some Rz → W p l e (rmd 6) s m args below meth c H locs 0 0 (QI below args s G Rz) (F0 m 16 ls [])) (hk_26 : ∀ (v1 : Int32) (v2 : Int32) (v3 : Int32) (v4 : Int32) (v5 : Int32) (z : St)  (H : Heap) (locs : List Loc) (ls : Array Slot), WP G z H → va_S (AW G) s.heap H locs → lv_has ls 7 [(0, .ref (G.2.2 172)), (1, .int v1), (2, .int v2), (3, .int v3), (4, .int v4), (5, .int v5)] → k26 v1 v2 v3 v4 v5 z = some Rz → W p l e (rmd 6) s m args below meth c H locs 0 0 (QI below args s G Rz) (F0 m 26 ls [])) (v1 : Int32) (v2 : Int32) (v3 : Int32) (v4 : Int32) (v5 : Int32) (tv0 : Int32) (z : St)  {H : Heap} {locs : List Loc} {ls : Array Slot} (hP : WP G z H) (hS : va_S (AW G) s.heap H locs) (hl : lv_has ls 7 [(0, .ref (G.2.2 172)), (1, .int v1), (2, .int v2), (3, .int v3), (4, .int v4), (5, .int v5)]) (h : fn_X12_sure_59  k16 k26 v1 v2 v3 v4 v5 tv0 z = some Rz) : W p l e (rmd 6) s m args below meth c H locs 0 0 (QI below args s G Rz) (F0 m 59 ls [.int tv0]) := by
  obtain ⟨hx, hb, hml, hown, hts, hr, hlocks, hK, hG⟩ := id C
  unfold fn_X12_sure_59 at h
  refine lv_istore (lv' := [(6, .int tv0), (0, .ref (G.2.2 172)), (1, .int v1), (2, .int v2), (3, .int v3), (4, .int v4), (5, .int v5)]) hx hb dX12_sure_59 hl (by decide) rfl (fun ls hl => ?_)
  refine lv_iload_n hx hb dX12_sure_61 rfl (lv_at hl 4 rfl) ?_
  refine lv_iconst (v := (-1)) hx hb dX12_sure_62 (by decide) ?_
  refine lv_icmp_eq (tgt := 72) hx hb dX12_sure_63 (by decide) (fun c1 => ?_) (fun c1 => ?_)
  · rw [if_pos c1] at h
    exact pf_X12_sure_72 C  hk_16 hk_26 v1 v2 v4 v5 tv0 z  hP hS (lv_sub hl [1, 2, 3, 5, 6, 0] rfl) h
  · rw [if_neg c1] at h
    refine lv_iload_n hx hb dX12_sure_66 rfl (lv_at hl 4 rfl) ?_
    refine lv_iload hx hb dX12_sure_67 (lv_at hl 0 rfl) ?_
    refine lv_icmp_ne (tgt := 77) hx hb dX12_sure_69 (by decide) (fun c2 => ?_) (fun c2 => ?_)
    · rw [if_neg c2] at h
      refine lv_bipush (v := (-2)) hx hb dX12_sure_77 (by decide) ?_
      exact pf_X12_sure_79 C  hk_16 hk_26 v1 v2 v4 v5 (-2) z  hP hS (lv_sub hl [1, 2, 3, 5, 6] rfl) h
    · rw [if_pos c2] at h
      exact pf_X12_sure_72 C  hk_16 hk_26 v1 v2 v4 v5 tv0 z  hP hS (lv_sub hl [1, 2, 3, 5, 6, 0] rfl) h
def fn_X12_sure_26 (k16 : Int32 → Int32 → Int32 → Int32 → St → Option (Int32 × St)) : Nat → Int32 → Int32 → Int32 → Int32 → Int32 → St → Option (Int32 × St)
  | 0, _, _, _, _, _, _ => none
  | n + 1, v1, v2, v3, v4, v5, z => (if 8 < v5 then k16 v1 v2 v3 (v4 + 1) z else bd (fn_X12_isFit  v4 v5 v2 z) (fun r3 z4 => (if r3 = 0 then fn_X12_sure_80  k16 (fn_X12_sure_26  k16 n) v1 v2 v3 v4 v5 z4 else (if v1 = 0 then fn_X12_sure_59  k16 (fn_X12_sure_26  k16 n) v1 v2 v3 v4 v5 v4 z4 else fn_X12_sure_59  k16 (fn_X12_sure_26  k16 n) v1 v2 v3 v4 v5 v5 z4))))
set_option maxHeartbeats 4000000 in
set_option maxRecDepth 100000 in
theorem pf_X12_sure_26 {p : Program} {l : Launch} {e : Env} {s : State} {m : MethodId} {args : Array Value} {below : List Frame} {meth : Method} {c : Code} {G : wG} (C : CX p s m args meth c cX12_sure 7 (wsU yX12_sure cX12_sure 7 (some .int)) RX12 (some .int) G) {Rz : Int32 × St} {k16 : Int32 → Int32 → Int32 → Int32 → St → Option (Int32 × St)} (hk_16 : ∀ (v1 : Int32) (v2 : Int32) (v3 : Int32) (v4 : Int32) (z : St)  (H : Heap) (locs : List Loc) (ls : Array Slot), WP G z H → va_S (AW G) s.heap H locs → lv_has ls 7 [(0, .ref (G.2.2 172)), (1, .int v1), (2, .int v2), (3, .int v3), (4, .int v4)] → k16 v1 v2 v3 v4 z = some Rz → W p l e (rmd 6) s m args below meth c H locs 0 0 (QI below args s G Rz) (F0 m 16 ls [])) : ∀ (n : Nat) (v1 : Int32) (v2 : Int32) (v3 : Int32) (v4 : Int32) (v5 : Int32) (z : St)  (H : Heap) (locs : List Loc) (ls : Array Slot), WP G z H → va_S (AW G) s.heap H locs → lv_has ls 7 [(0, .ref (G.2.2 172)), (1, .int v1), (2, .int v2), (3, .int v3), (4, .int v4), (5, .int v5)] → fn_X12_sure_26  k16 n v1 v2 v3 v4 v5 z = some Rz → W p l e (rmd 6) s m args below meth c H locs 0 0 (QI below args s G Rz) (F0 m 26 ls []) := by
  obtain ⟨hx, hb, hml, hown, hts, hr, hlocks, hK, hG⟩ := id C
  intro n
  induction n with
  | zero => intro v1 v2 v3 v4 v5 z  H locs ls hP hS hl h; cases h
  | succ n ih =>
    intro v1 v2 v3 v4 v5 z  H locs ls hP hS hl h
    rw [fn_X12_sure_26] at h
    refine lv_iload hx hb dX12_sure_26 (lv_at hl 5 rfl) ?_
    refine lv_bipush (v := 8) hx hb dX12_sure_28 (by decide) ?_
    refine lv_icmp_gt (tgt := 86) hx hb dX12_sure_30 (by decide) (fun c1 => ?_) (fun c1 => ?_)
    · rw [if_pos c1] at h
      refine lv_iinc (v := (v4 + 1)) (lv' := [(4, .int (v4 + 1)), (0, .ref (G.2.2 172)), (1, .int v1), (2, .int v2), (3, .int v3), (5, .int v5)]) hx hb dX12_sure_86 hl (k := 4) rfl rfl (by decide) rfl (fun ls hl => ?_)
      refine lv_goto (tgt := 16) hx hb dX12_sure_89 (by decide) ?_
      exact hk_16 v1 v2 v3 (v4 + 1) z  _ _ _ hP hS (lv_sub hl [1, 2, 3, 4, 0] rfl) h
    · rw [if_neg c1] at h
      refine lv_aload_n hx hb dX12_sure_33 rfl (lv_at hl 0 rfl) ?_
      refine lv_iload hx hb dX12_sure_34 (lv_at hl 4 rfl) ?_
      refine lv_iload hx hb dX12_sure_36 (lv_at hl 5 rfl) ?_
      refine lv_iload_n hx hb dX12_sure_38 rfl (lv_at hl 2 rfl) ?_
      obtain ⟨r3, z4, h2, h⟩ := bd_s h
      refine x_Vi (Rz := (r3, z4)) (As := [.int v4, .int v5, .int v2]) (rest := []) ⟨hx, hb, hml, hown, hts⟩ hK hP hS (kd_lt k_172 (by decide)) (cell_12 k_172) rfl (m_X12_isFit hG   h2) (cwV 3 hts (gV lw_2109 lw_2111 lw_103 lw_125 lw_2112) rfl rfl rfl (by decide +kernel) (rmd_ok (by decide) (by decide))) rfl hl.1 rfl (Nat.le_of_ble_eq_true rfl) dX12_sure_39 ⟨Nat.le_refl _, Nat.le_refl _⟩ (fun H locs hP hS => ?_)
      refine lv_if_ne (tgt := 48) hx hb dX12_sure_42 (by decide) (fun c5 => ?_) (fun c5 => ?_)
      · rw [if_neg c5] at h
        refine lv_iload_n hx hb dX12_sure_48 rfl (lv_at hl 1 rfl) ?_
        refine lv_if_ne (tgt := 57) hx hb dX12_sure_49 (by decide) (fun c6 => ?_) (fun c6 => ?_)
        · rw [if_neg c6] at h
          refine lv_iload hx hb dX12_sure_57 (lv_at hl 5 rfl) ?_
          exact pf_X12_sure_59 C  hk_16 ih v1 v2 v3 v4 v5 v5 z4  hP hS (lv_sub hl [0, 1, 2, 3, 4, 5] rfl) h
        · rw [if_pos c6] at h
          refine lv_iload hx hb dX12_sure_52 (lv_at hl 4 rfl) ?_
          refine lv_goto (tgt := 59) hx hb dX12_sure_54 (by decide) ?_
          exact pf_X12_sure_59 C  hk_16 ih v1 v2 v3 v4 v5 v4 z4  hP hS (lv_sub hl [0, 1, 2, 3, 4, 5] rfl) h
      · rw [if_pos c5] at h
        refine lv_goto (tgt := 80) hx hb dX12_sure_45 (by decide) ?_
        exact pf_X12_sure_80 C  hk_16 ih v1 v2 v3 v4 v5 z4  hP hS (lv_sub hl [0, 1, 2, 3, 4, 5] rfl) h
def fn_X12_sure_16 : Nat → Int32 → Int32 → Int32 → Int32 → St → Option (Int32 × St)
  | 0, _, _, _, _, _ => none
  | n + 1, v1, v2, v3, v4, z => (if 8 < v4 then some (v3, z) else fn_X12_sure_26  (fn_X12_sure_16   n) fu v1 v2 v3 v4 1 z)
set_option maxHeartbeats 4000000 in
set_option maxRecDepth 100000 in
theorem pf_X12_sure_16 {p : Program} {l : Launch} {e : Env} {s : State} {m : MethodId} {args : Array Value} {below : List Frame} {meth : Method} {c : Code} {G : wG} (C : CX p s m args meth c cX12_sure 7 (wsU yX12_sure cX12_sure 7 (some .int)) RX12 (some .int) G) {Rz : Int32 × St} : ∀ (n : Nat) (v1 : Int32) (v2 : Int32) (v3 : Int32) (v4 : Int32) (z : St)  (H : Heap) (locs : List Loc) (ls : Array Slot), WP G z H → va_S (AW G) s.heap H locs → lv_has ls 7 [(0, .ref (G.2.2 172)), (1, .int v1), (2, .int v2), (3, .int v3), (4, .int v4)] → fn_X12_sure_16   n v1 v2 v3 v4 z = some Rz → W p l e (rmd 6) s m args below meth c H locs 0 0 (QI below args s G Rz) (F0 m 16 ls []) := by
  obtain ⟨hx, hb, hml, hown, hts, hr, hlocks, hK, hG⟩ := id C
  intro n
  induction n with
  | zero => intro v1 v2 v3 v4 z  H locs ls hP hS hl h; cases h
  | succ n ih =>
    intro v1 v2 v3 v4 z  H locs ls hP hS hl h
    rw [fn_X12_sure_16] at h
    refine lv_iload hx hb dX12_sure_16 (lv_at hl 4 rfl) ?_
    refine lv_bipush (v := 8) hx hb dX12_sure_18 (by decide) ?_
    refine lv_icmp_gt (tgt := 92) hx hb dX12_sure_20 (by decide) (fun c1 => ?_) (fun c1 => ?_)
    · rw [if_pos c1] at h
      refine lv_iload_n hx hb dX12_sure_92 rfl (lv_at hl 3 rfl) ?_
      exact x_iret hx hb hr hlocks hK hP hS h dX12_sure_93
    · rw [if_neg c1] at h
      refine lv_iconst (v := 1) hx hb dX12_sure_23 (by decide) ?_
      refine lv_istore (lv' := [(5, .int 1), (0, .ref (G.2.2 172)), (1, .int v1), (2, .int v2), (3, .int v3), (4, .int v4)]) hx hb dX12_sure_24 hl (by decide) rfl (fun ls hl => ?_)
      exact pf_X12_sure_26 C  ih fu v1 v2 v3 v4 1 z  _ _ _ hP hS (lv_sub hl [1, 2, 3, 4, 5, 0] rfl) h
def fn_X12_sure (v1 : Int32) (v2 : Int32) (z : St) : Option (Int32 × St) := bd (fn_X12_isIn  v1 0 1 z) (fun r2 z3 => (if r2 = 0 then some ((-1), z3) else fn_X12_sure_16   fu v1 v2 (-1) 1 z3))
set_option maxHeartbeats 4000000 in
set_option maxRecDepth 100000 in
theorem m_X12_sure {l : Launch} {G : wG} (hG : Ok G) {v1 : Int32} {v2 : Int32} {z : St} {Rz : Int32 × St}  (h : fn_X12_sure  v1 v2 z = some Rz) : Met l yX12_sure (wsU yX12_sure cX12_sure 7 (some .int)) (rmd 6) (va_Pc [.ref (G.2.2 172), .int v1, .int v2] (Pre G z)) (va_Qi (fun r u => (r, u) = Rz) (Pre G) (AW G)) 0 0 (AW G) := by
  refine Met.ofW (cc := cX12_sure) (maxL := 7) (ret := (some .int)) (by decide) rfl ?_
  intro p e s m args below meth c s₁ B hml hv
  obtain ⟨rfl, hP, hK⟩ := hv
  have C : CX p s m ([.ref (G.2.2 172), .int v1, .int v2] : List Value).toArray meth c cX12_sure 7 (wsU yX12_sure cX12_sure 7 (some .int)) RX12 (some .int) G := ⟨B.exec, B.bytes, hml, findClass_of_methodNamed B.named, atoms_spec (ws := (wsU yX12_sure cX12_sure 7 (some .int))) B.pre, B.returns, B.notSynchronized, hK, hG⟩
  obtain ⟨hx, hb, -, hown, hts, hr, hlocks, -, -⟩ := id C
  have hS : va_S (AW G) s.heap s.heap [] := va_S.rf
  have hl := lv_entry [.ref (G.2.2 172), .int v1, .int v2] (n := 7) (Nat.le_of_ble_eq_true rfl)
  rw [lg_entry_eq]
  generalize (lg_sl [.ref (G.2.2 172), .int v1, .int v2] ++ List.replicate (7 - (lg_sl [.ref (G.2.2 172), .int v1, .int v2]).length) Slot.unset).toArray = ls at hl ⊢
  have hl : lv_has ls 7 [(0, .ref (G.2.2 172)), (1, .int v1), (2, .int v2)] := hl
  unfold fn_X12_sure at h
  refine lv_iload_n hx hb dX12_sure_0 rfl (lv_at hl 1 rfl) ?_
  refine lv_iconst (v := 0) hx hb dX12_sure_1 (by decide) ?_
  refine lv_iconst (v := 1) hx hb dX12_sure_2 (by decide) ?_
  obtain ⟨r2, z3, h1, h⟩ := bd_s h
  refine x_Si (Rz := (r2, z3)) (As := [.int v1, .int 0, .int 1]) (rest := []) ⟨hx, hb, hml, hown, hts⟩ hK hP hS (m_X12_isIn hG   h1) (va_cwS 3 hts (gS lw_1827 lw_1828 lw_125 lw_1829) rfl rfl rfl (by decide +kernel) (rmd_ok (by decide) (by decide))) rfl hl.1 rfl (Nat.le_of_ble_eq_true rfl) dX12_sure_3 ⟨Nat.le_refl _, Nat.le_refl _⟩ (fun H locs hP hS => ?_)
  refine lv_if_ne (tgt := 11) hx hb dX12_sure_6 (by decide) (fun c4 => ?_) (fun c4 => ?_)
  · rw [if_neg c4] at h
    refine lv_iconst (v := (-1)) hx hb dX12_sure_11 (by decide) ?_
    refine lv_istore_n (lv' := [(3, .int (-1)), (0, .ref (G.2.2 172)), (1, .int v1), (2, .int v2)]) hx hb dX12_sure_12 rfl hl (by decide) rfl (fun ls hl => ?_)
    refine lv_iconst (v := 1) hx hb dX12_sure_13 (by decide) ?_
    refine lv_istore (lv' := [(4, .int 1), (3, .int (-1)), (0, .ref (G.2.2 172)), (1, .int v1), (2, .int v2)]) hx hb dX12_sure_14 hl (by decide) rfl (fun ls hl => ?_)
    exact pf_X12_sure_16 C   fu v1 v2 (-1) 1 z3  _ _ _ hP hS (lv_sub hl [2, 3, 4, 1, 0] rfl) h
  · rw [if_pos c4] at h
    refine lv_iconst (v := (-1)) hx hb dX12_sure_9 (by decide) ?_
    exact x_iret hx hb hr hlocks hK hP hS h dX12_sure_10
def fn_X12_leftBy_61 (k8 : Int32 → Int32 → Int32 → Int32 → Int32 → St → Option (Int32 × St)) (k18 : Int32 → Int32 → Int32 → Int32 → Int32 → Int32 → St → Option (Int32 × St)) (v1 : Int32) (v2 : Int32) (v3 : Int32) (v4 : Int32) (v5 : Int32) (v6 : Int32) (z : St) : Option (Int32 × St) := k18 v1 v2 v3 v4 v5 (v6 + 1) z
set_option maxHeartbeats 4000000 in
set_option maxRecDepth 100000 in
theorem pf_X12_leftBy_61 {p : Program} {l : Launch} {e : Env} {s : State} {m : MethodId} {args : Array Value} {below : List Frame} {meth : Method} {c : Code} {G : wG} (C : CX p s m args meth c cX12_leftBy 7 (wsU yX12_leftBy cX12_leftBy 7 (some .int)) RX12 (some .int) G) {Rz : Int32 × St} {k8 : Int32 → Int32 → Int32 → Int32 → Int32 → St → Option (Int32 × St)} {k18 : Int32 → Int32 → Int32 → Int32 → Int32 → Int32 → St → Option (Int32 × St)} (hk_8 : ∀ (v1 : Int32) (v2 : Int32) (v3 : Int32) (v4 : Int32) (v5 : Int32) (z : St)  (H : Heap) (locs : List Loc) (ls : Array Slot), WP G z H → va_S (AW G) s.heap H locs → lv_has ls 7 [(0, .ref (G.2.2 172)), (1, .int v1), (2, .int v2), (3, .int v3), (4, .int v4), (5, .int v5)] → k8 v1 v2 v3 v4 v5 z = some Rz → W p l e (rmd 6) s m args below meth c H locs 0 0 (QI below args s G Rz) (F0 m 8 ls [])) (hk_18 : ∀ (v1 : Int32) (v2 : Int32) (v3 : Int32) (v4 : Int32) (v5 : Int32) (v6 : Int32) (z : St)  (H : Heap) (locs : List Loc) (ls : Array Slot), WP G z H → va_S (AW G) s.heap H locs → lv_has ls 7 [(0, .ref (G.2.2 172)), (1, .int v1), (2, .int v2), (3, .int v3), (4, .int v4), (5, .int v5), (6, .int v6)] → k18 v1 v2 v3 v4 v5 v6 z = some Rz → W p l e (rmd 6) s m args below meth c H locs 0 0 (QI below args s G Rz) (F0 m 18 ls [])) (v1 : Int32) (v2 : Int32) (v3 : Int32) (v4 : Int32) (v5 : Int32) (v6 : Int32) (z : St)  {H : Heap} {locs : List Loc} {ls : Array Slot} (hP : WP G z H) (hS : va_S (AW G) s.heap H locs) (hl : lv_has ls 7 [(0, .ref (G.2.2 172)), (1, .int v1), (2, .int v2), (3, .int v3), (4, .int v4), (5, .int v5), (6, .int v6)]) (h : fn_X12_leftBy_61  k8 k18 v1 v2 v3 v4 v5 v6 z = some Rz) : W p l e (rmd 6) s m args below meth c H locs 0 0 (QI below args s G Rz) (F0 m 61 ls []) := by
  obtain ⟨hx, hb, hml, hown, hts, hr, hlocks, hK, hG⟩ := id C
  unfold fn_X12_leftBy_61 at h
  refine lv_iinc (v := (v6 + 1)) (lv' := [(6, .int (v6 + 1)), (0, .ref (G.2.2 172)), (1, .int v1), (2, .int v2), (3, .int v3), (4, .int v4), (5, .int v5)]) hx hb dX12_leftBy_61 hl (k := 6) rfl rfl (by decide) rfl (fun ls hl => ?_)
  refine lv_goto (tgt := 18) hx hb dX12_leftBy_64 (by decide) ?_
  exact hk_18 v1 v2 v3 v4 v5 (v6 + 1) z  _ _ _ hP hS (lv_sub hl [1, 2, 3, 4, 5, 6, 0] rfl) h
def fn_X12_leftBy_18 (k8 : Int32 → Int32 → Int32 → Int32 → Int32 → St → Option (Int32 × St)) : Nat → Int32 → Int32 → Int32 → Int32 → Int32 → Int32 → St → Option (Int32 × St)
  | 0, _, _, _, _, _, _, _ => none
  | n + 1, v1, v2, v3, v4, v5, v6, z => (if 8 < v6 then k8 v1 v2 v3 v4 (v5 + 1) z else bd (fn_X12_isFit  v5 v6 v2 z) (fun r3 z4 => (if r3 = 0 then fn_X12_leftBy_61  k8 (fn_X12_leftBy_18  k8 n) v1 v2 v3 v4 v5 v6 z4 else bd (fn_X12_hasIcing  v5 v6 v1 z4) (fun r7 z8 => (if r7 = 0 then fn_X12_leftBy_61  k8 (fn_X12_leftBy_18  k8 n) v1 v2 v3 (v4 + 1) v5 v6 z8 else fn_X12_leftBy_61  k8 (fn_X12_leftBy_18  k8 n) v1 v2 (v3 + 1) v4 v5 v6 z8)))))
set_option maxHeartbeats 4000000 in
set_option maxRecDepth 100000 in
theorem pf_X12_leftBy_18 {p : Program} {l : Launch} {e : Env} {s : State} {m : MethodId} {args : Array Value} {below : List Frame} {meth : Method} {c : Code} {G : wG} (C : CX p s m args meth c cX12_leftBy 7 (wsU yX12_leftBy cX12_leftBy 7 (some .int)) RX12 (some .int) G) {Rz : Int32 × St} {k8 : Int32 → Int32 → Int32 → Int32 → Int32 → St → Option (Int32 × St)} (hk_8 : ∀ (v1 : Int32) (v2 : Int32) (v3 : Int32) (v4 : Int32) (v5 : Int32) (z : St)  (H : Heap) (locs : List Loc) (ls : Array Slot), WP G z H → va_S (AW G) s.heap H locs → lv_has ls 7 [(0, .ref (G.2.2 172)), (1, .int v1), (2, .int v2), (3, .int v3), (4, .int v4), (5, .int v5)] → k8 v1 v2 v3 v4 v5 z = some Rz → W p l e (rmd 6) s m args below meth c H locs 0 0 (QI below args s G Rz) (F0 m 8 ls [])) : ∀ (n : Nat) (v1 : Int32) (v2 : Int32) (v3 : Int32) (v4 : Int32) (v5 : Int32) (v6 : Int32) (z : St)  (H : Heap) (locs : List Loc) (ls : Array Slot), WP G z H → va_S (AW G) s.heap H locs → lv_has ls 7 [(0, .ref (G.2.2 172)), (1, .int v1), (2, .int v2), (3, .int v3), (4, .int v4), (5, .int v5), (6, .int v6)] → fn_X12_leftBy_18  k8 n v1 v2 v3 v4 v5 v6 z = some Rz → W p l e (rmd 6) s m args below meth c H locs 0 0 (QI below args s G Rz) (F0 m 18 ls []) := by
  obtain ⟨hx, hb, hml, hown, hts, hr, hlocks, hK, hG⟩ := id C
  intro n
  induction n with
  | zero => intro v1 v2 v3 v4 v5 v6 z  H locs ls hP hS hl h; cases h
  | succ n ih =>
    intro v1 v2 v3 v4 v5 v6 z  H locs ls hP hS hl h
    rw [fn_X12_leftBy_18] at h
    refine lv_iload hx hb dX12_leftBy_18 (lv_at hl 6 rfl) ?_
    refine lv_bipush (v := 8) hx hb dX12_leftBy_20 (by decide) ?_
    refine lv_icmp_gt (tgt := 67) hx hb dX12_leftBy_22 (by decide) (fun c1 => ?_) (fun c1 => ?_)
    · rw [if_pos c1] at h
      refine lv_iinc (v := (v5 + 1)) (lv' := [(5, .int (v5 + 1)), (0, .ref (G.2.2 172)), (1, .int v1), (2, .int v2), (3, .int v3), (4, .int v4), (6, .int v6)]) hx hb dX12_leftBy_67 hl (k := 5) rfl rfl (by decide) rfl (fun ls hl => ?_)
      refine lv_goto (tgt := 8) hx hb dX12_leftBy_70 (by decide) ?_
      exact hk_8 v1 v2 v3 v4 (v5 + 1) z  _ _ _ hP hS (lv_sub hl [1, 2, 3, 4, 5, 0] rfl) h
    · rw [if_neg c1] at h
      refine lv_aload_n hx hb dX12_leftBy_25 rfl (lv_at hl 0 rfl) ?_
      refine lv_iload hx hb dX12_leftBy_26 (lv_at hl 5 rfl) ?_
      refine lv_iload hx hb dX12_leftBy_28 (lv_at hl 6 rfl) ?_
      refine lv_iload_n hx hb dX12_leftBy_30 rfl (lv_at hl 2 rfl) ?_
      obtain ⟨r3, z4, h2, h⟩ := bd_s h
      refine x_Vi (Rz := (r3, z4)) (As := [.int v5, .int v6, .int v2]) (rest := []) ⟨hx, hb, hml, hown, hts⟩ hK hP hS (kd_lt k_172 (by decide)) (cell_12 k_172) rfl (m_X12_isFit hG   h2) (cwV 3 hts (gV lw_2109 lw_2111 lw_103 lw_125 lw_2112) rfl rfl rfl (by decide +kernel) (rmd_ok (by decide) (by decide))) rfl hl.1 rfl (Nat.le_of_ble_eq_true rfl) dX12_leftBy_31 ⟨Nat.le_refl _, Nat.le_refl _⟩ (fun H locs hP hS => ?_)
      refine lv_if_ne (tgt := 40) hx hb dX12_leftBy_34 (by decide) (fun c5 => ?_) (fun c5 => ?_)
      · rw [if_neg c5] at h
        refine lv_aload_n hx hb dX12_leftBy_40 rfl (lv_at hl 0 rfl) ?_
        refine lv_iload hx hb dX12_leftBy_41 (lv_at hl 5 rfl) ?_
        refine lv_iload hx hb dX12_leftBy_43 (lv_at hl 6 rfl) ?_
        refine lv_iload_n hx hb dX12_leftBy_45 rfl (lv_at hl 1 rfl) ?_
        obtain ⟨r7, z8, h6, h⟩ := bd_s h
        refine x_Vi (Rz := (r7, z8)) (As := [.int v5, .int v6, .int v1]) (rest := []) ⟨hx, hb, hml, hown, hts⟩ hK hP hS (kd_lt k_172 (by decide)) (cell_12 k_172) rfl (m_X12_hasIcing hG   h6) (cwV 3 hts (gV lw_2117 lw_2119 lw_105 lw_125 lw_2120) rfl rfl rfl (by decide +kernel) (rmd_ok (by decide) (by decide))) rfl hl.1 rfl (Nat.le_of_ble_eq_true rfl) dX12_leftBy_46 ⟨Nat.le_refl _, Nat.le_refl _⟩ (fun H locs hP hS => ?_)
        refine lv_if_eq (tgt := 58) hx hb dX12_leftBy_49 (by decide) (fun c9 => ?_) (fun c9 => ?_)
        · rw [if_pos c9] at h
          refine lv_iinc (v := (v4 + 1)) (lv' := [(4, .int (v4 + 1)), (0, .ref (G.2.2 172)), (1, .int v1), (2, .int v2), (3, .int v3), (5, .int v5), (6, .int v6)]) hx hb dX12_leftBy_58 hl (k := 4) rfl rfl (by decide) rfl (fun ls hl => ?_)
          exact pf_X12_leftBy_61 C  hk_8 ih v1 v2 v3 (v4 + 1) v5 v6 z8  hP hS (lv_sub hl [1, 2, 3, 4, 0, 5, 6] rfl) h
        · rw [if_neg c9] at h
          refine lv_iinc (v := (v3 + 1)) (lv' := [(3, .int (v3 + 1)), (0, .ref (G.2.2 172)), (1, .int v1), (2, .int v2), (4, .int v4), (5, .int v5), (6, .int v6)]) hx hb dX12_leftBy_52 hl (k := 3) rfl rfl (by decide) rfl (fun ls hl => ?_)
          refine lv_goto (tgt := 61) hx hb dX12_leftBy_55 (by decide) ?_
          exact pf_X12_leftBy_61 C  hk_8 ih v1 v2 (v3 + 1) v4 v5 v6 z8  hP hS (lv_sub hl [1, 2, 3, 0, 4, 5, 6] rfl) h
      · rw [if_pos c5] at h
        refine lv_goto (tgt := 61) hx hb dX12_leftBy_37 (by decide) ?_
        exact pf_X12_leftBy_61 C  hk_8 ih v1 v2 v3 v4 v5 v6 z4  hP hS (lv_sub hl [0, 1, 2, 3, 4, 5, 6] rfl) h
def fn_X12_leftBy_8 : Nat → Int32 → Int32 → Int32 → Int32 → Int32 → St → Option (Int32 × St)
  | 0, _, _, _, _, _, _ => none
  | n + 1, v1, v2, v3, v4, v5, z => (if 8 < v5 then (if v3 ≤ v4 then some (v4, z) else some (v3, z)) else fn_X12_leftBy_18  (fn_X12_leftBy_8   n) fu v1 v2 v3 v4 v5 1 z)
set_option maxHeartbeats 4000000 in
set_option maxRecDepth 100000 in
theorem pf_X12_leftBy_8 {p : Program} {l : Launch} {e : Env} {s : State} {m : MethodId} {args : Array Value} {below : List Frame} {meth : Method} {c : Code} {G : wG} (C : CX p s m args meth c cX12_leftBy 7 (wsU yX12_leftBy cX12_leftBy 7 (some .int)) RX12 (some .int) G) {Rz : Int32 × St} : ∀ (n : Nat) (v1 : Int32) (v2 : Int32) (v3 : Int32) (v4 : Int32) (v5 : Int32) (z : St)  (H : Heap) (locs : List Loc) (ls : Array Slot), WP G z H → va_S (AW G) s.heap H locs → lv_has ls 7 [(0, .ref (G.2.2 172)), (1, .int v1), (2, .int v2), (3, .int v3), (4, .int v4), (5, .int v5)] → fn_X12_leftBy_8   n v1 v2 v3 v4 v5 z = some Rz → W p l e (rmd 6) s m args below meth c H locs 0 0 (QI below args s G Rz) (F0 m 8 ls []) := by
  obtain ⟨hx, hb, hml, hown, hts, hr, hlocks, hK, hG⟩ := id C
  intro n
  induction n with
  | zero => intro v1 v2 v3 v4 v5 z  H locs ls hP hS hl h; cases h
  | succ n ih =>
    intro v1 v2 v3 v4 v5 z  H locs ls hP hS hl h
    rw [fn_X12_leftBy_8] at h
    refine lv_iload hx hb dX12_leftBy_8 (lv_at hl 5 rfl) ?_
    refine lv_bipush (v := 8) hx hb dX12_leftBy_10 (by decide) ?_
    refine lv_icmp_gt (tgt := 73) hx hb dX12_leftBy_12 (by decide) (fun c1 => ?_) (fun c1 => ?_)
    · rw [if_pos c1] at h
      refine lv_iload_n hx hb dX12_leftBy_73 rfl (lv_at hl 3 rfl) ?_
      refine lv_iload hx hb dX12_leftBy_74 (lv_at hl 4 rfl) ?_
      refine lv_icmp_le (tgt := 83) hx hb dX12_leftBy_76 (by decide) (fun c2 => ?_) (fun c2 => ?_)
      · rw [if_pos c2] at h
        refine lv_iload hx hb dX12_leftBy_83 (lv_at hl 4 rfl) ?_
        exact x_iret hx hb hr hlocks hK hP hS h dX12_leftBy_85
      · rw [if_neg c2] at h
        refine lv_iload_n hx hb dX12_leftBy_79 rfl (lv_at hl 3 rfl) ?_
        refine lv_goto (tgt := 85) hx hb dX12_leftBy_80 (by decide) ?_
        exact x_iret hx hb hr hlocks hK hP hS h dX12_leftBy_85
    · rw [if_neg c1] at h
      refine lv_iconst (v := 1) hx hb dX12_leftBy_15 (by decide) ?_
      refine lv_istore (lv' := [(6, .int 1), (0, .ref (G.2.2 172)), (1, .int v1), (2, .int v2), (3, .int v3), (4, .int v4), (5, .int v5)]) hx hb dX12_leftBy_16 hl (by decide) rfl (fun ls hl => ?_)
      exact pf_X12_leftBy_18 C  ih fu v1 v2 v3 v4 v5 1 z  _ _ _ hP hS (lv_sub hl [1, 2, 3, 4, 5, 6, 0] rfl) h
def fn_X12_leftBy (v1 : Int32) (v2 : Int32) (z : St) : Option (Int32 × St) := fn_X12_leftBy_8   fu v1 v2 0 0 1 z
set_option maxHeartbeats 4000000 in
set_option maxRecDepth 100000 in
theorem m_X12_leftBy {l : Launch} {G : wG} (hG : Ok G) {v1 : Int32} {v2 : Int32} {z : St} {Rz : Int32 × St}  (h : fn_X12_leftBy  v1 v2 z = some Rz) : Met l yX12_leftBy (wsU yX12_leftBy cX12_leftBy 7 (some .int)) (rmd 6) (va_Pc [.ref (G.2.2 172), .int v1, .int v2] (Pre G z)) (va_Qi (fun r u => (r, u) = Rz) (Pre G) (AW G)) 0 0 (AW G) := by
  refine Met.ofW (cc := cX12_leftBy) (maxL := 7) (ret := (some .int)) (by decide) rfl ?_
  intro p e s m args below meth c s₁ B hml hv
  obtain ⟨rfl, hP, hK⟩ := hv
  have C : CX p s m ([.ref (G.2.2 172), .int v1, .int v2] : List Value).toArray meth c cX12_leftBy 7 (wsU yX12_leftBy cX12_leftBy 7 (some .int)) RX12 (some .int) G := ⟨B.exec, B.bytes, hml, findClass_of_methodNamed B.named, atoms_spec (ws := (wsU yX12_leftBy cX12_leftBy 7 (some .int))) B.pre, B.returns, B.notSynchronized, hK, hG⟩
  obtain ⟨hx, hb, -, hown, hts, hr, hlocks, -, -⟩ := id C
  have hS : va_S (AW G) s.heap s.heap [] := va_S.rf
  have hl := lv_entry [.ref (G.2.2 172), .int v1, .int v2] (n := 7) (Nat.le_of_ble_eq_true rfl)
  rw [lg_entry_eq]
  generalize (lg_sl [.ref (G.2.2 172), .int v1, .int v2] ++ List.replicate (7 - (lg_sl [.ref (G.2.2 172), .int v1, .int v2]).length) Slot.unset).toArray = ls at hl ⊢
  have hl : lv_has ls 7 [(0, .ref (G.2.2 172)), (1, .int v1), (2, .int v2)] := hl
  unfold fn_X12_leftBy at h
  refine lv_iconst (v := 0) hx hb dX12_leftBy_0 (by decide) ?_
  refine lv_istore_n (lv' := [(3, .int 0), (0, .ref (G.2.2 172)), (1, .int v1), (2, .int v2)]) hx hb dX12_leftBy_1 rfl hl (by decide) rfl (fun ls hl => ?_)
  refine lv_iconst (v := 0) hx hb dX12_leftBy_2 (by decide) ?_
  refine lv_istore (lv' := [(4, .int 0), (3, .int 0), (0, .ref (G.2.2 172)), (1, .int v1), (2, .int v2)]) hx hb dX12_leftBy_3 hl (by decide) rfl (fun ls hl => ?_)
  refine lv_iconst (v := 1) hx hb dX12_leftBy_5 (by decide) ?_
  refine lv_istore (lv' := [(5, .int 1), (4, .int 0), (3, .int 0), (0, .ref (G.2.2 172)), (1, .int v1), (2, .int v2)]) hx hb dX12_leftBy_6 hl (by decide) rfl (fun ls hl => ?_)
  exact pf_X12_leftBy_8 C   fu v1 v2 0 0 1 z  _ _ _ hP hS (lv_sub hl [3, 4, 5, 2, 1, 0] rfl) h
def fn_X12_ask_53 (k24 : Int32 → Int32 → Int32 → Int32 → St → Option (Int32 × St)) (v1 : Int32) (v2 : Int32) (v4 : Int32) (tv0 : Int32) (z : St) : Option (Int32 × St) := k24 v1 v2 tv0 (v4 + 1) z
set_option maxHeartbeats 4000000 in
set_option maxRecDepth 100000 in
theorem pf_X12_ask_53 {p : Program} {l : Launch} {e : Env} {s : State} {m : MethodId} {args : Array Value} {below : List Frame} {meth : Method} {c : Code} {G : wG} (C : CX p s m args meth c cX12_ask 5 (wsU yX12_ask cX12_ask 5 (some .int)) RX12 (some .int) G) {Rz : Int32 × St} {k24 : Int32 → Int32 → Int32 → Int32 → St → Option (Int32 × St)} (hk_24 : ∀ (v1 : Int32) (v2 : Int32) (v3 : Int32) (v4 : Int32) (z : St)  (H : Heap) (locs : List Loc) (ls : Array Slot), WP G z H → va_S (AW G) s.heap H locs → lv_has ls 5 [(0, .ref (G.2.2 172)), (1, .int v1), (2, .int v2), (3, .int v3), (4, .int v4)] → k24 v1 v2 v3 v4 z = some Rz → W p l e (rmd 7) s m args below meth c H locs 0 0 (QI below args s G Rz) (F0 m 24 ls [])) (v1 : Int32) (v2 : Int32) (v4 : Int32) (tv0 : Int32) (z : St)  {H : Heap} {locs : List Loc} {ls : Array Slot} (hP : WP G z H) (hS : va_S (AW G) s.heap H locs) (hl : lv_has ls 5 [(0, .ref (G.2.2 172)), (1, .int v1), (2, .int v2), (4, .int v4)]) (h : fn_X12_ask_53  k24 v1 v2 v4 tv0 z = some Rz) : W p l e (rmd 7) s m args below meth c H locs 0 0 (QI below args s G Rz) (F0 m 53 ls [.int tv0]) := by
  obtain ⟨hx, hb, hml, hown, hts, hr, hlocks, hK, hG⟩ := id C
  unfold fn_X12_ask_53 at h
  refine lv_istore_n (lv' := [(3, .int tv0), (0, .ref (G.2.2 172)), (1, .int v1), (2, .int v2), (4, .int v4)]) hx hb dX12_ask_53 rfl hl (by decide) rfl (fun ls hl => ?_)
  refine lv_iinc (v := (v4 + 1)) (lv' := [(4, .int (v4 + 1)), (3, .int tv0), (0, .ref (G.2.2 172)), (1, .int v1), (2, .int v2)]) hx hb dX12_ask_54 hl (k := 4) rfl rfl (by decide) rfl (fun ls hl => ?_)
  refine lv_goto (tgt := 24) hx hb dX12_ask_57 (by decide) ?_
  exact hk_24 v1 v2 tv0 (v4 + 1) z  _ _ _ hP hS (lv_sub hl [2, 3, 4, 1, 0] rfl) h
def fn_X12_ask_24 : Nat → Int32 → Int32 → Int32 → Int32 → St → Option (Int32 × St)
  | 0, _, _, _, _, _ => none
  | n + 1, v1, v2, v3, v4, z => (if 32 < v4 then (if v1 = 0 then some (v3, z) else bd (fn_X12_leftBy  v3 v2 z) (fun r4 z5 => some (r4, z5))) else bd (fn_X12_leftBy  v4 v2 z) (fun r7 z8 => bd (fn_X12_leftBy  v3 v2 z8) (fun r10 z11 => (if r10 ≤ r7 then fn_X12_ask_53  (fn_X12_ask_24   n) v1 v2 v4 v3 z11 else fn_X12_ask_53  (fn_X12_ask_24   n) v1 v2 v4 v4 z11))))
set_option maxHeartbeats 4000000 in
set_option maxRecDepth 100000 in
theorem pf_X12_ask_24 {p : Program} {l : Launch} {e : Env} {s : State} {m : MethodId} {args : Array Value} {below : List Frame} {meth : Method} {c : Code} {G : wG} (C : CX p s m args meth c cX12_ask 5 (wsU yX12_ask cX12_ask 5 (some .int)) RX12 (some .int) G) {Rz : Int32 × St} : ∀ (n : Nat) (v1 : Int32) (v2 : Int32) (v3 : Int32) (v4 : Int32) (z : St)  (H : Heap) (locs : List Loc) (ls : Array Slot), WP G z H → va_S (AW G) s.heap H locs → lv_has ls 5 [(0, .ref (G.2.2 172)), (1, .int v1), (2, .int v2), (3, .int v3), (4, .int v4)] → fn_X12_ask_24   n v1 v2 v3 v4 z = some Rz → W p l e (rmd 7) s m args below meth c H locs 0 0 (QI below args s G Rz) (F0 m 24 ls []) := by
  obtain ⟨hx, hb, hml, hown, hts, hr, hlocks, hK, hG⟩ := id C
  intro n
  induction n with
  | zero => intro v1 v2 v3 v4 z  H locs ls hP hS hl h; cases h
  | succ n ih =>
    intro v1 v2 v3 v4 z  H locs ls hP hS hl h
    rw [fn_X12_ask_24] at h
    refine lv_iload hx hb dX12_ask_24 (lv_at hl 4 rfl) ?_
    refine lv_bipush (v := 32) hx hb dX12_ask_26 (by decide) ?_
    refine lv_icmp_gt (tgt := 60) hx hb dX12_ask_28 (by decide) (fun c1 => ?_) (fun c1 => ?_)
    · rw [if_pos c1] at h
      refine lv_iload_n hx hb dX12_ask_60 rfl (lv_at hl 1 rfl) ?_
      refine lv_if_ne (tgt := 68) hx hb dX12_ask_61 (by decide) (fun c2 => ?_) (fun c2 => ?_)
      · rw [if_neg c2] at h
        refine lv_aload_n hx hb dX12_ask_68 rfl (lv_at hl 0 rfl) ?_
        refine lv_iload_n hx hb dX12_ask_69 rfl (lv_at hl 3 rfl) ?_
        refine lv_iload_n hx hb dX12_ask_70 rfl (lv_at hl 2 rfl) ?_
        obtain ⟨r4, z5, h3, h⟩ := bd_s h
        refine x_Vi (Rz := (r4, z5)) (As := [.int v3, .int v2]) (rest := []) ⟨hx, hb, hml, hown, hts⟩ hK hP hS (kd_lt k_172 (by decide)) (cell_12 k_172) rfl (m_X12_leftBy hG   h3) (cwV 2 hts (gV lw_2130 lw_2132 lw_106 lw_125 lw_2133) rfl rfl rfl (by decide +kernel) (rmd_ok (by decide) (by decide))) rfl hl.1 rfl (Nat.le_of_ble_eq_true rfl) dX12_ask_71 ⟨Nat.le_refl _, Nat.le_refl _⟩ (fun H locs hP hS => ?_)
        exact x_iret hx hb hr hlocks hK hP hS h dX12_ask_74
      · rw [if_pos c2] at h
        refine lv_iload_n hx hb dX12_ask_64 rfl (lv_at hl 3 rfl) ?_
        refine lv_goto (tgt := 74) hx hb dX12_ask_65 (by decide) ?_
        exact x_iret hx hb hr hlocks hK hP hS h dX12_ask_74
    · rw [if_neg c1] at h
      refine lv_aload_n hx hb dX12_ask_31 rfl (lv_at hl 0 rfl) ?_
      refine lv_iload hx hb dX12_ask_32 (lv_at hl 4 rfl) ?_
      refine lv_iload_n hx hb dX12_ask_34 rfl (lv_at hl 2 rfl) ?_
      obtain ⟨r7, z8, h6, h⟩ := bd_s h
      refine x_Vi (Rz := (r7, z8)) (As := [.int v4, .int v2]) (rest := []) ⟨hx, hb, hml, hown, hts⟩ hK hP hS (kd_lt k_172 (by decide)) (cell_12 k_172) rfl (m_X12_leftBy hG   h6) (cwV 2 hts (gV lw_2130 lw_2132 lw_106 lw_125 lw_2133) rfl rfl rfl (by decide +kernel) (rmd_ok (by decide) (by decide))) rfl hl.1 rfl (Nat.le_of_ble_eq_true rfl) dX12_ask_35 ⟨Nat.le_refl _, Nat.le_refl _⟩ (fun H locs hP hS => ?_)
      refine lv_aload_n hx hb dX12_ask_38 rfl (lv_at hl 0 rfl) ?_
      refine lv_iload_n hx hb dX12_ask_39 rfl (lv_at hl 3 rfl) ?_
      refine lv_iload_n hx hb dX12_ask_40 rfl (lv_at hl 2 rfl) ?_
      obtain ⟨r10, z11, h9, h⟩ := bd_s h
      refine x_Vi (Rz := (r10, z11)) (As := [.int v3, .int v2]) (rest := [.int r7]) ⟨hx, hb, hml, hown, hts⟩ hK hP hS (kd_lt k_172 (by decide)) (cell_12 k_172) rfl (m_X12_leftBy hG   h9) (cwV 2 hts (gV lw_2130 lw_2132 lw_106 lw_125 lw_2133) rfl rfl rfl (by decide +kernel) (rmd_ok (by decide) (by decide))) rfl hl.1 rfl (Nat.le_of_ble_eq_true rfl) dX12_ask_41 ⟨Nat.le_refl _, Nat.le_refl _⟩ (fun H locs hP hS => ?_)
      refine lv_icmp_ge (tgt := 52) hx hb dX12_ask_44 (by decide) (fun c12 => ?_) (fun c12 => ?_)
      · rw [if_pos c12] at h
        refine lv_iload_n hx hb dX12_ask_52 rfl (lv_at hl 3 rfl) ?_
        exact pf_X12_ask_53 C  ih v1 v2 v4 v3 z11  hP hS (lv_sub hl [0, 1, 2, 4] rfl) h
      · rw [if_neg c12] at h
        refine lv_iload hx hb dX12_ask_47 (lv_at hl 4 rfl) ?_
        refine lv_goto (tgt := 53) hx hb dX12_ask_49 (by decide) ?_
        exact pf_X12_ask_53 C  ih v1 v2 v4 v4 z11  hP hS (lv_sub hl [0, 1, 2, 4] rfl) h
def fn_X12_ask (v1 : Int32) (v2 : Int32) (z : St) : Option (Int32 × St) := bd (fn_X12_isIn  v1 0 1 z) (fun r2 z3 => (if r2 = 0 then some ((-1), z3) else bd (fn_X12_fits  v2 z3) (fun r6 z7 => (if r6 = 0 then some ((-1), z7) else fn_X12_ask_24   fu v1 v2 0 1 z7))))
set_option maxHeartbeats 4000000 in
set_option maxRecDepth 100000 in
theorem m_X12_ask {l : Launch} {G : wG} (hG : Ok G) {v1 : Int32} {v2 : Int32} {z : St} {Rz : Int32 × St}  (h : fn_X12_ask  v1 v2 z = some Rz) : Met l yX12_ask (wsU yX12_ask cX12_ask 5 (some .int)) (rmd 7) (va_Pc [.ref (G.2.2 172), .int v1, .int v2] (Pre G z)) (va_Qi (fun r u => (r, u) = Rz) (Pre G) (AW G)) 0 0 (AW G) := by
  refine Met.ofW (cc := cX12_ask) (maxL := 5) (ret := (some .int)) (by decide) rfl ?_
  intro p e s m args below meth c s₁ B hml hv
  obtain ⟨rfl, hP, hK⟩ := hv
  have C : CX p s m ([.ref (G.2.2 172), .int v1, .int v2] : List Value).toArray meth c cX12_ask 5 (wsU yX12_ask cX12_ask 5 (some .int)) RX12 (some .int) G := ⟨B.exec, B.bytes, hml, findClass_of_methodNamed B.named, atoms_spec (ws := (wsU yX12_ask cX12_ask 5 (some .int))) B.pre, B.returns, B.notSynchronized, hK, hG⟩
  obtain ⟨hx, hb, -, hown, hts, hr, hlocks, -, -⟩ := id C
  have hS : va_S (AW G) s.heap s.heap [] := va_S.rf
  have hl := lv_entry [.ref (G.2.2 172), .int v1, .int v2] (n := 5) (Nat.le_of_ble_eq_true rfl)
  rw [lg_entry_eq]
  generalize (lg_sl [.ref (G.2.2 172), .int v1, .int v2] ++ List.replicate (5 - (lg_sl [.ref (G.2.2 172), .int v1, .int v2]).length) Slot.unset).toArray = ls at hl ⊢
  have hl : lv_has ls 5 [(0, .ref (G.2.2 172)), (1, .int v1), (2, .int v2)] := hl
  unfold fn_X12_ask at h
  refine lv_iload_n hx hb dX12_ask_0 rfl (lv_at hl 1 rfl) ?_
  refine lv_iconst (v := 0) hx hb dX12_ask_1 (by decide) ?_
  refine lv_iconst (v := 1) hx hb dX12_ask_2 (by decide) ?_
  obtain ⟨r2, z3, h1, h⟩ := bd_s h
  refine x_Si (Rz := (r2, z3)) (As := [.int v1, .int 0, .int 1]) (rest := []) ⟨hx, hb, hml, hown, hts⟩ hK hP hS (m_X12_isIn hG   h1) (va_cwS 3 hts (gS lw_1827 lw_1828 lw_125 lw_1829) rfl rfl rfl (by decide +kernel) (rmd_ok (by decide) (by decide))) rfl hl.1 rfl (Nat.le_of_ble_eq_true rfl) dX12_ask_3 ⟨Nat.le_refl _, Nat.le_refl _⟩ (fun H locs hP hS => ?_)
  refine lv_if_eq (tgt := 17) hx hb dX12_ask_6 (by decide) (fun c4 => ?_) (fun c4 => ?_)
  · rw [if_pos c4] at h
    refine lv_iconst (v := (-1)) hx hb dX12_ask_17 (by decide) ?_
    exact x_iret hx hb hr hlocks hK hP hS h dX12_ask_18
  · rw [if_neg c4] at h
    refine lv_aload_n hx hb dX12_ask_9 rfl (lv_at hl 0 rfl) ?_
    refine lv_iload_n hx hb dX12_ask_10 rfl (lv_at hl 2 rfl) ?_
    obtain ⟨r6, z7, h5, h⟩ := bd_s h
    refine x_Vi (Rz := (r6, z7)) (As := [.int v2]) (rest := []) ⟨hx, hb, hml, hown, hts⟩ hK hP hS (kd_lt k_172 (by decide)) (cell_12 k_172) rfl (m_X12_fits hG   h5) (cwV 1 hts (gV lw_2129 lw_2106 lw_2107 lw_125 lw_2108) rfl rfl rfl (by decide +kernel) (rmd_ok (by decide) (by decide))) rfl hl.1 rfl (Nat.le_of_ble_eq_true rfl) dX12_ask_11 ⟨Nat.le_refl _, Nat.le_refl _⟩ (fun H locs hP hS => ?_)
    refine lv_if_ne (tgt := 19) hx hb dX12_ask_14 (by decide) (fun c8 => ?_) (fun c8 => ?_)
    · rw [if_neg c8] at h
      refine lv_iconst (v := 0) hx hb dX12_ask_19 (by decide) ?_
      refine lv_istore_n (lv' := [(3, .int 0), (0, .ref (G.2.2 172)), (1, .int v1), (2, .int v2)]) hx hb dX12_ask_20 rfl hl (by decide) rfl (fun ls hl => ?_)
      refine lv_iconst (v := 1) hx hb dX12_ask_21 (by decide) ?_
      refine lv_istore (lv' := [(4, .int 1), (3, .int 0), (0, .ref (G.2.2 172)), (1, .int v1), (2, .int v2)]) hx hb dX12_ask_22 hl (by decide) rfl (fun ls hl => ?_)
      exact pf_X12_ask_24 C   fu v1 v2 0 1 z7  _ _ _ hP hS (lv_sub hl [2, 3, 4, 1, 0] rfl) h
    · rw [if_pos c8] at h
      refine lv_iconst (v := (-1)) hx hb dX12_ask_17 (by decide) ?_
      exact x_iret hx hb hr hlocks hK hP hS h dX12_ask_18
def fn_X12_isBox (v0 : Int32) (z : St) : Option (Int32 × St) := (if v0 < 0 then some (0, z) else (if 3 ≤ v0 then some (0, z) else some (1, z)))
set_option maxHeartbeats 4000000 in
set_option maxRecDepth 100000 in
theorem m_X12_isBox {l : Launch} {G : wG} (hG : Ok G) {v0 : Int32} {z : St} {Rz : Int32 × St}  (h : fn_X12_isBox  v0 z = some Rz) : Met l yX12_isBox (wsU yX12_isBox cX12_isBox 1 (some .boolean)) (rmd 1) (va_Pc [.int v0] (Pre G z)) (va_Qi (fun r u => (r, u) = Rz) (Pre G) (AW G)) 0 0 (AW G) := by
  refine Met.ofW (cc := cX12_isBox) (maxL := 1) (ret := (some .boolean)) (by decide) rfl ?_
  intro p e s m args below meth c s₁ B hml hv
  obtain ⟨rfl, hP, hK⟩ := hv
  have C : CX p s m ([.int v0] : List Value).toArray meth c cX12_isBox 1 (wsU yX12_isBox cX12_isBox 1 (some .boolean)) RX12 (some .boolean) G := ⟨B.exec, B.bytes, hml, findClass_of_methodNamed B.named, atoms_spec (ws := (wsU yX12_isBox cX12_isBox 1 (some .boolean))) B.pre, B.returns, B.notSynchronized, hK, hG⟩
  obtain ⟨hx, hb, -, hown, hts, hr, hlocks, -, -⟩ := id C
  have hS : va_S (AW G) s.heap s.heap [] := va_S.rf
  have hl := lv_entry [.int v0] (n := 1) (Nat.le_of_ble_eq_true rfl)
  rw [lg_entry_eq]
  generalize (lg_sl [.int v0] ++ List.replicate (1 - (lg_sl [.int v0]).length) Slot.unset).toArray = ls at hl ⊢
  have hl : lv_has ls 1 [(0, .int v0)] := hl
  unfold fn_X12_isBox at h
  refine lv_iload_n hx hb dX12_isBox_0 rfl (lv_at hl 0 rfl) ?_
  refine lv_if_lt (tgt := 13) hx hb dX12_isBox_1 (by decide) (fun c1 => ?_) (fun c1 => ?_)
  · rw [if_pos c1] at h
    refine lv_iconst (v := 0) hx hb dX12_isBox_13 (by decide) ?_
    exact x_zret hx hb hr hlocks hK hP hS rfl h dX12_isBox_14
  · rw [if_neg c1] at h
    refine lv_iload_n hx hb dX12_isBox_4 rfl (lv_at hl 0 rfl) ?_
    refine lv_iconst (v := 3) hx hb dX12_isBox_5 (by decide) ?_
    refine lv_icmp_ge (tgt := 13) hx hb dX12_isBox_6 (by decide) (fun c2 => ?_) (fun c2 => ?_)
    · rw [if_pos c2] at h
      refine lv_iconst (v := 0) hx hb dX12_isBox_13 (by decide) ?_
      exact x_zret hx hb hr hlocks hK hP hS rfl h dX12_isBox_14
    · rw [if_neg c2] at h
      refine lv_iconst (v := 1) hx hb dX12_isBox_9 (by decide) ?_
      refine lv_goto (tgt := 14) hx hb dX12_isBox_10 (by decide) ?_
      exact x_zret hx hb hr hlocks hK hP hS rfl h dX12_isBox_14
def fn_X12_image_18 : Nat → Int32 → Int32 → St → Option (Int32 × St)
  | 0, _, _, _ => none
  | n + 1, v1, v2, z => (if 171 ≤ v2 then some ((z.1 197 (Int32.toNatClampNeg 168)), z) else gd (ix v2 171) (gd (ix ((171 * v1) + v2) 513) (nm (sI z 212 (Int32.toNatClampNeg ((171 * v1) + v2)) (z.1 197 (Int32.toNatClampNeg v2))) (fun z4 => fn_X12_image_18   n v1 (v2 + 1) z4))))
set_option maxHeartbeats 4000000 in
set_option maxRecDepth 100000 in
theorem pf_X12_image_18 {p : Program} {l : Launch} {e : Env} {s : State} {m : MethodId} {args : Array Value} {below : List Frame} {meth : Method} {c : Code} {G : wG} (C : CX p s m args meth c cX12_image 3 (wsU yX12_image cX12_image 3 (some .int)) RX12 (some .int) G) {Rz : Int32 × St} : ∀ (n : Nat) (v1 : Int32) (v2 : Int32) (z : St)  (H : Heap) (locs : List Loc) (ls : Array Slot), WP G z H → va_S (AW G) s.heap H locs → lv_has ls 3 [(0, .ref (G.2.2 172)), (1, .int v1), (2, .int v2)] → fn_X12_image_18   n v1 v2 z = some Rz → W p l e (rmd 2) s m args below meth c H locs 0 0 (QI below args s G Rz) (F0 m 18 ls []) := by
  obtain ⟨hx, hb, hml, hown, hts, hr, hlocks, hK, hG⟩ := id C
  intro n
  induction n with
  | zero => intro v1 v2 z  H locs ls hP hS hl h; cases h
  | succ n ih =>
    intro v1 v2 z  H locs ls hP hS hl h
    rw [fn_X12_image_18] at h
    refine lv_iload_n hx hb dX12_image_18 rfl (lv_at hl 2 rfl) ?_
    refine lv_sipush (v := 171) hx hb dX12_image_19 (by decide) ?_
    refine lv_icmp_ge (tgt := 49) hx hb dX12_image_22 (by decide) (fun c1 => ?_) (fun c1 => ?_)
    · rw [if_pos c1] at h
      refine lv_aload_n hx hb dX12_image_49 rfl (lv_at hl 0 rfl) ?_
      refine ge_12_48 hx hb hts (inU inW_X12) hown hK hP k_172 (hts _ (List.mem_cons_of_mem _ lw_1482)) dX12_image_50 ?_
      refine lv_sipush (v := 168) hx hb dX12_image_53 (by decide) ?_
      refine xl_14 hx hb hK hP k_197 l_197 (ix_in (by decide)) dX12_image_56 ?_
      exact x_iret hx hb hr hlocks hK hP hS h dX12_image_57
    · rw [if_neg c1] at h
      refine lv_aload_n hx hb dX12_image_25 rfl (lv_at hl 0 rfl) ?_
      refine ge_12_74 hx hb hts (inU inW_X12) hown hK hP k_172 (hts _ (List.mem_cons_of_mem _ lw_1508)) dX12_image_26 ?_
      refine lv_sipush (v := 171) hx hb dX12_image_29 (by decide) ?_
      refine lv_iload_n hx hb dX12_image_32 rfl (lv_at hl 1 rfl) ?_
      refine lv_imul hx hb dX12_image_33 ?_
      refine lv_iload_n hx hb dX12_image_34 rfl (lv_at hl 2 rfl) ?_
      refine lv_iadd hx hb dX12_image_35 ?_
      refine lv_aload_n hx hb dX12_image_36 rfl (lv_at hl 0 rfl) ?_
      refine ge_12_48 hx hb hts (inU inW_X12) hown hK hP k_172 (hts _ (List.mem_cons_of_mem _ lw_1482)) dX12_image_37 ?_
      refine lv_iload_n hx hb dX12_image_40 rfl (lv_at hl 2 rfl) ?_
      obtain ⟨g2, h⟩ := gd_s h
      refine xl_14 hx hb hK hP k_197 l_197 (ix_in g2) dX12_image_41 ?_
      obtain ⟨g3, h⟩ := gd_s h
      obtain ⟨z4, e_z4, h⟩ := nm_s h
      refine xs_14 hx hb hK hG hP hS k_212 l_212 (ix_in g3) dX12_image_42 (fun H locs hP hS => ?_)
      rw [← e_z4] at hP
      refine lv_iinc (v := (v2 + 1)) (lv' := [(2, .int (v2 + 1)), (0, .ref (G.2.2 172)), (1, .int v1)]) hx hb dX12_image_43 hl (k := 2) rfl rfl (by decide) rfl (fun ls hl => ?_)
      refine lv_goto (tgt := 18) hx hb dX12_image_46 (by decide) ?_
      exact ih v1 (v2 + 1) z4  _ _ _ hP hS (lv_sub hl [1, 2, 0] rfl) h
def fn_X12_image (v1 : Int32) (z : St) : Option (Int32 × St) := bd (fn_X12_isBox  v1 z) (fun r2 z3 => (if r2 = 0 then some ((-1), z3) else gd (ix v1 3) (nm (sI z3 211 (Int32.toNatClampNeg v1) 1) (fun z6 => fn_X12_image_18   fu v1 0 z6))))
set_option maxHeartbeats 4000000 in
set_option maxRecDepth 100000 in
theorem m_X12_image {l : Launch} {G : wG} (hG : Ok G) {v1 : Int32} {z : St} {Rz : Int32 × St}  (h : fn_X12_image  v1 z = some Rz) : Met l yX12_image (wsU yX12_image cX12_image 3 (some .int)) (rmd 2) (va_Pc [.ref (G.2.2 172), .int v1] (Pre G z)) (va_Qi (fun r u => (r, u) = Rz) (Pre G) (AW G)) 0 0 (AW G) := by
  refine Met.ofW (cc := cX12_image) (maxL := 3) (ret := (some .int)) (by decide) rfl ?_
  intro p e s m args below meth c s₁ B hml hv
  obtain ⟨rfl, hP, hK⟩ := hv
  have C : CX p s m ([.ref (G.2.2 172), .int v1] : List Value).toArray meth c cX12_image 3 (wsU yX12_image cX12_image 3 (some .int)) RX12 (some .int) G := ⟨B.exec, B.bytes, hml, findClass_of_methodNamed B.named, atoms_spec (ws := (wsU yX12_image cX12_image 3 (some .int))) B.pre, B.returns, B.notSynchronized, hK, hG⟩
  obtain ⟨hx, hb, -, hown, hts, hr, hlocks, -, -⟩ := id C
  have hS : va_S (AW G) s.heap s.heap [] := va_S.rf
  have hl := lv_entry [.ref (G.2.2 172), .int v1] (n := 3) (Nat.le_of_ble_eq_true rfl)
  rw [lg_entry_eq]
  generalize (lg_sl [.ref (G.2.2 172), .int v1] ++ List.replicate (3 - (lg_sl [.ref (G.2.2 172), .int v1]).length) Slot.unset).toArray = ls at hl ⊢
  have hl : lv_has ls 3 [(0, .ref (G.2.2 172)), (1, .int v1)] := hl
  unfold fn_X12_image at h
  refine lv_iload_n hx hb dX12_image_0 rfl (lv_at hl 1 rfl) ?_
  obtain ⟨r2, z3, h1, h⟩ := bd_s h
  refine x_Si (Rz := (r2, z3)) (As := [.int v1]) (rest := []) ⟨hx, hb, hml, hown, hts⟩ hK hP hS (m_X12_isBox hG   h1) (va_cwS 1 hts (gS lw_2138 lw_2139 lw_125 lw_2140) rfl rfl rfl (by decide +kernel) (rmd_ok (by decide) (by decide))) rfl hl.1 rfl (Nat.le_of_ble_eq_true rfl) dX12_image_1 ⟨Nat.le_refl _, Nat.le_refl _⟩ (fun H locs hP hS => ?_)
  refine lv_if_ne (tgt := 9) hx hb dX12_image_4 (by decide) (fun c4 => ?_) (fun c4 => ?_)
  · rw [if_neg c4] at h
    refine lv_aload_n hx hb dX12_image_9 rfl (lv_at hl 0 rfl) ?_
    refine ge_12_73 hx hb hts (inU inW_X12) hown hK hP k_172 (hts _ (List.mem_cons_of_mem _ lw_1507)) dX12_image_10 ?_
    refine lv_iload_n hx hb dX12_image_13 rfl (lv_at hl 1 rfl) ?_
    refine lv_iconst (v := 1) hx hb dX12_image_14 (by decide) ?_
    obtain ⟨g5, h⟩ := gd_s h
    obtain ⟨z6, e_z6, h⟩ := nm_s h
    refine xs_16 hx hb hK hG hP hS k_211 l_211 (ix_in g5) rfl dX12_image_15 (fun H locs hP hS => ?_)
    rw [← e_z6] at hP
    refine lv_iconst (v := 0) hx hb dX12_image_16 (by decide) ?_
    refine lv_istore_n (lv' := [(2, .int 0), (0, .ref (G.2.2 172)), (1, .int v1)]) hx hb dX12_image_17 rfl hl (by decide) rfl (fun ls hl => ?_)
    exact pf_X12_image_18 C   fu v1 0 z6  _ _ _ hP hS (lv_sub hl [1, 2, 0] rfl) h
  · rw [if_pos c4] at h
    refine lv_iconst (v := (-1)) hx hb dX12_image_7 (by decide) ?_
    exact x_iret hx hb hr hlocks hK hP hS h dX12_image_8
def fn_X12_restore_20 : Nat → Int32 → Int32 → St → Option (Int32 × St)
  | 0, _, _, _ => none
  | n + 1, v1, v2, z => (if 171 ≤ v2 then nm (sI z 172 51 0) (fun z2 => nm (sI z2 172 52 0) (fun z3 => some ((z3.1 197 (Int32.toNatClampNeg 168)), z3))) else gd (ix ((171 * v1) + v2) 513) (gd (ix v2 171) (nm (sI z 197 (Int32.toNatClampNeg v2) (z.1 212 (Int32.toNatClampNeg ((171 * v1) + v2)))) (fun z6 => fn_X12_restore_20   n v1 (v2 + 1) z6))))
set_option maxHeartbeats 4000000 in
set_option maxRecDepth 100000 in
theorem pf_X12_restore_20 {p : Program} {l : Launch} {e : Env} {s : State} {m : MethodId} {args : Array Value} {below : List Frame} {meth : Method} {c : Code} {G : wG} (C : CX p s m args meth c cX12_restore 3 (wsU yX12_restore cX12_restore 3 (some .int)) RX12 (some .int) G) {Rz : Int32 × St} : ∀ (n : Nat) (v1 : Int32) (v2 : Int32) (z : St)  (H : Heap) (locs : List Loc) (ls : Array Slot), WP G z H → va_S (AW G) s.heap H locs → lv_has ls 3 [(0, .ref (G.2.2 172)), (1, .int v1), (2, .int v2)] → fn_X12_restore_20   n v1 v2 z = some Rz → W p l e (rmd 2) s m args below meth c H locs 0 0 (QI below args s G Rz) (F0 m 20 ls []) := by
  obtain ⟨hx, hb, hml, hown, hts, hr, hlocks, hK, hG⟩ := id C
  intro n
  induction n with
  | zero => intro v1 v2 z  H locs ls hP hS hl h; cases h
  | succ n ih =>
    intro v1 v2 z  H locs ls hP hS hl h
    rw [fn_X12_restore_20] at h
    refine lv_iload_n hx hb dX12_restore_20 rfl (lv_at hl 2 rfl) ?_
    refine lv_sipush (v := 171) hx hb dX12_restore_21 (by decide) ?_
    refine lv_icmp_ge (tgt := 51) hx hb dX12_restore_24 (by decide) (fun c1 => ?_) (fun c1 => ?_)
    · rw [if_pos c1] at h
      refine lv_aload_n hx hb dX12_restore_51 rfl (lv_at hl 0 rfl) ?_
      refine lv_iconst (v := 0) hx hb dX12_restore_52 (by decide) ?_
      obtain ⟨z2, e_z2, h⟩ := nm_s h
      refine pu_12_51 hx hb hts (inU inW_X12) hown hK hG hP hS k_172 (hts _ (List.mem_cons_of_mem _ lw_1485)) dX12_restore_53 (fun H locs hP hS => ?_)
      rw [← e_z2] at hP
      refine lv_aload_n hx hb dX12_restore_56 rfl (lv_at hl 0 rfl) ?_
      refine lv_iconst (v := 0) hx hb dX12_restore_57 (by decide) ?_
      obtain ⟨z3, e_z3, h⟩ := nm_s h
      refine pu_12_52 hx hb hts (inU inW_X12) hown hK hG hP hS k_172 (hts _ (List.mem_cons_of_mem _ lw_1486)) dX12_restore_58 (fun H locs hP hS => ?_)
      rw [← e_z3] at hP
      refine lv_aload_n hx hb dX12_restore_61 rfl (lv_at hl 0 rfl) ?_
      refine ge_12_48 hx hb hts (inU inW_X12) hown hK hP k_172 (hts _ (List.mem_cons_of_mem _ lw_1482)) dX12_restore_62 ?_
      refine lv_sipush (v := 168) hx hb dX12_restore_65 (by decide) ?_
      refine xl_14 hx hb hK hP k_197 l_197 (ix_in (by decide)) dX12_restore_68 ?_
      exact x_iret hx hb hr hlocks hK hP hS h dX12_restore_69
    · rw [if_neg c1] at h
      refine lv_aload_n hx hb dX12_restore_27 rfl (lv_at hl 0 rfl) ?_
      refine ge_12_48 hx hb hts (inU inW_X12) hown hK hP k_172 (hts _ (List.mem_cons_of_mem _ lw_1482)) dX12_restore_28 ?_
      refine lv_iload_n hx hb dX12_restore_31 rfl (lv_at hl 2 rfl) ?_
      refine lv_aload_n hx hb dX12_restore_32 rfl (lv_at hl 0 rfl) ?_
      refine ge_12_74 hx hb hts (inU inW_X12) hown hK hP k_172 (hts _ (List.mem_cons_of_mem _ lw_1508)) dX12_restore_33 ?_
      refine lv_sipush (v := 171) hx hb dX12_restore_36 (by decide) ?_
      refine lv_iload_n hx hb dX12_restore_39 rfl (lv_at hl 1 rfl) ?_
      refine lv_imul hx hb dX12_restore_40 ?_
      refine lv_iload_n hx hb dX12_restore_41 rfl (lv_at hl 2 rfl) ?_
      refine lv_iadd hx hb dX12_restore_42 ?_
      obtain ⟨g4, h⟩ := gd_s h
      refine xl_14 hx hb hK hP k_212 l_212 (ix_in g4) dX12_restore_43 ?_
      obtain ⟨g5, h⟩ := gd_s h
      obtain ⟨z6, e_z6, h⟩ := nm_s h
      refine xs_14 hx hb hK hG hP hS k_197 l_197 (ix_in g5) dX12_restore_44 (fun H locs hP hS => ?_)
      rw [← e_z6] at hP
      refine lv_iinc (v := (v2 + 1)) (lv' := [(2, .int (v2 + 1)), (0, .ref (G.2.2 172)), (1, .int v1)]) hx hb dX12_restore_45 hl (k := 2) rfl rfl (by decide) rfl (fun ls hl => ?_)
      refine lv_goto (tgt := 20) hx hb dX12_restore_48 (by decide) ?_
      exact ih v1 (v2 + 1) z6  _ _ _ hP hS (lv_sub hl [1, 2, 0] rfl) h
def fn_X12_restore (v1 : Int32) (z : St) : Option (Int32 × St) := bd (fn_X12_isBox  v1 z) (fun r2 z3 => (if r2 = 0 then some ((-1), z3) else gd (ix v1 3) ((if (z3.1 211 (Int32.toNatClampNeg v1)) = 0 then some ((-1), z3) else fn_X12_restore_20   fu v1 0 z3))))
set_option maxHeartbeats 4000000 in
set_option maxRecDepth 100000 in
theorem m_X12_restore {l : Launch} {G : wG} (hG : Ok G) {v1 : Int32} {z : St} {Rz : Int32 × St}  (h : fn_X12_restore  v1 z = some Rz) : Met l yX12_restore (wsU yX12_restore cX12_restore 3 (some .int)) (rmd 2) (va_Pc [.ref (G.2.2 172), .int v1] (Pre G z)) (va_Qi (fun r u => (r, u) = Rz) (Pre G) (AW G)) 0 0 (AW G) := by
  refine Met.ofW (cc := cX12_restore) (maxL := 3) (ret := (some .int)) (by decide) rfl ?_
  intro p e s m args below meth c s₁ B hml hv
  obtain ⟨rfl, hP, hK⟩ := hv
  have C : CX p s m ([.ref (G.2.2 172), .int v1] : List Value).toArray meth c cX12_restore 3 (wsU yX12_restore cX12_restore 3 (some .int)) RX12 (some .int) G := ⟨B.exec, B.bytes, hml, findClass_of_methodNamed B.named, atoms_spec (ws := (wsU yX12_restore cX12_restore 3 (some .int))) B.pre, B.returns, B.notSynchronized, hK, hG⟩
  obtain ⟨hx, hb, -, hown, hts, hr, hlocks, -, -⟩ := id C
  have hS : va_S (AW G) s.heap s.heap [] := va_S.rf
  have hl := lv_entry [.ref (G.2.2 172), .int v1] (n := 3) (Nat.le_of_ble_eq_true rfl)
  rw [lg_entry_eq]
  generalize (lg_sl [.ref (G.2.2 172), .int v1] ++ List.replicate (3 - (lg_sl [.ref (G.2.2 172), .int v1]).length) Slot.unset).toArray = ls at hl ⊢
  have hl : lv_has ls 3 [(0, .ref (G.2.2 172)), (1, .int v1)] := hl
  unfold fn_X12_restore at h
  refine lv_iload_n hx hb dX12_restore_0 rfl (lv_at hl 1 rfl) ?_
  obtain ⟨r2, z3, h1, h⟩ := bd_s h
  refine x_Si (Rz := (r2, z3)) (As := [.int v1]) (rest := []) ⟨hx, hb, hml, hown, hts⟩ hK hP hS (m_X12_isBox hG   h1) (va_cwS 1 hts (gS lw_2138 lw_2139 lw_125 lw_2140) rfl rfl rfl (by decide +kernel) (rmd_ok (by decide) (by decide))) rfl hl.1 rfl (Nat.le_of_ble_eq_true rfl) dX12_restore_1 ⟨Nat.le_refl _, Nat.le_refl _⟩ (fun H locs hP hS => ?_)
  refine lv_if_eq (tgt := 16) hx hb dX12_restore_4 (by decide) (fun c4 => ?_) (fun c4 => ?_)
  · rw [if_pos c4] at h
    refine lv_iconst (v := (-1)) hx hb dX12_restore_16 (by decide) ?_
    exact x_iret hx hb hr hlocks hK hP hS h dX12_restore_17
  · rw [if_neg c4] at h
    refine lv_aload_n hx hb dX12_restore_7 rfl (lv_at hl 0 rfl) ?_
    refine ge_12_73 hx hb hts (inU inW_X12) hown hK hP k_172 (hts _ (List.mem_cons_of_mem _ lw_1507)) dX12_restore_8 ?_
    refine lv_iload_n hx hb dX12_restore_11 rfl (lv_at hl 1 rfl) ?_
    obtain ⟨g5, h⟩ := gd_s h
    refine xl_16 hx hb hK hP k_211 l_211 (ix_in g5) dX12_restore_12 ?_
    refine lv_if_ne (tgt := 18) hx hb dX12_restore_13 (by decide) (fun c6 => ?_) (fun c6 => ?_)
    · rw [if_neg c6] at h
      refine lv_iconst (v := 0) hx hb dX12_restore_18 (by decide) ?_
      refine lv_istore_n (lv' := [(2, .int 0), (0, .ref (G.2.2 172)), (1, .int v1)]) hx hb dX12_restore_19 rfl hl (by decide) rfl (fun ls hl => ?_)
      exact pf_X12_restore_20 C   fu v1 0 z3  _ _ _ hP hS (lv_sub hl [1, 2, 0] rfl) h
    · rw [if_pos c6] at h
      refine lv_iconst (v := (-1)) hx hb dX12_restore_16 (by decide) ?_
      exact x_iret hx hb hr hlocks hK hP hS h dX12_restore_17
def fn_X12_brokenOnes_4 : Nat → Int32 → Int32 → St → Option (Int32 × St)
  | 0, _, _, _ => none
  | n + 1, v1, v2, z => (if (z.1 197 (Int32.toNatClampNeg 168)) ≤ v2 then some (v1, z) else gd (ix ((7 * v2) + 5) 171) (nm (v1 ||| ((z.1 197 (Int32.toNatClampNeg ((7 * v2) + 5))) <<< (v2 &&& 31))) (fun v1_3 => fn_X12_brokenOnes_4   n v1_3 (v2 + 1) z)))
set_option maxHeartbeats 4000000 in
set_option maxRecDepth 100000 in
theorem pf_X12_brokenOnes_4 {p : Program} {l : Launch} {e : Env} {s : State} {m : MethodId} {args : Array Value} {below : List Frame} {meth : Method} {c : Code} {G : wG} (C : CX p s m args meth c cX12_brokenOnes 3 (wsU yX12_brokenOnes cX12_brokenOnes 3 (some .int)) RX12 (some .int) G) {Rz : Int32 × St} : ∀ (n : Nat) (v1 : Int32) (v2 : Int32) (z : St)  (H : Heap) (locs : List Loc) (ls : Array Slot), WP G z H → va_S (AW G) s.heap H locs → lv_has ls 3 [(0, .ref (G.2.2 172)), (1, .int v1), (2, .int v2)] → fn_X12_brokenOnes_4   n v1 v2 z = some Rz → W p l e (rmd 1) s m args below meth c H locs 0 0 (QI below args s G Rz) (F0 m 4 ls []) := by
  obtain ⟨hx, hb, hml, hown, hts, hr, hlocks, hK, hG⟩ := id C
  intro n
  induction n with
  | zero => intro v1 v2 z  H locs ls hP hS hl h; cases h
  | succ n ih =>
    intro v1 v2 z  H locs ls hP hS hl h
    rw [fn_X12_brokenOnes_4] at h
    refine lv_iload_n hx hb dX12_brokenOnes_4 rfl (lv_at hl 2 rfl) ?_
    refine lv_aload_n hx hb dX12_brokenOnes_5 rfl (lv_at hl 0 rfl) ?_
    refine ge_12_48 hx hb hts (inU inW_X12) hown hK hP k_172 (hts _ (List.mem_cons_of_mem _ lw_1482)) dX12_brokenOnes_6 ?_
    refine lv_sipush (v := 168) hx hb dX12_brokenOnes_9 (by decide) ?_
    refine xl_14 hx hb hK hP k_197 l_197 (ix_in (by decide)) dX12_brokenOnes_12 ?_
    refine lv_icmp_ge (tgt := 38) hx hb dX12_brokenOnes_13 (by decide) (fun c1 => ?_) (fun c1 => ?_)
    · rw [if_pos c1] at h
      refine lv_iload_n hx hb dX12_brokenOnes_38 rfl (lv_at hl 1 rfl) ?_
      exact x_iret hx hb hr hlocks hK hP hS h dX12_brokenOnes_39
    · rw [if_neg c1] at h
      refine lv_iload_n hx hb dX12_brokenOnes_16 rfl (lv_at hl 1 rfl) ?_
      refine lv_aload_n hx hb dX12_brokenOnes_17 rfl (lv_at hl 0 rfl) ?_
      refine ge_12_48 hx hb hts (inU inW_X12) hown hK hP k_172 (hts _ (List.mem_cons_of_mem _ lw_1482)) dX12_brokenOnes_18 ?_
      refine lv_bipush (v := 7) hx hb dX12_brokenOnes_21 (by decide) ?_
      refine lv_iload_n hx hb dX12_brokenOnes_23 rfl (lv_at hl 2 rfl) ?_
      refine lv_imul hx hb dX12_brokenOnes_24 ?_
      refine lv_iconst (v := 5) hx hb dX12_brokenOnes_25 (by decide) ?_
      refine lv_iadd hx hb dX12_brokenOnes_26 ?_
      obtain ⟨g2, h⟩ := gd_s h
      refine xl_14 hx hb hK hP k_197 l_197 (ix_in g2) dX12_brokenOnes_27 ?_
      refine lv_iload_n hx hb dX12_brokenOnes_28 rfl (lv_at hl 2 rfl) ?_
      refine lv_ishl hx hb dX12_brokenOnes_29 ?_
      refine lv_ior hx hb dX12_brokenOnes_30 ?_
      obtain ⟨v1_3, e_v1_3, h⟩ := nm_s h
      refine x_top e_v1_3 ?_
      refine lv_istore_n (lv' := [(1, .int v1_3), (0, .ref (G.2.2 172)), (2, .int v2)]) hx hb dX12_brokenOnes_31 rfl hl (by decide) rfl (fun ls hl => ?_)
      refine lv_iinc (v := (v2 + 1)) (lv' := [(2, .int (v2 + 1)), (1, .int v1_3), (0, .ref (G.2.2 172))]) hx hb dX12_brokenOnes_32 hl (k := 2) rfl rfl (by decide) rfl (fun ls hl => ?_)
      refine lv_goto (tgt := 4) hx hb dX12_brokenOnes_35 (by decide) ?_
      exact ih v1_3 (v2 + 1) z  _ _ _ hP hS (lv_sub hl [2, 1, 0] rfl) h
def fn_X12_brokenOnes  (z : St) : Option (Int32 × St) := fn_X12_brokenOnes_4   fu 0 0 z
set_option maxHeartbeats 4000000 in
set_option maxRecDepth 100000 in
theorem m_X12_brokenOnes {l : Launch} {G : wG} (hG : Ok G)  {z : St} {Rz : Int32 × St}  (h : fn_X12_brokenOnes   z = some Rz) : Met l yX12_brokenOnes (wsU yX12_brokenOnes cX12_brokenOnes 3 (some .int)) (rmd 1) (va_Pc [.ref (G.2.2 172)] (Pre G z)) (va_Qi (fun r u => (r, u) = Rz) (Pre G) (AW G)) 0 0 (AW G) := by
  refine Met.ofW (cc := cX12_brokenOnes) (maxL := 3) (ret := (some .int)) (by decide) rfl ?_
  intro p e s m args below meth c s₁ B hml hv
  obtain ⟨rfl, hP, hK⟩ := hv
  have C : CX p s m ([.ref (G.2.2 172)] : List Value).toArray meth c cX12_brokenOnes 3 (wsU yX12_brokenOnes cX12_brokenOnes 3 (some .int)) RX12 (some .int) G := ⟨B.exec, B.bytes, hml, findClass_of_methodNamed B.named, atoms_spec (ws := (wsU yX12_brokenOnes cX12_brokenOnes 3 (some .int))) B.pre, B.returns, B.notSynchronized, hK, hG⟩
  obtain ⟨hx, hb, -, hown, hts, hr, hlocks, -, -⟩ := id C
  have hS : va_S (AW G) s.heap s.heap [] := va_S.rf
  have hl := lv_entry [.ref (G.2.2 172)] (n := 3) (Nat.le_of_ble_eq_true rfl)
  rw [lg_entry_eq]
  generalize (lg_sl [.ref (G.2.2 172)] ++ List.replicate (3 - (lg_sl [.ref (G.2.2 172)]).length) Slot.unset).toArray = ls at hl ⊢
  have hl : lv_has ls 3 [(0, .ref (G.2.2 172))] := hl
  unfold fn_X12_brokenOnes at h
  refine lv_iconst (v := 0) hx hb dX12_brokenOnes_0 (by decide) ?_
  refine lv_istore_n (lv' := [(1, .int 0), (0, .ref (G.2.2 172))]) hx hb dX12_brokenOnes_1 rfl hl (by decide) rfl (fun ls hl => ?_)
  refine lv_iconst (v := 0) hx hb dX12_brokenOnes_2 (by decide) ?_
  refine lv_istore_n (lv' := [(2, .int 0), (1, .int 0), (0, .ref (G.2.2 172))]) hx hb dX12_brokenOnes_3 rfl hl (by decide) rfl (fun ls hl => ?_)
  exact pf_X12_brokenOnes_4 C   fu 0 0 z  _ _ _ hP hS (lv_sub hl [2, 1, 0] rfl) h
def fn_X12_about (v1 : Int32) (z : St) : Option (Int32 × St) := (if v1 = 0 then some ((z.1 172 43), z) else (if v1 = 1 then some ((z.1 172 44), z) else (if v1 = 2 then some ((z.1 197 (Int32.toNatClampNeg 168)), z) else (if v1 = 3 then some ((z.1 197 (Int32.toNatClampNeg 169)), z) else (if v1 = 4 then some ((z.1 197 (Int32.toNatClampNeg 170)), z) else (if v1 = 5 then bd (fn_X12_brokenOnes   z) (fun r8 z9 => some (r8, z9)) else (if v1 = 6 then some ((z.1 172 51), z) else (if v1 = 7 then some ((z.1 172 52), z) else (if v1 = 8 then some ((z.1 172 71), z) else (if v1 = 9 then some ((z.1 172 72), z) else (if v1 = 10 then some ((z.1 172 1), z) else (if v1 = 11 then some ((z.1 172 23), z) else (if v1 = 12 then some ((z.1 172 65), z) else (some ((-1), z)))))))))))))))
set_option maxHeartbeats 4000000 in
set_option maxRecDepth 100000 in
theorem m_X12_about {l : Launch} {G : wG} (hG : Ok G) {v1 : Int32} {z : St} {Rz : Int32 × St}  (h : fn_X12_about  v1 z = some Rz) : Met l yX12_about (wsU yX12_about cX12_about 2 (some .int)) (rmd 2) (va_Pc [.ref (G.2.2 172), .int v1] (Pre G z)) (va_Qi (fun r u => (r, u) = Rz) (Pre G) (AW G)) 0 0 (AW G) := by
  refine Met.ofW (cc := cX12_about) (maxL := 2) (ret := (some .int)) (by decide) rfl ?_
  intro p e s m args below meth c s₁ B hml hv
  obtain ⟨rfl, hP, hK⟩ := hv
  have C : CX p s m ([.ref (G.2.2 172), .int v1] : List Value).toArray meth c cX12_about 2 (wsU yX12_about cX12_about 2 (some .int)) RX12 (some .int) G := ⟨B.exec, B.bytes, hml, findClass_of_methodNamed B.named, atoms_spec (ws := (wsU yX12_about cX12_about 2 (some .int))) B.pre, B.returns, B.notSynchronized, hK, hG⟩
  obtain ⟨hx, hb, -, hown, hts, hr, hlocks, -, -⟩ := id C
  have hS : va_S (AW G) s.heap s.heap [] := va_S.rf
  have hl := lv_entry [.ref (G.2.2 172), .int v1] (n := 2) (Nat.le_of_ble_eq_true rfl)
  rw [lg_entry_eq]
  generalize (lg_sl [.ref (G.2.2 172), .int v1] ++ List.replicate (2 - (lg_sl [.ref (G.2.2 172), .int v1]).length) Slot.unset).toArray = ls at hl ⊢
  have hl : lv_has ls 2 [(0, .ref (G.2.2 172)), (1, .int v1)] := hl
  unfold fn_X12_about at h
  refine lv_iload_n hx hb dX12_about_0 rfl (lv_at hl 1 rfl) ?_
  by_cases c1 : v1 = 0
  · rw [if_pos c1] at h
    refine lv_tableIn (off := 67) (tgt := 68) hx hb dX12_about_1 (by rw [c1]; decide) (by rw [c1]; decide) (by rw [c1]; rfl) (by decide) ?_
    refine lv_aload_n hx hb dX12_about_68 rfl (lv_at hl 0 rfl) ?_
    refine ge_12_43 hx hb hts (inU inW_X12) hown hK hP k_172 (hts _ (List.mem_cons_of_mem _ lw_1477)) dX12_about_69 ?_
    exact x_iret hx hb hr hlocks hK hP hS h dX12_about_72
  rw [if_neg c1] at h
  by_cases c2 : v1 = 1
  · rw [if_pos c2] at h
    refine lv_tableIn (off := 72) (tgt := 73) hx hb dX12_about_1 (by rw [c2]; decide) (by rw [c2]; decide) (by rw [c2]; rfl) (by decide) ?_
    refine lv_aload_n hx hb dX12_about_73 rfl (lv_at hl 0 rfl) ?_
    refine ge_12_44 hx hb hts (inU inW_X12) hown hK hP k_172 (hts _ (List.mem_cons_of_mem _ lw_1478)) dX12_about_74 ?_
    exact x_iret hx hb hr hlocks hK hP hS h dX12_about_77
  rw [if_neg c2] at h
  by_cases c3 : v1 = 2
  · rw [if_pos c3] at h
    refine lv_tableIn (off := 77) (tgt := 78) hx hb dX12_about_1 (by rw [c3]; decide) (by rw [c3]; decide) (by rw [c3]; rfl) (by decide) ?_
    refine lv_aload_n hx hb dX12_about_78 rfl (lv_at hl 0 rfl) ?_
    refine ge_12_48 hx hb hts (inU inW_X12) hown hK hP k_172 (hts _ (List.mem_cons_of_mem _ lw_1482)) dX12_about_79 ?_
    refine lv_sipush (v := 168) hx hb dX12_about_82 (by decide) ?_
    refine xl_14 hx hb hK hP k_197 l_197 (ix_in (by decide)) dX12_about_85 ?_
    exact x_iret hx hb hr hlocks hK hP hS h dX12_about_86
  rw [if_neg c3] at h
  by_cases c4 : v1 = 3
  · rw [if_pos c4] at h
    refine lv_tableIn (off := 86) (tgt := 87) hx hb dX12_about_1 (by rw [c4]; decide) (by rw [c4]; decide) (by rw [c4]; rfl) (by decide) ?_
    refine lv_aload_n hx hb dX12_about_87 rfl (lv_at hl 0 rfl) ?_
    refine ge_12_48 hx hb hts (inU inW_X12) hown hK hP k_172 (hts _ (List.mem_cons_of_mem _ lw_1482)) dX12_about_88 ?_
    refine lv_sipush (v := 169) hx hb dX12_about_91 (by decide) ?_
    refine xl_14 hx hb hK hP k_197 l_197 (ix_in (by decide)) dX12_about_94 ?_
    exact x_iret hx hb hr hlocks hK hP hS h dX12_about_95
  rw [if_neg c4] at h
  by_cases c5 : v1 = 4
  · rw [if_pos c5] at h
    refine lv_tableIn (off := 95) (tgt := 96) hx hb dX12_about_1 (by rw [c5]; decide) (by rw [c5]; decide) (by rw [c5]; rfl) (by decide) ?_
    refine lv_aload_n hx hb dX12_about_96 rfl (lv_at hl 0 rfl) ?_
    refine ge_12_48 hx hb hts (inU inW_X12) hown hK hP k_172 (hts _ (List.mem_cons_of_mem _ lw_1482)) dX12_about_97 ?_
    refine lv_sipush (v := 170) hx hb dX12_about_100 (by decide) ?_
    refine xl_14 hx hb hK hP k_197 l_197 (ix_in (by decide)) dX12_about_103 ?_
    exact x_iret hx hb hr hlocks hK hP hS h dX12_about_104
  rw [if_neg c5] at h
  by_cases c6 : v1 = 5
  · rw [if_pos c6] at h
    refine lv_tableIn (off := 104) (tgt := 105) hx hb dX12_about_1 (by rw [c6]; decide) (by rw [c6]; decide) (by rw [c6]; rfl) (by decide) ?_
    refine lv_aload_n hx hb dX12_about_105 rfl (lv_at hl 0 rfl) ?_
    obtain ⟨r8, z9, h7, h⟩ := bd_s h
    refine x_Vi (Rz := (r8, z9)) (As := []) (rest := []) ⟨hx, hb, hml, hown, hts⟩ hK hP hS (kd_lt k_172 (by decide)) (cell_12 k_172) rfl (m_X12_brokenOnes hG   h7) (cwV 0 hts (gV lw_2149 lw_2151 lw_107 lw_125 lw_2152) rfl rfl rfl (by decide +kernel) (rmd_ok (by decide) (by decide))) rfl hl.1 rfl (Nat.le_of_ble_eq_true rfl) dX12_about_106 ⟨Nat.le_refl _, Nat.le_refl _⟩ (fun H locs hP hS => ?_)
    exact x_iret hx hb hr hlocks hK hP hS h dX12_about_109
  rw [if_neg c6] at h
  by_cases c10 : v1 = 6
  · rw [if_pos c10] at h
    refine lv_tableIn (off := 109) (tgt := 110) hx hb dX12_about_1 (by rw [c10]; decide) (by rw [c10]; decide) (by rw [c10]; rfl) (by decide) ?_
    refine lv_aload_n hx hb dX12_about_110 rfl (lv_at hl 0 rfl) ?_
    refine ge_12_51 hx hb hts (inU inW_X12) hown hK hP k_172 (hts _ (List.mem_cons_of_mem _ lw_1485)) dX12_about_111 ?_
    exact x_iret hx hb hr hlocks hK hP hS h dX12_about_114
  rw [if_neg c10] at h
  by_cases c11 : v1 = 7
  · rw [if_pos c11] at h
    refine lv_tableIn (off := 114) (tgt := 115) hx hb dX12_about_1 (by rw [c11]; decide) (by rw [c11]; decide) (by rw [c11]; rfl) (by decide) ?_
    refine lv_aload_n hx hb dX12_about_115 rfl (lv_at hl 0 rfl) ?_
    refine ge_12_52 hx hb hts (inU inW_X12) hown hK hP k_172 (hts _ (List.mem_cons_of_mem _ lw_1486)) dX12_about_116 ?_
    exact x_iret hx hb hr hlocks hK hP hS h dX12_about_119
  rw [if_neg c11] at h
  by_cases c12 : v1 = 8
  · rw [if_pos c12] at h
    refine lv_tableIn (off := 119) (tgt := 120) hx hb dX12_about_1 (by rw [c12]; decide) (by rw [c12]; decide) (by rw [c12]; rfl) (by decide) ?_
    refine lv_aload_n hx hb dX12_about_120 rfl (lv_at hl 0 rfl) ?_
    refine ge_12_71 hx hb hts (inU inW_X12) hown hK hP k_172 (hts _ (List.mem_cons_of_mem _ lw_1505)) dX12_about_121 ?_
    exact x_iret hx hb hr hlocks hK hP hS h dX12_about_124
  rw [if_neg c12] at h
  by_cases c13 : v1 = 9
  · rw [if_pos c13] at h
    refine lv_tableIn (off := 124) (tgt := 125) hx hb dX12_about_1 (by rw [c13]; decide) (by rw [c13]; decide) (by rw [c13]; rfl) (by decide) ?_
    refine lv_aload_n hx hb dX12_about_125 rfl (lv_at hl 0 rfl) ?_
    refine ge_12_72 hx hb hts (inU inW_X12) hown hK hP k_172 (hts _ (List.mem_cons_of_mem _ lw_1506)) dX12_about_126 ?_
    exact x_iret hx hb hr hlocks hK hP hS h dX12_about_129
  rw [if_neg c13] at h
  by_cases c14 : v1 = 10
  · rw [if_pos c14] at h
    refine lv_tableIn (off := 129) (tgt := 130) hx hb dX12_about_1 (by rw [c14]; decide) (by rw [c14]; decide) (by rw [c14]; rfl) (by decide) ?_
    refine lv_aload_n hx hb dX12_about_130 rfl (lv_at hl 0 rfl) ?_
    refine ge_12_1 hx hb hts (inU inW_X12) hown hK hP k_172 (hts _ (List.mem_cons_of_mem _ lw_1435)) dX12_about_131 ?_
    exact x_iret hx hb hr hlocks hK hP hS h dX12_about_134
  rw [if_neg c14] at h
  by_cases c15 : v1 = 11
  · rw [if_pos c15] at h
    refine lv_tableIn (off := 134) (tgt := 135) hx hb dX12_about_1 (by rw [c15]; decide) (by rw [c15]; decide) (by rw [c15]; rfl) (by decide) ?_
    refine lv_aload_n hx hb dX12_about_135 rfl (lv_at hl 0 rfl) ?_
    refine ge_12_23 hx hb hts (inU inW_X12) hown hK hP k_172 (hts _ (List.mem_cons_of_mem _ lw_1457)) dX12_about_136 ?_
    exact x_iret hx hb hr hlocks hK hP hS h dX12_about_139
  rw [if_neg c15] at h
  by_cases c16 : v1 = 12
  · rw [if_pos c16] at h
    refine lv_tableIn (off := 139) (tgt := 140) hx hb dX12_about_1 (by rw [c16]; decide) (by rw [c16]; decide) (by rw [c16]; rfl) (by decide) ?_
    refine lv_aload_n hx hb dX12_about_140 rfl (lv_at hl 0 rfl) ?_
    refine ge_12_65 hx hb hts (inU inW_X12) hown hK hP k_172 (hts _ (List.mem_cons_of_mem _ lw_1499)) dX12_about_141 ?_
    exact x_iret hx hb hr hlocks hK hP hS h dX12_about_144
  rw [if_neg c16] at h
  have n17 : (v1 : Int32).toInt < 0 ∨ 12 < (v1 : Int32).toInt := by
    have c1_n := lv_neT (a := 0) c1 (by decide)
    have c2_n := lv_neT (a := 1) c2 (by decide)
    have c3_n := lv_neT (a := 2) c3 (by decide)
    have c4_n := lv_neT (a := 3) c4 (by decide)
    have c5_n := lv_neT (a := 4) c5 (by decide)
    have c6_n := lv_neT (a := 5) c6 (by decide)
    have c10_n := lv_neT (a := 6) c10 (by decide)
    have c11_n := lv_neT (a := 7) c11 (by decide)
    have c12_n := lv_neT (a := 8) c12 (by decide)
    have c13_n := lv_neT (a := 9) c13 (by decide)
    have c14_n := lv_neT (a := 10) c14 (by decide)
    have c15_n := lv_neT (a := 11) c15 (by decide)
    have c16_n := lv_neT (a := 12) c16 (by decide)
    omega
  refine lv_tableOut (tgt := 145) hx hb dX12_about_1 n17 (by decide) ?_
  refine lv_iconst (v := (-1)) hx hb dX12_about_145 (by decide) ?_
  exact x_iret hx hb hr hlocks hK hP hS h dX12_about_146
