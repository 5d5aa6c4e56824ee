theorem lw_134 : Cond.instanceMethod objectInit ∈ LW := inLW 134 (by decide +kernel) (by decide +kernel)
theorem lw_135 : Cond.code objectInit ⟨#[0xb1]⟩ 1 none ∈ LW := inLW 135 (by decide +kernel) (by decide +kernel)
theorem lw_141 : Cond.methodLink RX7 3 objectInit ∈ LW := inLW 141 (by decide +kernel) (by decide +kernel)
theorem lw_142 : Cond.classLink RX7 37 RX2 ∈ LW := inLW 142 (by decide +kernel) (by decide +kernel)
theorem lw_143 : Cond.instantiable RX2 5 ∈ LW := inLW 143 (by decide +kernel) (by decide +kernel)
theorem lw_144 : Cond.methodLink RX7 39 yX2_init ∈ LW := inLW 144 (by decide +kernel) (by decide +kernel)
theorem lw_145 : Cond.instanceMethod yX2_init ∈ LW := inLW 145 (by decide +kernel) (by decide +kernel)
theorem lw_146 : Cond.code yX2_init cX2_init 2 none ∈ LW := inLW 146 (by decide +kernel) (by decide +kernel)
theorem lw_147 : Cond.methodLink RX2 1 objectInit ∈ LW := inLW 147 (by decide +kernel) (by decide +kernel)
theorem lw_148 : Cond.methodLink RX2 16 yX2_clear ∈ LW := inLW 148 (by decide +kernel) (by decide +kernel)
theorem lw_175 : Cond.arrayClass .long ∈ LW := inLW 175 (by decide +kernel) (by decide +kernel)
theorem lw_176 : Cond.arrayClass .int ∈ LW := inLW 176 (by decide +kernel) (by decide +kernel)
theorem lw_182 : Cond.fieldLink RX7 9 "ThreeTiers$Recipe" "tierNames" "[J" ∈ LW := inLW 182 (by decide +kernel) (by decide +kernel)
theorem lw_200 : Cond.fieldLink RX7 25 "ThreeTiers$Recipe" "guestNames" "[J" ∈ LW := inLW 200 (by decide +kernel) (by decide +kernel)
theorem lw_367 : Cond.methodLink RX1 3 objectInit ∈ LW := inLW 367 (by decide +kernel) (by decide +kernel)
theorem lw_368 : Cond.classLink RX1 9 RX9 ∈ LW := inLW 368 (by decide +kernel) (by decide +kernel)
theorem lw_370 : Cond.instantiable RX9 7 ∈ LW := inLW 370 (by decide +kernel) (by decide +kernel)
theorem lw_371 : Cond.methodLink RX1 17 yX9_init ∈ LW := inLW 371 (by decide +kernel) (by decide +kernel)
theorem lw_372 : Cond.instanceMethod yX9_init ∈ LW := inLW 372 (by decide +kernel) (by decide +kernel)
theorem lw_373 : Cond.code yX9_init cX9_init 1 none ∈ LW := inLW 373 (by decide +kernel) (by decide +kernel)
theorem lw_374 : Cond.methodLink RX9 3 objectInit ∈ LW := inLW 374 (by decide +kernel) (by decide +kernel)
theorem lw_453 : Cond.methodLink RX10 3 objectInit ∈ LW := inLW 453 (by decide +kernel) (by decide +kernel)
theorem lw_484 : Cond.methodLink RX0 3 objectInit ∈ LW := inLW 484 (by decide +kernel) (by decide +kernel)
theorem lw_526 : Cond.methodLink RX8 3 objectInit ∈ LW := inLW 526 (by decide +kernel) (by decide +kernel)
theorem lw_564 : Cond.methodLink RX5 3 objectInit ∈ LW := inLW 564 (by decide +kernel) (by decide +kernel)
theorem lw_565 : Cond.classLink RX5 23 RX9 ∈ LW := inLW 565 (by decide +kernel) (by decide +kernel)
theorem lw_566 : Cond.methodLink RX5 25 yX9_init ∈ LW := inLW 566 (by decide +kernel) (by decide +kernel)
theorem lw_626 : Cond.methodLink RX3 3 objectInit ∈ LW := inLW 626 (by decide +kernel) (by decide +kernel)
theorem lw_649 : Cond.methodLink RX4 3 objectInit ∈ LW := inLW 649 (by decide +kernel) (by decide +kernel)
theorem lw_702 : Cond.arrayClass .boolean ∈ LW := inLW 702 (by decide +kernel) (by decide +kernel)
theorem lw_1433 : Cond.methodLink RX12 1 objectInit ∈ LW := inLW 1433 (by decide +kernel) (by decide +kernel)
def fnC_X9_init (p0 : Nat) (z : SC) : Option SC := gd (og z p0 9) (nm (cI z p0 6 (-1)) (fun z2 => gd (rg z.1 0 0 z2) (some z2)))
set_option maxHeartbeats 4000000 in
set_option maxRecDepth 100000 in
theorem mC_X9_init {l : Launch} {G : wG} (hG : Gb G) {p0 : Nat} {z Rz : SC} (h : fnC_X9_init p0 z = some Rz) : Met l yX9_init (wsU yX9_init cX9_init 1 none) (rmc 2 0 0) (va_Pc [.ref (G.2.2 p0)] (PreC G z)) (va_Qv (fun u => u = Rz) (PreC G) (AB G)) 0 0 (AB G) := by
  refine Met.ofW (cc := cX9_init) (maxL := 1) (ret := none) (by decide) rfl ?_
  intro p e s m args below meth c s₁ B hml hv
  obtain ⟨rfl, hP, hK, hAO⟩ := hv
  have C : CC p s m ([.ref (G.2.2 p0)] : List Value).toArray meth c cX9_init 1 (wsU yX9_init cX9_init 1 none) RX9 "<init>" G := ⟨B.exec, B.bytes, hml, findClass_of_methodNamed B.named, atoms_spec (ws := (wsU yX9_init cX9_init 1 none)) B.pre, B.returns, B.notSynchronized, hK, hAO, hG, (name_of_methodNamed B.named B.method).1⟩
  obtain ⟨hx, hb, -, hown, hts, hr, hlocks, -, -, -, hin⟩ := id C
  have hS : va_S (AB G) s.heap s.heap [] := va_S.rf
  have hl := lv_entry [.ref (G.2.2 p0)] (n := 1) (Nat.le_of_ble_eq_true rfl)
  rw [lg_entry_eq]
  generalize (lg_sl [.ref (G.2.2 p0)] ++ List.replicate (1 - (lg_sl [.ref (G.2.2 p0)]).length) Slot.unset).toArray = ls at hl ⊢
  have hl : lv_has ls 1 [(0, .ref (G.2.2 p0))] := hl
  refine W.cs (cells' := z.1 - z.1) (slots' := sl z.1 z.1) (Nat.sub_self _).symm (sl_self _).symm ?_
  unfold fnC_X9_init at h
  refine lv_aload_n hx hb dX9_init_0 rfl (lv_at hl 0 rfl) ?_
  refine W.objInit hx hb hown (hts _ (List.mem_cons_of_mem _ lw_374)) (hts _ (List.mem_cons_of_mem _ lw_134)) (hts _ (List.mem_cons_of_mem _ lw_135)) rfl (by rw [hml]; exact hl.1) rfl dX9_init_1 (Nat.le_of_ble_eq_true rfl) (Nat.le_of_ble_eq_true rfl) ?_
  refine W.eq (g2 := F0 m 4 ls []) rfl ?_
  refine lv_aload_n hx hb dX9_init_4 rfl (lv_at hl 0 rfl) ?_
  refine lv_iconst (v := (-1)) hx hb dX9_init_5 (by decide) ?_
  obtain ⟨g1, h⟩ := gd_s h
  obtain ⟨z2, e_z2, h⟩ := nm_s h
  refine zp_9_6 hx hb hts (inU inW_X9) hown hK hG hP hS (og_s g1).1 (og_s g1).2 (hts _ (List.mem_cons_of_mem _ lw_394)) dX9_init_6 (fun H locs hP hS => ?_)
  rw [← e_z2] at hP
  refine W.cs (cells' := z2.1 - z.1) (slots' := sl z.1 z2.1) (by rw [e_z2]; rfl) (by rw [e_z2]; rfl) ?_
  obtain ⟨g3, h⟩ := gd_s h
  exact x_cvret hx hb hr hlocks ⟨hK, hAO⟩ hP hS h (rg_s g3).1 (rg_s g3).2 dX9_init_9
def fnC_X2_add (p0 : Nat) (v1 : Int32) (v2 : Int32) (z : SC) : Option SC := gd (og z p0 2) (gd (og z p0 2) (bo (z.2.2 p0 0) (fun q3 => gd (og z q3 14) ((if (Int32.ofNat (ln q3)) ≤ (z.2.1.1 p0 2) then gd (rg z.1 0 0 z) (some z) else gd (og z p0 2) (bo (z.2.2 p0 0) (fun q8 => gd (og z p0 2) (gd (og z q8 14) (gd (ix (z.2.1.1 p0 2) (ln q8)) (nm (cI z q8 (Int32.toNatClampNeg (z.2.1.1 p0 2)) ((v2 <<< (5 &&& 31)) ||| v1)) (fun z12 => gd (og z12 p0 2) (gd (og z12 p0 2) (nm (cI z12 p0 2 ((z12.2.1.1 p0 2) + 1)) (fun z15 => gd (rg z.1 0 0 z15) (some z15)))))))))))))))
set_option maxHeartbeats 4000000 in
set_option maxRecDepth 100000 in
theorem mC_X2_add {l : Launch} {G : wG} (hG : Gb G) {p0 : Nat} {v1 : Int32} {v2 : Int32} {z Rz : SC} (h : fnC_X2_add p0 v1 v2 z = some Rz) : Met l yX2_add (wsU yX2_add cX2_add 3 none) (rmc 2 0 0) (va_Pc [.ref (G.2.2 p0), .int v1, .int v2] (PreC G z)) (va_Qv (fun u => u = Rz) (PreC G) (AB G)) 0 0 (AB G) := by
  refine Met.ofW (cc := cX2_add) (maxL := 3) (ret := none) (by decide) rfl ?_
  intro p e s m args below meth c s₁ B hml hv
  obtain ⟨rfl, hP, hK, hAO⟩ := hv
  have C : CC p s m ([.ref (G.2.2 p0), .int v1, .int v2] : List Value).toArray meth c cX2_add 3 (wsU yX2_add cX2_add 3 none) RX2 "add" G := ⟨B.exec, B.bytes, hml, findClass_of_methodNamed B.named, atoms_spec (ws := (wsU yX2_add cX2_add 3 none)) B.pre, B.returns, B.notSynchronized, hK, hAO, hG, (name_of_methodNamed B.named B.method).1⟩
  obtain ⟨hx, hb, -, hown, hts, hr, hlocks, -, -, -, hin⟩ := id C
  have hS : va_S (AB G) s.heap s.heap [] := va_S.rf
  have hl := lv_entry [.ref (G.2.2 p0), .int v1, .int v2] (n := 3) (Nat.le_of_ble_eq_true rfl)
  rw [lg_entry_eq]
  generalize (lg_sl [.ref (G.2.2 p0), .int v1, .int v2] ++ List.replicate (3 - (lg_sl [.ref (G.2.2 p0), .int v1, .int v2]).length) Slot.unset).toArray = ls at hl ⊢
  have hl : lv_has ls 3 [(0, .ref (G.2.2 p0)), (1, .int v1), (2, .int v2)] := hl
  refine W.cs (cells' := z.1 - z.1) (slots' := sl z.1 z.1) (Nat.sub_self _).symm (sl_self _).symm ?_
  unfold fnC_X2_add at h
  refine lv_aload_n hx hb dX2_add_0 rfl (lv_at hl 0 rfl) ?_
  obtain ⟨g1, h⟩ := gd_s h
  refine zg_2_2 hx hb hts (inU inW_X2) hown hK hP (og_s g1).1 (og_s g1).2 (hts _ (List.mem_cons_of_mem _ lw_158)) dX2_add_1 ?_
  refine lv_aload_n hx hb dX2_add_4 rfl (lv_at hl 0 rfl) ?_
  obtain ⟨g2, h⟩ := gd_s h
  obtain ⟨q3, h_q3, h⟩ := bo_s h
  refine zg_2_0 hx hb hts (inU inW_X2) hown hK hP (og_s g2).1 (og_s g2).2 (hts _ (List.mem_cons_of_mem _ lw_156)) h_q3 dX2_add_5 ?_
  obtain ⟨g4, h⟩ := gd_s h
  refine zl_n hx hb hK hP (og_s g4).1 (og_s g4).2 dX2_add_8 ?_
  refine lv_icmp_ge (tgt := 36) hx hb dX2_add_9 (by decide) (fun c5 => ?_) (fun c5 => ?_)
  · rw [if_pos c5] at h
    obtain ⟨g6, h⟩ := gd_s h
    exact x_cvret hx hb hr hlocks ⟨hK, hAO⟩ hP hS h (rg_s g6).1 (rg_s g6).2 dX2_add_36
  · rw [if_neg c5] at h
    refine lv_aload_n hx hb dX2_add_12 rfl (lv_at hl 0 rfl) ?_
    obtain ⟨g7, h⟩ := gd_s h
    obtain ⟨q8, h_q8, h⟩ := bo_s h
    refine zg_2_0 hx hb hts (inU inW_X2) hown hK hP (og_s g7).1 (og_s g7).2 (hts _ (List.mem_cons_of_mem _ lw_156)) h_q8 dX2_add_13 ?_
    refine lv_aload_n hx hb dX2_add_16 rfl (lv_at hl 0 rfl) ?_
    obtain ⟨g9, h⟩ := gd_s h
    refine zg_2_2 hx hb hts (inU inW_X2) hown hK hP (og_s g9).1 (og_s g9).2 (hts _ (List.mem_cons_of_mem _ lw_158)) dX2_add_17 ?_
    refine lv_iload_n hx hb dX2_add_20 rfl (lv_at hl 2 rfl) ?_
    refine lv_iconst (v := 5) hx hb dX2_add_21 (by decide) ?_
    refine lv_ishl hx hb dX2_add_22 ?_
    refine lv_iload_n hx hb dX2_add_23 rfl (lv_at hl 1 rfl) ?_
    refine lv_ior hx hb dX2_add_24 ?_
    obtain ⟨g10, h⟩ := gd_s h
    obtain ⟨g11, h⟩ := gd_s h
    obtain ⟨z12, e_z12, h⟩ := nm_s h
    refine zs_14 hx hb hK hG hP hS (og_s g10).1 (og_s g10).2 (ix_in g11) dX2_add_25 (fun H locs hP hS => ?_)
    rw [← e_z12] at hP
    refine W.cs (cells' := z12.1 - z.1) (slots' := sl z.1 z12.1) (by rw [e_z12]; rfl) (by rw [e_z12]; rfl) ?_
    refine lv_aload_n hx hb dX2_add_26 rfl (lv_at hl 0 rfl) ?_
    refine lv_dup hx hb dX2_add_27 rfl ?_
    obtain ⟨g13, h⟩ := gd_s h
    refine zg_2_2 hx hb hts (inU inW_X2) hown hK hP (og_s g13).1 (og_s g13).2 (hts _ (List.mem_cons_of_mem _ lw_158)) dX2_add_28 ?_
    refine lv_iconst (v := 1) hx hb dX2_add_31 (by decide) ?_
    refine lv_iadd hx hb dX2_add_32 ?_
    obtain ⟨g14, h⟩ := gd_s h
    obtain ⟨z15, e_z15, h⟩ := nm_s h
    refine zp_2_2 hx hb hts (inU inW_X2) hown hK hG hP hS (og_s g14).1 (og_s g14).2 (hts _ (List.mem_cons_of_mem _ lw_158)) dX2_add_33 (fun H locs hP hS => ?_)
    rw [← e_z15] at hP
    refine W.cs (cells' := z15.1 - z.1) (slots' := sl z.1 z15.1) (by rw [e_z15]; rfl) (by rw [e_z15]; rfl) ?_
    obtain ⟨g16, h⟩ := gd_s h
    exact x_cvret hx hb hr hlocks ⟨hK, hAO⟩ hP hS h (rg_s g16).1 (rg_s g16).2 dX2_add_36
def fnC_X2_clear (p0 : Nat) (v1 : Int32) (z : SC) : Option SC := gd (og z p0 2) (nm (cI z p0 2 0) (fun z2 => gd (og z2 p0 2) (nm (cI z2 p0 3 0) (fun z4 => gd (og z4 p0 2) (nm (cI z4 p0 4 0) (fun z6 => gd (cg z.1 0 0 z6 0 0) (gd (og z6 p0 2) (bv2 (fnC_X2_add p0 v1 0 z6) (fun z10 => gd (pg z.1 z6 z10 0 0) (gd (rg z.1 0 0 z10) (some z10)))))))))))
set_option maxHeartbeats 4000000 in
set_option maxRecDepth 100000 in
theorem mC_X2_clear {l : Launch} {G : wG} (hG : Gb G) {p0 : Nat} {v1 : Int32} {z Rz : SC} (h : fnC_X2_clear p0 v1 z = some Rz) : Met l yX2_clear (wsU yX2_clear cX2_clear 2 none) (rmc 4 0 0) (va_Pc [.ref (G.2.2 p0), .int v1] (PreC G z)) (va_Qv (fun u => u = Rz) (PreC G) (AB G)) 0 0 (AB G) := by
  refine Met.ofW (cc := cX2_clear) (maxL := 2) (ret := none) (by decide) rfl ?_
  intro p e s m args below meth c s₁ B hml hv
  obtain ⟨rfl, hP, hK, hAO⟩ := hv
  have C : CC p s m ([.ref (G.2.2 p0), .int v1] : List Value).toArray meth c cX2_clear 2 (wsU yX2_clear cX2_clear 2 none) RX2 "clear" G := ⟨B.exec, B.bytes, hml, findClass_of_methodNamed B.named, atoms_spec (ws := (wsU yX2_clear cX2_clear 2 none)) B.pre, B.returns, B.notSynchronized, hK, hAO, hG, (name_of_methodNamed B.named B.method).1⟩
  obtain ⟨hx, hb, -, hown, hts, hr, hlocks, -, -, -, hin⟩ := id C
  have hS : va_S (AB G) s.heap s.heap [] := va_S.rf
  have hl := lv_entry [.ref (G.2.2 p0), .int v1] (n := 2) (Nat.le_of_ble_eq_true rfl)
  rw [lg_entry_eq]
  generalize (lg_sl [.ref (G.2.2 p0), .int v1] ++ List.replicate (2 - (lg_sl [.ref (G.2.2 p0), .int v1]).length) Slot.unset).toArray = ls at hl ⊢
  have hl : lv_has ls 2 [(0, .ref (G.2.2 p0)), (1, .int v1)] := hl
  refine W.cs (cells' := z.1 - z.1) (slots' := sl z.1 z.1) (Nat.sub_self _).symm (sl_self _).symm ?_
  unfold fnC_X2_clear at h
  refine lv_aload_n hx hb dX2_clear_0 rfl (lv_at hl 0 rfl) ?_
  refine lv_iconst (v := 0) hx hb dX2_clear_1 (by decide) ?_
  obtain ⟨g1, h⟩ := gd_s h
  obtain ⟨z2, e_z2, h⟩ := nm_s h
  refine zp_2_2 hx hb hts (inU inW_X2) hown hK hG hP hS (og_s g1).1 (og_s g1).2 (hts _ (List.mem_cons_of_mem _ lw_158)) dX2_clear_2 (fun H locs hP hS => ?_)
  rw [← e_z2] at hP
  refine W.cs (cells' := z2.1 - z.1) (slots' := sl z.1 z2.1) (by rw [e_z2]; rfl) (by rw [e_z2]; rfl) ?_
  refine lv_aload_n hx hb dX2_clear_5 rfl (lv_at hl 0 rfl) ?_
  refine lv_iconst (v := 0) hx hb dX2_clear_6 (by decide) ?_
  obtain ⟨g3, h⟩ := gd_s h
  obtain ⟨z4, e_z4, h⟩ := nm_s h
  refine zp_2_3 hx hb hts (inU inW_X2) hown hK hG hP hS (og_s g3).1 (og_s g3).2 (hts _ (List.mem_cons_of_mem _ lw_159)) dX2_clear_7 (fun H locs hP hS => ?_)
  rw [← e_z4] at hP
  refine W.cs (cells' := z4.1 - z.1) (slots' := sl z.1 z4.1) (by rw [e_z4]; rfl) (by rw [e_z4]; rfl) ?_
  refine lv_aload_n hx hb dX2_clear_10 rfl (lv_at hl 0 rfl) ?_
  refine lv_iconst (v := 0) hx hb dX2_clear_11 (by decide) ?_
  obtain ⟨g5, h⟩ := gd_s h
  obtain ⟨z6, e_z6, h⟩ := nm_s h
  refine zp_2_4 hx hb hts (inU inW_X2) hown hK hG hP hS (og_s g5).1 (og_s g5).2 (hts _ (List.mem_cons_of_mem _ lw_161)) rfl dX2_clear_12 (fun H locs hP hS => ?_)
  rw [← e_z6] at hP
  refine W.cs (cells' := z6.1 - z.1) (slots' := sl z.1 z6.1) (by rw [e_z6]; rfl) (by rw [e_z6]; rfl) ?_
  refine lv_aload_n hx hb dX2_clear_15 rfl (lv_at hl 0 rfl) ?_
  refine lv_iload_n hx hb dX2_clear_16 rfl (lv_at hl 1 rfl) ?_
  refine lv_iconst (v := 0) hx hb dX2_clear_17 (by decide) ?_
  obtain ⟨g7, h⟩ := gd_s h
  obtain ⟨g8, h⟩ := gd_s h
  obtain ⟨z10, h9, h⟩ := bv2_s h
  obtain ⟨g11, h⟩ := gd_s h
  refine x_CV (Rz := z10) (As := [.int v1, .int 0]) (rest := []) ⟨hx, hb, hml, hown, hts⟩ ⟨hK, hAO⟩ hP hS (og_s g8).2 (cellC_2 (og_s g8).1) rfl (mC_X2_add hG h9) (cwV 2 hts (gV lw_152 lw_153 lw_154 lw_111 lw_155) rfl rfl rfl (by decide +kernel) (rmc_ok (by decide) (by decide))) rfl hl.1 rfl (Nat.le_of_ble_eq_true rfl) dX2_clear_18 (cg_s g7).2 (fun H locs hP hS => ?_)
  refine W.cs (cells' := z10.1 - z.1) (slots' := sl z.1 z10.1) (pg_s g11).1 (pg_s g11).2 ?_
  obtain ⟨g12, h⟩ := gd_s h
  exact x_cvret hx hb hr hlocks ⟨hK, hAO⟩ hP hS h (rg_s g12).1 (rg_s g12).2 dX2_clear_21
def fnC_X2_init (p0 : Nat) (v1 : Int32) (z : SC) : Option SC := gd (ag z.1 2 304 z 14 272) (gd (ln z.1 == 272) (nm (cN z) (fun z3 => gd (og z3 p0 2) (nm (cR z3 p0 0 z.1) (fun z5 => gd (ag z.1 2 304 z5 14 32) (gd (ln z5.1 == 32) (nm (cN z5) (fun z8 => gd (og z8 p0 2) (nm (cR z8 p0 1 z5.1) (fun z10 => gd (cg z.1 2 304 z10 0 0) (gd (og z10 p0 2) (bv2 (fnC_X2_clear p0 v1 z10) (fun z14 => gd (pg z.1 z10 z14 0 0) (gd (rg z.1 2 304 z14) (some z14)))))))))))))))
set_option maxHeartbeats 4000000 in
set_option maxRecDepth 100000 in
theorem mC_X2_init {l : Launch} {G : wG} (hG : Gb G) {p0 : Nat} {v1 : Int32} {z Rz : SC} (h : fnC_X2_init p0 v1 z = some Rz) : Met l yX2_init (wsU yX2_init cX2_init 2 none) (rmc 6 2 304) (va_Pc [.ref (G.2.2 p0), .int v1] (PreC G z)) (va_Qv (fun u => u = Rz) (PreC G) (AB G)) 2 304 (AB G) := by
  refine Met.ofW (cc := cX2_init) (maxL := 2) (ret := none) (by decide) rfl ?_
  intro p e s m args below meth c s₁ B hml hv
  obtain ⟨rfl, hP, hK, hAO⟩ := hv
  have C : CC p s m ([.ref (G.2.2 p0), .int v1] : List Value).toArray meth c cX2_init 2 (wsU yX2_init cX2_init 2 none) RX2 "<init>" G := ⟨B.exec, B.bytes, hml, findClass_of_methodNamed B.named, atoms_spec (ws := (wsU yX2_init cX2_init 2 none)) B.pre, B.returns, B.notSynchronized, hK, hAO, hG, (name_of_methodNamed B.named B.method).1⟩
  obtain ⟨hx, hb, -, hown, hts, hr, hlocks, -, -, -, hin⟩ := id C
  have hS : va_S (AB G) s.heap s.heap [] := va_S.rf
  have hl := lv_entry [.ref (G.2.2 p0), .int v1] (n := 2) (Nat.le_of_ble_eq_true rfl)
  rw [lg_entry_eq]
  generalize (lg_sl [.ref (G.2.2 p0), .int v1] ++ List.replicate (2 - (lg_sl [.ref (G.2.2 p0), .int v1]).length) Slot.unset).toArray = ls at hl ⊢
  have hl : lv_has ls 2 [(0, .ref (G.2.2 p0)), (1, .int v1)] := hl
  refine W.cs (cells' := z.1 - z.1) (slots' := sl z.1 z.1) (Nat.sub_self _).symm (sl_self _).symm ?_
  unfold fnC_X2_init at h
  refine lv_aload_n hx hb dX2_init_0 rfl (lv_at hl 0 rfl) ?_
  refine W.objInit hx hb hown (hts _ (List.mem_cons_of_mem _ lw_147)) (hts _ (List.mem_cons_of_mem _ lw_134)) (hts _ (List.mem_cons_of_mem _ lw_135)) rfl (by rw [hml]; exact hl.1) rfl dX2_init_1 (Nat.le_of_ble_eq_true rfl) (Nat.le_of_ble_eq_true rfl) ?_
  refine W.eq (g2 := F0 m 4 ls []) rfl ?_
  refine lv_aload_n hx hb dX2_init_4 rfl (lv_at hl 0 rfl) ?_
  refine lv_sipush (v := 272) hx hb dX2_init_5 (by decide) ?_
  obtain ⟨g1, h⟩ := gd_s h
  obtain ⟨g2, h⟩ := gd_s h
  obtain ⟨z3, e_z3, h⟩ := nm_s h
  refine za_14 hx hb (hts _ (List.mem_cons_of_mem _ lw_176)) hK hG hP hS (ag_s g1).1 (eq_of_beq g2) (by decide) rfl (Nat.le_of_ble_eq_true rfl) (ag_s g1).2.2.2.1 (ag_s g1).2.2.2.2 dX2_init_8 (fun H hP hS => ?_)
  rw [← e_z3] at hP
  refine W.cs (cells' := z3.1 - z.1) (slots' := sl z.1 z3.1) (by rw [e_z3]; exact ag_c g1) (by rw [e_z3]; exact ag_l g1) ?_
  obtain ⟨g4, h⟩ := gd_s h
  obtain ⟨z5, e_z5, h⟩ := nm_s h
  refine zp_2_0 hx hb hts (inU inW_X2) hown hK hG hP hS (og_s g4).1 (og_s g4).2 (hts _ (List.mem_cons_of_mem _ lw_156)) hin rfl dX2_init_10 (fun H locs hP hS => ?_)
  rw [← e_z5] at hP
  refine W.cs (cells' := z5.1 - z.1) (slots' := sl z.1 z5.1) (by rw [e_z5]; rfl) (by rw [e_z5]; rfl) ?_
  refine lv_aload_n hx hb dX2_init_13 rfl (lv_at hl 0 rfl) ?_
  refine lv_bipush (v := 32) hx hb dX2_init_14 (by decide) ?_
  obtain ⟨g6, h⟩ := gd_s h
  obtain ⟨g7, h⟩ := gd_s h
  obtain ⟨z8, e_z8, h⟩ := nm_s h
  refine za_14 hx hb (hts _ (List.mem_cons_of_mem _ lw_176)) hK hG hP hS (ag_s g6).1 (eq_of_beq g7) (by decide) rfl (Nat.le_of_ble_eq_true rfl) (ag_s g6).2.2.2.1 (ag_s g6).2.2.2.2 dX2_init_16 (fun H hP hS => ?_)
  rw [← e_z8] at hP
  refine W.cs (cells' := z8.1 - z.1) (slots' := sl z.1 z8.1) (by rw [e_z8]; exact ag_c g6) (by rw [e_z8]; exact ag_l g6) ?_
  obtain ⟨g9, h⟩ := gd_s h
  obtain ⟨z10, e_z10, h⟩ := nm_s h
  refine zp_2_1 hx hb hts (inU inW_X2) hown hK hG hP hS (og_s g9).1 (og_s g9).2 (hts _ (List.mem_cons_of_mem _ lw_157)) hin rfl dX2_init_18 (fun H locs hP hS => ?_)
  rw [← e_z10] at hP
  refine W.cs (cells' := z10.1 - z.1) (slots' := sl z.1 z10.1) (by rw [e_z10]; rfl) (by rw [e_z10]; rfl) ?_
  refine lv_aload_n hx hb dX2_init_21 rfl (lv_at hl 0 rfl) ?_
  refine lv_iload_n hx hb dX2_init_22 rfl (lv_at hl 1 rfl) ?_
  obtain ⟨g11, h⟩ := gd_s h
  obtain ⟨g12, h⟩ := gd_s h
  obtain ⟨z14, h13, h⟩ := bv2_s h
  obtain ⟨g15, h⟩ := gd_s h
  refine x_CV (Rz := z14) (As := [.int v1]) (rest := []) ⟨hx, hb, hml, hown, hts⟩ ⟨hK, hAO⟩ hP hS (og_s g12).2 (cellC_2 (og_s g12).1) rfl (mC_X2_clear hG h13) (cwV 1 hts (gV lw_148 lw_149 lw_150 lw_111 lw_151) rfl rfl rfl (by decide +kernel) (rmc_ok (by decide) (by decide))) rfl hl.1 rfl (Nat.le_of_ble_eq_true rfl) dX2_init_23 (cg_s g11).2 (fun H locs hP hS => ?_)
  refine W.cs (cells' := z14.1 - z.1) (slots' := sl z.1 z14.1) (pg_s g15).1 (pg_s g15).2 ?_
  obtain ⟨g16, h⟩ := gd_s h
  exact x_cvret hx hb hr hlocks ⟨hK, hAO⟩ hP hS h (rg_s g16).1 (rg_s g16).2 dX2_init_26
def fnC_X7_init (p0 : Nat) (z : SC) : Option SC := gd (ag z.1 14 654 z 15 3) (gd (ln z.1 == 3) (nm (cN z) (fun z3 => gd (og z3 p0 7) (nm (cR z3 p0 1 z.1) (fun z5 => gd (ag z.1 14 654 z5 14 3) (gd (ln z5.1 == 3) (nm (cN z5) (fun z8 => gd (og z8 p0 7) (nm (cR z8 p0 2 z5.1) (fun z10 => gd (ag z.1 14 654 z10 14 3) (gd (ln z10.1 == 3) (nm (cN z10) (fun z13 => gd (og z13 p0 7) (nm (cR z13 p0 3 z10.1) (fun z15 => gd (ag z.1 14 654 z15 14 3) (gd (ln z15.1 == 3) (nm (cN z15) (fun z18 => gd (og z18 p0 7) (nm (cR z18 p0 4 z15.1) (fun z20 => gd (ag z.1 14 654 z20 15 6) (gd (ln z20.1 == 6) (nm (cN z20) (fun z23 => gd (og z23 p0 7) (nm (cR z23 p0 6 z20.1) (fun z25 => gd (ag z.1 14 654 z25 14 6) (gd (ln z25.1 == 6) (nm (cN z25) (fun z28 => gd (og z28 p0 7) (nm (cR z28 p0 7 z25.1) (fun z30 => gd (ag z.1 14 654 z30 14 6) (gd (ln z30.1 == 6) (nm (cN z30) (fun z33 => gd (og z33 p0 7) (nm (cR z33 p0 8 z30.1) (fun z35 => gd (ag z.1 14 654 z35 14 6) (gd (ln z35.1 == 6) (nm (cN z35) (fun z38 => gd (og z38 p0 7) (nm (cR z38 p0 9 z35.1) (fun z40 => gd (ag z.1 14 654 z40 2 5) (nm (cN z40) (fun z42 => gd (cg z.1 14 654 z42 2 304) (bv2 (fnC_X2_init z40.1 1 z42) (fun z45 => gd (pg z.1 z42 z45 2 304) (gd (og z45 p0 7) (nm (cR z45 p0 10 z40.1) (fun z48 => gd (ag z.1 14 654 z48 2 5) (nm (cN z48) (fun z50 => gd (cg z.1 14 654 z50 2 304) (bv2 (fnC_X2_init z48.1 0 z50) (fun z53 => gd (pg z.1 z50 z53 2 304) (gd (og z53 p0 7) (nm (cR z53 p0 11 z48.1) (fun z56 => gd (og z56 p0 7) (nm (cI z56 p0 12 1) (fun z58 => gd (rg z.1 14 654 z58) (some z58)))))))))))))))))))))))))))))))))))))))))))))))))))))))))
set_option maxHeartbeats 4000000 in
set_option maxRecDepth 100000 in
theorem mC_X7_init {l : Launch} {G : wG} (hG : Gb G) {p0 : Nat} {z Rz : SC} (h : fnC_X7_init p0 z = some Rz) : Met l yX7_init (wsU yX7_init cX7_init 1 none) (rmc 8 14 654) (va_Pc [.ref (G.2.2 p0)] (PreC G z)) (va_Qv (fun u => u = Rz) (PreC G) (AB G)) 14 654 (AB G) := by
  refine Met.ofW (cc := cX7_init) (maxL := 1) (ret := none) (by decide) rfl ?_
  intro p e s m args below meth c s₁ B hml hv
  obtain ⟨rfl, hP, hK, hAO⟩ := hv
  have C : CC p s m ([.ref (G.2.2 p0)] : List Value).toArray meth c cX7_init 1 (wsU yX7_init cX7_init 1 none) RX7 "<init>" G := ⟨B.exec, B.bytes, hml, findClass_of_methodNamed B.named, atoms_spec (ws := (wsU yX7_init cX7_init 1 none)) B.pre, B.returns, B.notSynchronized, hK, hAO, hG, (name_of_methodNamed B.named B.method).1⟩
  obtain ⟨hx, hb, -, hown, hts, hr, hlocks, -, -, -, hin⟩ := id C
  have hS : va_S (AB G) s.heap s.heap [] := va_S.rf
  have hl := lv_entry [.ref (G.2.2 p0)] (n := 1) (Nat.le_of_ble_eq_true rfl)
  rw [lg_entry_eq]
  generalize (lg_sl [.ref (G.2.2 p0)] ++ List.replicate (1 - (lg_sl [.ref (G.2.2 p0)]).length) Slot.unset).toArray = ls at hl ⊢
  have hl : lv_has ls 1 [(0, .ref (G.2.2 p0))] := hl
  refine W.cs (cells' := z.1 - z.1) (slots' := sl z.1 z.1) (Nat.sub_self _).symm (sl_self _).symm ?_
  unfold fnC_X7_init at h
  refine lv_aload_n hx hb dX7_init_0 rfl (lv_at hl 0 rfl) ?_
  refine W.objInit hx hb hown (hts _ (List.mem_cons_of_mem _ lw_141)) (hts _ (List.mem_cons_of_mem _ lw_134)) (hts _ (List.mem_cons_of_mem _ lw_135)) rfl (by rw [hml]; exact hl.1) rfl dX7_init_1 (Nat.le_of_ble_eq_true rfl) (Nat.le_of_ble_eq_true rfl) ?_
  refine W.eq (g2 := F0 m 4 ls []) rfl ?_
  refine lv_aload_n hx hb dX7_init_4 rfl (lv_at hl 0 rfl) ?_
  refine lv_iconst (v := 3) hx hb dX7_init_5 (by decide) ?_
  obtain ⟨g1, h⟩ := gd_s h
  obtain ⟨g2, h⟩ := gd_s h
  obtain ⟨z3, e_z3, h⟩ := nm_s h
  refine za_15 hx hb (hts _ (List.mem_cons_of_mem _ lw_175)) hK hG hP hS (ag_s g1).1 (eq_of_beq g2) (by decide) rfl (Nat.le_of_ble_eq_true rfl) (ag_s g1).2.2.2.1 (ag_s g1).2.2.2.2 dX7_init_6 (fun H hP hS => ?_)
  rw [← e_z3] at hP
  refine W.cs (cells' := z3.1 - z.1) (slots' := sl z.1 z3.1) (by rw [e_z3]; exact ag_c g1) (by rw [e_z3]; exact ag_l g1) ?_
  obtain ⟨g4, h⟩ := gd_s h
  obtain ⟨z5, e_z5, h⟩ := nm_s h
  refine zp_7_1 hx hb hts (inU inW_X7) hown hK hG hP hS (og_s g4).1 (og_s g4).2 (hts _ (List.mem_cons_of_mem _ lw_182)) hin rfl dX7_init_8 (fun H locs hP hS => ?_)
  rw [← e_z5] at hP
  refine W.cs (cells' := z5.1 - z.1) (slots' := sl z.1 z5.1) (by rw [e_z5]; rfl) (by rw [e_z5]; rfl) ?_
  refine lv_aload_n hx hb dX7_init_11 rfl (lv_at hl 0 rfl) ?_
  refine lv_iconst (v := 3) hx hb dX7_init_12 (by decide) ?_
  obtain ⟨g6, h⟩ := gd_s h
  obtain ⟨g7, h⟩ := gd_s h
  obtain ⟨z8, e_z8, h⟩ := nm_s h
  refine za_14 hx hb (hts _ (List.mem_cons_of_mem _ lw_176)) hK hG hP hS (ag_s g6).1 (eq_of_beq g7) (by decide) rfl (Nat.le_of_ble_eq_true rfl) (ag_s g6).2.2.2.1 (ag_s g6).2.2.2.2 dX7_init_13 (fun H hP hS => ?_)
  rw [← e_z8] at hP
  refine W.cs (cells' := z8.1 - z.1) (slots' := sl z.1 z8.1) (by rw [e_z8]; exact ag_c g6) (by rw [e_z8]; exact ag_l g6) ?_
  obtain ⟨g9, h⟩ := gd_s h
  obtain ⟨z10, e_z10, h⟩ := nm_s h
  refine zp_7_2 hx hb hts (inU inW_X7) hown hK hG hP hS (og_s g9).1 (og_s g9).2 (hts _ (List.mem_cons_of_mem _ lw_184)) hin rfl dX7_init_15 (fun H locs hP hS => ?_)
  rw [← e_z10] at hP
  refine W.cs (cells' := z10.1 - z.1) (slots' := sl z.1 z10.1) (by rw [e_z10]; rfl) (by rw [e_z10]; rfl) ?_
  refine lv_aload_n hx hb dX7_init_18 rfl (lv_at hl 0 rfl) ?_
  refine lv_iconst (v := 3) hx hb dX7_init_19 (by decide) ?_
  obtain ⟨g11, h⟩ := gd_s h
  obtain ⟨g12, h⟩ := gd_s h
  obtain ⟨z13, e_z13, h⟩ := nm_s h
  refine za_14 hx hb (hts _ (List.mem_cons_of_mem _ lw_176)) hK hG hP hS (ag_s g11).1 (eq_of_beq g12) (by decide) rfl (Nat.le_of_ble_eq_true rfl) (ag_s g11).2.2.2.1 (ag_s g11).2.2.2.2 dX7_init_20 (fun H hP hS => ?_)
  rw [← e_z13] at hP
  refine W.cs (cells' := z13.1 - z.1) (slots' := sl z.1 z13.1) (by rw [e_z13]; exact ag_c g11) (by rw [e_z13]; exact ag_l g11) ?_
  obtain ⟨g14, h⟩ := gd_s h
  obtain ⟨z15, e_z15, h⟩ := nm_s h
  refine zp_7_3 hx hb hts (inU inW_X7) hown hK hG hP hS (og_s g14).1 (og_s g14).2 (hts _ (List.mem_cons_of_mem _ lw_188)) hin rfl dX7_init_22 (fun H locs hP hS => ?_)
  rw [← e_z15] at hP
  refine W.cs (cells' := z15.1 - z.1) (slots' := sl z.1 z15.1) (by rw [e_z15]; rfl) (by rw [e_z15]; rfl) ?_
  refine lv_aload_n hx hb dX7_init_25 rfl (lv_at hl 0 rfl) ?_
  refine lv_iconst (v := 3) hx hb dX7_init_26 (by decide) ?_
  obtain ⟨g16, h⟩ := gd_s h
  obtain ⟨g17, h⟩ := gd_s h
  obtain ⟨z18, e_z18, h⟩ := nm_s h
  refine za_14 hx hb (hts _ (List.mem_cons_of_mem _ lw_176)) hK hG hP hS (ag_s g16).1 (eq_of_beq g17) (by decide) rfl (Nat.le_of_ble_eq_true rfl) (ag_s g16).2.2.2.1 (ag_s g16).2.2.2.2 dX7_init_27 (fun H hP hS => ?_)
  rw [← e_z18] at hP
  refine W.cs (cells' := z18.1 - z.1) (slots' := sl z.1 z18.1) (by rw [e_z18]; exact ag_c g16) (by rw [e_z18]; exact ag_l g16) ?_
  obtain ⟨g19, h⟩ := gd_s h
  obtain ⟨z20, e_z20, h⟩ := nm_s h
  refine zp_7_4 hx hb hts (inU inW_X7) hown hK hG hP hS (og_s g19).1 (og_s g19).2 (hts _ (List.mem_cons_of_mem _ lw_192)) hin rfl dX7_init_29 (fun H locs hP hS => ?_)
  rw [← e_z20] at hP
  refine W.cs (cells' := z20.1 - z.1) (slots' := sl z.1 z20.1) (by rw [e_z20]; rfl) (by rw [e_z20]; rfl) ?_
  refine lv_aload_n hx hb dX7_init_32 rfl (lv_at hl 0 rfl) ?_
  refine lv_bipush (v := 6) hx hb dX7_init_33 (by decide) ?_
  obtain ⟨g21, h⟩ := gd_s h
  obtain ⟨g22, h⟩ := gd_s h
  obtain ⟨z23, e_z23, h⟩ := nm_s h
  refine za_15 hx hb (hts _ (List.mem_cons_of_mem _ lw_175)) hK hG hP hS (ag_s g21).1 (eq_of_beq g22) (by decide) rfl (Nat.le_of_ble_eq_true rfl) (ag_s g21).2.2.2.1 (ag_s g21).2.2.2.2 dX7_init_35 (fun H hP hS => ?_)
  rw [← e_z23] at hP
  refine W.cs (cells' := z23.1 - z.1) (slots' := sl z.1 z23.1) (by rw [e_z23]; exact ag_c g21) (by rw [e_z23]; exact ag_l g21) ?_
  obtain ⟨g24, h⟩ := gd_s h
  obtain ⟨z25, e_z25, h⟩ := nm_s h
  refine zp_7_6 hx hb hts (inU inW_X7) hown hK hG hP hS (og_s g24).1 (og_s g24).2 (hts _ (List.mem_cons_of_mem _ lw_200)) hin rfl dX7_init_37 (fun H locs hP hS => ?_)
  rw [← e_z25] at hP
  refine W.cs (cells' := z25.1 - z.1) (slots' := sl z.1 z25.1) (by rw [e_z25]; rfl) (by rw [e_z25]; rfl) ?_
  refine lv_aload_n hx hb dX7_init_40 rfl (lv_at hl 0 rfl) ?_
  refine lv_bipush (v := 6) hx hb dX7_init_41 (by decide) ?_
  obtain ⟨g26, h⟩ := gd_s h
  obtain ⟨g27, h⟩ := gd_s h
  obtain ⟨z28, e_z28, h⟩ := nm_s h
  refine za_14 hx hb (hts _ (List.mem_cons_of_mem _ lw_176)) hK hG hP hS (ag_s g26).1 (eq_of_beq g27) (by decide) rfl (Nat.le_of_ble_eq_true rfl) (ag_s g26).2.2.2.1 (ag_s g26).2.2.2.2 dX7_init_43 (fun H hP hS => ?_)
  rw [← e_z28] at hP
  refine W.cs (cells' := z28.1 - z.1) (slots' := sl z.1 z28.1) (by rw [e_z28]; exact ag_c g26) (by rw [e_z28]; exact ag_l g26) ?_
  obtain ⟨g29, h⟩ := gd_s h
  obtain ⟨z30, e_z30, h⟩ := nm_s h
  refine zp_7_7 hx hb hts (inU inW_X7) hown hK hG hP hS (og_s g29).1 (og_s g29).2 (hts _ (List.mem_cons_of_mem _ lw_202)) hin rfl dX7_init_45 (fun H locs hP hS => ?_)
  rw [← e_z30] at hP
  refine W.cs (cells' := z30.1 - z.1) (slots' := sl z.1 z30.1) (by rw [e_z30]; rfl) (by rw [e_z30]; rfl) ?_
  refine lv_aload_n hx hb dX7_init_48 rfl (lv_at hl 0 rfl) ?_
  refine lv_bipush (v := 6) hx hb dX7_init_49 (by decide) ?_
  obtain ⟨g31, h⟩ := gd_s h
  obtain ⟨g32, h⟩ := gd_s h
  obtain ⟨z33, e_z33, h⟩ := nm_s h
  refine za_14 hx hb (hts _ (List.mem_cons_of_mem _ lw_176)) hK hG hP hS (ag_s g31).1 (eq_of_beq g32) (by decide) rfl (Nat.le_of_ble_eq_true rfl) (ag_s g31).2.2.2.1 (ag_s g31).2.2.2.2 dX7_init_51 (fun H hP hS => ?_)
  rw [← e_z33] at hP
  refine W.cs (cells' := z33.1 - z.1) (slots' := sl z.1 z33.1) (by rw [e_z33]; exact ag_c g31) (by rw [e_z33]; exact ag_l g31) ?_
  obtain ⟨g34, h⟩ := gd_s h
  obtain ⟨z35, e_z35, h⟩ := nm_s h
  refine zp_7_8 hx hb hts (inU inW_X7) hown hK hG hP hS (og_s g34).1 (og_s g34).2 (hts _ (List.mem_cons_of_mem _ lw_205)) hin rfl dX7_init_53 (fun H locs hP hS => ?_)
  rw [← e_z35] at hP
  refine W.cs (cells' := z35.1 - z.1) (slots' := sl z.1 z35.1) (by rw [e_z35]; rfl) (by rw [e_z35]; rfl) ?_
  refine lv_aload_n hx hb dX7_init_56 rfl (lv_at hl 0 rfl) ?_
  refine lv_bipush (v := 6) hx hb dX7_init_57 (by decide) ?_
  obtain ⟨g36, h⟩ := gd_s h
  obtain ⟨g37, h⟩ := gd_s h
  obtain ⟨z38, e_z38, h⟩ := nm_s h
  refine za_14 hx hb (hts _ (List.mem_cons_of_mem _ lw_176)) hK hG hP hS (ag_s g36).1 (eq_of_beq g37) (by decide) rfl (Nat.le_of_ble_eq_true rfl) (ag_s g36).2.2.2.1 (ag_s g36).2.2.2.2 dX7_init_59 (fun H hP hS => ?_)
  rw [← e_z38] at hP
  refine W.cs (cells' := z38.1 - z.1) (slots' := sl z.1 z38.1) (by rw [e_z38]; exact ag_c g36) (by rw [e_z38]; exact ag_l g36) ?_
  obtain ⟨g39, h⟩ := gd_s h
  obtain ⟨z40, e_z40, h⟩ := nm_s h
  refine zp_7_9 hx hb hts (inU inW_X7) hown hK hG hP hS (og_s g39).1 (og_s g39).2 (hts _ (List.mem_cons_of_mem _ lw_208)) hin rfl dX7_init_61 (fun H locs hP hS => ?_)
  rw [← e_z40] at hP
  refine W.cs (cells' := z40.1 - z.1) (slots' := sl z.1 z40.1) (by rw [e_z40]; rfl) (by rw [e_z40]; rfl) ?_
  refine lv_aload_n hx hb dX7_init_64 rfl (lv_at hl 0 rfl) ?_
  obtain ⟨g41, h⟩ := gd_s h
  obtain ⟨z42, e_z42, h⟩ := nm_s h
  refine zn_2 hx hb hts (inU inW_X2) hown hK hG hP hS (ag_s g41).1 (hts _ (List.mem_cons_of_mem _ lw_142)) (hts _ (List.mem_cons_of_mem _ lw_143)) (hts _ (List.mem_cons_of_mem _ lw_111)) (ag_s g41).2.2.2.1 (ag_s g41).2.2.2.2 dX7_init_65 (fun H hP hS => ?_)
  rw [← e_z42] at hP
  refine W.cs (cells' := z42.1 - z.1) (slots' := sl z.1 z42.1) (by rw [e_z42]; exact ag_c g41) (by rw [e_z42]; exact ag_l g41) ?_
  refine lv_dup hx hb dX7_init_68 rfl ?_
  refine lv_iconst (v := 1) hx hb dX7_init_69 (by decide) ?_
  obtain ⟨g43, h⟩ := gd_s h
  obtain ⟨z45, h44, h⟩ := bv2_s h
  obtain ⟨g46, h⟩ := gd_s h
  refine x_CI (Rz := z45) (As := [.int 1]) (rest := [.ref (G.2.2 (z40.1)), .ref (G.2.2 p0)]) ⟨hx, hb, hml, hown, hts⟩ ⟨hK, hAO⟩ hP hS (mC_X2_init hG h44) (cwI 1 hts (gU (fun _ h => List.mem_cons_of_mem _ h) lw_146) rfl rfl rfl (hts _ (List.mem_cons_of_mem _ lw_111)) (hts _ (List.mem_cons_of_mem _ lw_144)) (hts _ (List.mem_cons_of_mem _ lw_145)) rfl (by decide +kernel) (rmc_ok (by decide) (by decide))) rfl hl.1 rfl (Nat.le_of_ble_eq_true rfl) dX7_init_70 (cg_s g43).2 (fun H locs hP hS => ?_)
  refine W.cs (cells' := z45.1 - z.1) (slots' := sl z.1 z45.1) (pg_s g46).1 (pg_s g46).2 ?_
  obtain ⟨g47, h⟩ := gd_s h
  obtain ⟨z48, e_z48, h⟩ := nm_s h
  refine zp_7_10 hx hb hts (inU inW_X7) hown hK hG hP hS (og_s g47).1 (og_s g47).2 (hts _ (List.mem_cons_of_mem _ lw_210)) hin rfl dX7_init_73 (fun H locs hP hS => ?_)
  rw [← e_z48] at hP
  refine W.cs (cells' := z48.1 - z.1) (slots' := sl z.1 z48.1) (by rw [e_z48]; rfl) (by rw [e_z48]; rfl) ?_
  refine lv_aload_n hx hb dX7_init_76 rfl (lv_at hl 0 rfl) ?_
  obtain ⟨g49, h⟩ := gd_s h
  obtain ⟨z50, e_z50, h⟩ := nm_s h
  refine zn_2 hx hb hts (inU inW_X2) hown hK hG hP hS (ag_s g49).1 (hts _ (List.mem_cons_of_mem _ lw_142)) (hts _ (List.mem_cons_of_mem _ lw_143)) (hts _ (List.mem_cons_of_mem _ lw_111)) (ag_s g49).2.2.2.1 (ag_s g49).2.2.2.2 dX7_init_77 (fun H hP hS => ?_)
  rw [← e_z50] at hP
  refine W.cs (cells' := z50.1 - z.1) (slots' := sl z.1 z50.1) (by rw [e_z50]; exact ag_c g49) (by rw [e_z50]; exact ag_l g49) ?_
  refine lv_dup hx hb dX7_init_80 rfl ?_
  refine lv_iconst (v := 0) hx hb dX7_init_81 (by decide) ?_
  obtain ⟨g51, h⟩ := gd_s h
  obtain ⟨z53, h52, h⟩ := bv2_s h
  obtain ⟨g54, h⟩ := gd_s h
  refine x_CI (Rz := z53) (As := [.int 0]) (rest := [.ref (G.2.2 (z48.1)), .ref (G.2.2 p0)]) ⟨hx, hb, hml, hown, hts⟩ ⟨hK, hAO⟩ hP hS (mC_X2_init hG h52) (cwI 1 hts (gU (fun _ h => List.mem_cons_of_mem _ h) lw_146) rfl rfl rfl (hts _ (List.mem_cons_of_mem _ lw_111)) (hts _ (List.mem_cons_of_mem _ lw_144)) (hts _ (List.mem_cons_of_mem _ lw_145)) rfl (by decide +kernel) (rmc_ok (by decide) (by decide))) rfl hl.1 rfl (Nat.le_of_ble_eq_true rfl) dX7_init_82 (cg_s g51).2 (fun H locs hP hS => ?_)
  refine W.cs (cells' := z53.1 - z.1) (slots' := sl z.1 z53.1) (pg_s g54).1 (pg_s g54).2 ?_
  obtain ⟨g55, h⟩ := gd_s h
  obtain ⟨z56, e_z56, h⟩ := nm_s h
  refine zp_7_11 hx hb hts (inU inW_X7) hown hK hG hP hS (og_s g55).1 (og_s g55).2 (hts _ (List.mem_cons_of_mem _ lw_214)) hin rfl dX7_init_85 (fun H locs hP hS => ?_)
  rw [← e_z56] at hP
  refine W.cs (cells' := z56.1 - z.1) (slots' := sl z.1 z56.1) (by rw [e_z56]; rfl) (by rw [e_z56]; rfl) ?_
  refine lv_aload_n hx hb dX7_init_88 rfl (lv_at hl 0 rfl) ?_
  refine lv_iconst (v := 1) hx hb dX7_init_89 (by decide) ?_
  obtain ⟨g57, h⟩ := gd_s h
  obtain ⟨z58, e_z58, h⟩ := nm_s h
  refine zp_7_12 hx hb hts (inU inW_X7) hown hK hG hP hS (og_s g57).1 (og_s g57).2 (hts _ (List.mem_cons_of_mem _ lw_218)) dX7_init_90 (fun H locs hP hS => ?_)
  rw [← e_z58] at hP
  refine W.cs (cells' := z58.1 - z.1) (slots' := sl z.1 z58.1) (by rw [e_z58]; rfl) (by rw [e_z58]; rfl) ?_
  obtain ⟨g59, h⟩ := gd_s h
  exact x_cvret hx hb hr hlocks ⟨hK, hAO⟩ hP hS h (rg_s g59).1 (rg_s g59).2 dX7_init_93
def fnC_X1_init_50 (n0 : Nat) : Nat → Nat → Int32 → SC → Option SC
  | 0, _, _, _ => none
  | n + 1, p0, v1, z => (if 6 ≤ v1 then gd (rg n0 26 198 z) (some z) else gd (og z p0 1) (bo (z.2.2 p0 1) (fun q4 => gd (og z q4 14) (gd (ix v1 (ln q4)) (nm (cI z q4 (Int32.toNatClampNeg v1) (-1)) (fun z7 => fnC_X1_init_50 n0  n p0 (v1 + 1) z7))))))
set_option maxHeartbeats 4000000 in
set_option maxRecDepth 100000 in
theorem pfC_X1_init_50 {p : Program} {l : Launch} {e : Env} {s : State} {m : MethodId} {args : Array Value} {below : List Frame} {meth : Method} {c : Code} {G : wG} (C : CC p s m args meth c cX1_init 2 (wsU yX1_init cX1_init 2 none) RX1 "<init>" G) {Rz : SC} (n0 : Nat) : ∀ (n : Nat) (p0 : Nat) (v1 : Int32) (z : SC) (H : Heap) (locs : List Loc) (ls : Array Slot), WC G z H → va_S (AB G) s.heap H locs → lv_has ls 2 [(0, .ref (G.2.2 p0)), (1, .int v1)] → fnC_X1_init_50 n0  n p0 v1 z = some Rz → W p l e (rmc 4 26 198) s m args below meth c H locs (z.1 - n0) (sl n0 z.1) (MQ below (va_Qv (fun u => u = Rz) (PreC G) (AB G)) args s 26 198 (AB G)) (F0 m 50 ls []) := by
  obtain ⟨hx, hb, hml, hown, hts, hr, hlocks, hK, hAO, hG, hin⟩ := id C
  intro n
  induction n with
  | zero => intro p0 v1 z H locs ls hP hS hl h; cases h
  | succ n ih =>
    intro p0 v1 z H locs ls hP hS hl h
    rw [fnC_X1_init_50] at h
    refine lv_iload_n hx hb dX1_init_50 rfl (lv_at hl 1 rfl) ?_
    refine lv_bipush (v := 6) hx hb dX1_init_51 (by decide) ?_
    refine lv_icmp_ge (tgt := 69) hx hb dX1_init_53 (by decide) (fun c1 => ?_) (fun c1 => ?_)
    · rw [if_pos c1] at h
      obtain ⟨g2, h⟩ := gd_s h
      exact x_cvret hx hb hr hlocks ⟨hK, hAO⟩ hP hS h (rg_s g2).1 (rg_s g2).2 dX1_init_69
    · rw [if_neg c1] at h
      refine lv_aload_n hx hb dX1_init_56 rfl (lv_at hl 0 rfl) ?_
      obtain ⟨g3, h⟩ := gd_s h
      obtain ⟨q4, h_q4, h⟩ := bo_s h
      refine zg_1_1 hx hb hts (inU inW_X1) hown hK hP (og_s g3).1 (og_s g3).2 (hts _ (List.mem_cons_of_mem _ lw_417)) h_q4 dX1_init_57 ?_
      refine lv_iload_n hx hb dX1_init_60 rfl (lv_at hl 1 rfl) ?_
      refine lv_iconst (v := (-1)) hx hb dX1_init_61 (by decide) ?_
      obtain ⟨g5, h⟩ := gd_s h
      obtain ⟨g6, h⟩ := gd_s h
      obtain ⟨z7, e_z7, h⟩ := nm_s h
      refine zs_14 hx hb hK hG hP hS (og_s g5).1 (og_s g5).2 (ix_in g6) dX1_init_62 (fun H locs hP hS => ?_)
      rw [← e_z7] at hP
      refine W.cs (cells' := z7.1 - n0) (slots' := sl n0 z7.1) (by rw [e_z7]; rfl) (by rw [e_z7]; rfl) ?_
      refine lv_iinc (v := (v1 + 1)) (lv' := [(1, .int (v1 + 1)), (0, .ref (G.2.2 p0))]) hx hb dX1_init_63 hl (k := 1) rfl rfl (by decide) rfl (fun ls hl => ?_)
      refine lv_goto (tgt := 50) hx hb dX1_init_66 (by decide) ?_
      exact ih p0 (v1 + 1) z7 _ _ _ hP hS (lv_sub hl [1, 0] rfl) h
def fnC_X1_init_15 (n0 : Nat) : Nat → Nat → Int32 → SC → Option SC
  | 0, _, _, _ => none
  | n + 1, p0, v1, z => (if 24 ≤ v1 then gd (ag n0 26 198 z 14 6) (gd (ln z.1 == 6) (nm (cN z) (fun z4 => gd (og z4 p0 1) (nm (cR z4 p0 1 z.1) (fun z6 => fnC_X1_init_50 n0  fu p0 0 z6))))) else gd (og z p0 1) (bo (z.2.2 p0 0) (fun q8 => gd (ag n0 26 198 z 9 7) (nm (cN z) (fun z10 => gd (cg n0 26 198 z10 0 0) (bv2 (fnC_X9_init z.1 z10) (fun z13 => gd (pg n0 z10 z13 0 0) (gd (og z13 q8 18) (gd (og z13 z.1 9) (gd (ix v1 (ln q8)) (nm (cR z13 q8 (Int32.toNatClampNeg v1) z.1) (fun z18 => fnC_X1_init_15 n0  n p0 (v1 + 1) z18))))))))))))
set_option maxHeartbeats 4000000 in
set_option maxRecDepth 100000 in
theorem pfC_X1_init_15 {p : Program} {l : Launch} {e : Env} {s : State} {m : MethodId} {args : Array Value} {below : List Frame} {meth : Method} {c : Code} {G : wG} (C : CC p s m args meth c cX1_init 2 (wsU yX1_init cX1_init 2 none) RX1 "<init>" G) {Rz : SC} (n0 : Nat) : ∀ (n : Nat) (p0 : Nat) (v1 : Int32) (z : SC) (H : Heap) (locs : List Loc) (ls : Array Slot), WC G z H → va_S (AB G) s.heap H locs → lv_has ls 2 [(0, .ref (G.2.2 p0)), (1, .int v1)] → fnC_X1_init_15 n0  n p0 v1 z = some Rz → W p l e (rmc 4 26 198) s m args below meth c H locs (z.1 - n0) (sl n0 z.1) (MQ below (va_Qv (fun u => u = Rz) (PreC G) (AB G)) args s 26 198 (AB G)) (F0 m 15 ls []) := by
  obtain ⟨hx, hb, hml, hown, hts, hr, hlocks, hK, hAO, hG, hin⟩ := id C
  intro n
  induction n with
  | zero => intro p0 v1 z H locs ls hP hS hl h; cases h
  | succ n ih =>
    intro p0 v1 z H locs ls hP hS hl h
    rw [fnC_X1_init_15] at h
    refine lv_iload_n hx hb dX1_init_15 rfl (lv_at hl 1 rfl) ?_
    refine lv_bipush (v := 24) hx hb dX1_init_16 (by decide) ?_
    refine lv_icmp_ge (tgt := 40) hx hb dX1_init_18 (by decide) (fun c1 => ?_) (fun c1 => ?_)
    · rw [if_pos c1] at h
      refine lv_aload_n hx hb dX1_init_40 rfl (lv_at hl 0 rfl) ?_
      refine lv_bipush (v := 6) hx hb dX1_init_41 (by decide) ?_
      obtain ⟨g2, h⟩ := gd_s h
      obtain ⟨g3, h⟩ := gd_s h
      obtain ⟨z4, e_z4, h⟩ := nm_s h
      refine za_14 hx hb (hts _ (List.mem_cons_of_mem _ lw_176)) hK hG hP hS (ag_s g2).1 (eq_of_beq g3) (by decide) rfl (Nat.le_of_ble_eq_true rfl) (ag_s g2).2.2.2.1 (ag_s g2).2.2.2.2 dX1_init_43 (fun H hP hS => ?_)
      rw [← e_z4] at hP
      refine W.cs (cells' := z4.1 - n0) (slots' := sl n0 z4.1) (by rw [e_z4]; exact ag_c g2) (by rw [e_z4]; exact ag_l g2) ?_
      obtain ⟨g5, h⟩ := gd_s h
      obtain ⟨z6, e_z6, h⟩ := nm_s h
      refine zp_1_1 hx hb hts (inU inW_X1) hown hK hG hP hS (og_s g5).1 (og_s g5).2 (hts _ (List.mem_cons_of_mem _ lw_417)) hin rfl dX1_init_45 (fun H locs hP hS => ?_)
      rw [← e_z6] at hP
      refine W.cs (cells' := z6.1 - n0) (slots' := sl n0 z6.1) (by rw [e_z6]; rfl) (by rw [e_z6]; rfl) ?_
      refine lv_iconst (v := 0) hx hb dX1_init_48 (by decide) ?_
      refine lv_istore_n (lv' := [(1, .int 0), (0, .ref (G.2.2 p0))]) hx hb dX1_init_49 rfl hl (by decide) rfl (fun ls hl => ?_)
      exact pfC_X1_init_50 C n0  fu p0 0 z6 _ _ _ hP hS (lv_sub hl [1, 0] rfl) h
    · rw [if_neg c1] at h
      refine lv_aload_n hx hb dX1_init_21 rfl (lv_at hl 0 rfl) ?_
      obtain ⟨g7, h⟩ := gd_s h
      obtain ⟨q8, h_q8, h⟩ := bo_s h
      refine zg_1_0 hx hb hts (inU inW_X1) hown hK hP (og_s g7).1 (og_s g7).2 (hts _ (List.mem_cons_of_mem _ lw_412)) h_q8 dX1_init_22 ?_
      refine lv_iload_n hx hb dX1_init_25 rfl (lv_at hl 1 rfl) ?_
      obtain ⟨g9, h⟩ := gd_s h
      obtain ⟨z10, e_z10, h⟩ := nm_s h
      refine zn_9 hx hb hts (inU inW_X9) hown hK hG hP hS (ag_s g9).1 (hts _ (List.mem_cons_of_mem _ lw_368)) (hts _ (List.mem_cons_of_mem _ lw_370)) (hts _ (List.mem_cons_of_mem _ lw_118)) (ag_s g9).2.2.2.1 (ag_s g9).2.2.2.2 dX1_init_26 (fun H hP hS => ?_)
      rw [← e_z10] at hP
      refine W.cs (cells' := z10.1 - n0) (slots' := sl n0 z10.1) (by rw [e_z10]; exact ag_c g9) (by rw [e_z10]; exact ag_l g9) ?_
      refine lv_dup hx hb dX1_init_29 rfl ?_
      obtain ⟨g11, h⟩ := gd_s h
      obtain ⟨z13, h12, h⟩ := bv2_s h
      obtain ⟨g14, h⟩ := gd_s h
      refine x_CI (Rz := z13) (As := []) (rest := [.ref (G.2.2 (z.1)), .int v1, .ref (G.2.2 q8)]) ⟨hx, hb, hml, hown, hts⟩ ⟨hK, hAO⟩ hP hS (mC_X9_init hG h12) (cwI 0 hts (gU (fun _ h => List.mem_cons_of_mem _ h) lw_373) rfl rfl rfl (hts _ (List.mem_cons_of_mem _ lw_118)) (hts _ (List.mem_cons_of_mem _ lw_371)) (hts _ (List.mem_cons_of_mem _ lw_372)) rfl (by decide +kernel) (rmc_ok (by decide) (by decide))) rfl hl.1 rfl (Nat.le_of_ble_eq_true rfl) dX1_init_30 (cg_s g11).2 (fun H locs hP hS => ?_)
      refine W.cs (cells' := z13.1 - n0) (slots' := sl n0 z13.1) (pg_s g14).1 (pg_s g14).2 ?_
      obtain ⟨g15, h⟩ := gd_s h
      obtain ⟨g16, h⟩ := gd_s h
      obtain ⟨g17, h⟩ := gd_s h
      obtain ⟨z18, e_z18, h⟩ := nm_s h
      refine zs_18 hx hb hK hG hP hS (og_s g15).1 (og_s g15).2 (og_s g16).1 (og_s g16).2 (ix_in g17) dX1_init_33 (fun H locs hP hS => ?_)
      rw [← e_z18] at hP
      refine W.cs (cells' := z18.1 - n0) (slots' := sl n0 z18.1) (by rw [e_z18]; rfl) (by rw [e_z18]; rfl) ?_
      refine lv_iinc (v := (v1 + 1)) (lv' := [(1, .int (v1 + 1)), (0, .ref (G.2.2 p0))]) hx hb dX1_init_34 hl (k := 1) rfl rfl (by decide) rfl (fun ls hl => ?_)
      refine lv_goto (tgt := 15) hx hb dX1_init_37 (by decide) ?_
      exact ih p0 (v1 + 1) z18 _ _ _ hP hS (lv_sub hl [1, 0] rfl) h
def fnC_X1_init (p0 : Nat) (z : SC) : Option SC := gd (ag z.1 26 198 z 18 24) (gd (ln z.1 == 24) (nm (cN z) (fun z3 => gd (og z3 p0 1) (nm (cR z3 p0 0 z.1) (fun z5 => fnC_X1_init_15 z.1  fu p0 0 z5)))))
set_option maxHeartbeats 4000000 in
set_option maxRecDepth 100000 in
theorem mC_X1_init {l : Launch} {G : wG} (hG : Gb G) {p0 : Nat} {z Rz : SC} (h : fnC_X1_init p0 z = some Rz) : Met l yX1_init (wsU yX1_init cX1_init 2 none) (rmc 4 26 198) (va_Pc [.ref (G.2.2 p0)] (PreC G z)) (va_Qv (fun u => u = Rz) (PreC G) (AB G)) 26 198 (AB G) := by
  refine Met.ofW (cc := cX1_init) (maxL := 2) (ret := none) (by decide) rfl ?_
  intro p e s m args below meth c s₁ B hml hv
  obtain ⟨rfl, hP, hK, hAO⟩ := hv
  have C : CC p s m ([.ref (G.2.2 p0)] : List Value).toArray meth c cX1_init 2 (wsU yX1_init cX1_init 2 none) RX1 "<init>" G := ⟨B.exec, B.bytes, hml, findClass_of_methodNamed B.named, atoms_spec (ws := (wsU yX1_init cX1_init 2 none)) B.pre, B.returns, B.notSynchronized, hK, hAO, hG, (name_of_methodNamed B.named B.method).1⟩
  obtain ⟨hx, hb, -, hown, hts, hr, hlocks, -, -, -, hin⟩ := id C
  have hS : va_S (AB G) s.heap s.heap [] := va_S.rf
  have hl := lv_entry [.ref (G.2.2 p0)] (n := 2) (Nat.le_of_ble_eq_true rfl)
  rw [lg_entry_eq]
  generalize (lg_sl [.ref (G.2.2 p0)] ++ List.replicate (2 - (lg_sl [.ref (G.2.2 p0)]).length) Slot.unset).toArray = ls at hl ⊢
  have hl : lv_has ls 2 [(0, .ref (G.2.2 p0))] := hl
  refine W.cs (cells' := z.1 - z.1) (slots' := sl z.1 z.1) (Nat.sub_self _).symm (sl_self _).symm ?_
  unfold fnC_X1_init at h
  refine lv_aload_n hx hb dX1_init_0 rfl (lv_at hl 0 rfl) ?_
  refine W.objInit hx hb hown (hts _ (List.mem_cons_of_mem _ lw_367)) (hts _ (List.mem_cons_of_mem _ lw_134)) (hts _ (List.mem_cons_of_mem _ lw_135)) rfl (by rw [hml]; exact hl.1) rfl dX1_init_1 (Nat.le_of_ble_eq_true rfl) (Nat.le_of_ble_eq_true rfl) ?_
  refine W.eq (g2 := F0 m 4 ls []) rfl ?_
  refine lv_aload_n hx hb dX1_init_4 rfl (lv_at hl 0 rfl) ?_
  refine lv_bipush (v := 24) hx hb dX1_init_5 (by decide) ?_
  obtain ⟨g1, h⟩ := gd_s h
  obtain ⟨g2, h⟩ := gd_s h
  obtain ⟨z3, e_z3, h⟩ := nm_s h
  refine za_18 hx hb hown (hts _ (List.mem_cons_of_mem _ lw_368)) (va_AO.use hAO.2) hK hG hP hS (ag_s g1).1 (eq_of_beq g2) (by decide) rfl (Nat.le_of_ble_eq_true rfl) (ag_s g1).2.2.2.1 (ag_s g1).2.2.2.2 dX1_init_7 (fun H hP hS => ?_)
  rw [← e_z3] at hP
  refine W.cs (cells' := z3.1 - z.1) (slots' := sl z.1 z3.1) (by rw [e_z3]; exact ag_c g1) (by rw [e_z3]; exact ag_l g1) ?_
  obtain ⟨g4, h⟩ := gd_s h
  obtain ⟨z5, e_z5, h⟩ := nm_s h
  refine zp_1_0 hx hb hts (inU inW_X1) hown hK hG hP hS (og_s g4).1 (og_s g4).2 (hts _ (List.mem_cons_of_mem _ lw_412)) hin rfl dX1_init_10 (fun H locs hP hS => ?_)
  rw [← e_z5] at hP
  refine W.cs (cells' := z5.1 - z.1) (slots' := sl z.1 z5.1) (by rw [e_z5]; rfl) (by rw [e_z5]; rfl) ?_
  refine lv_iconst (v := 0) hx hb dX1_init_13 (by decide) ?_
  refine lv_istore_n (lv' := [(1, .int 0), (0, .ref (G.2.2 p0))]) hx hb dX1_init_14 rfl hl (by decide) rfl (fun ls hl => ?_)
  exact pfC_X1_init_15 C z.1  fu p0 0 z5 _ _ _ hP hS (lv_sub hl [1, 0] rfl) h
def fnC_X10_init (p0 : Nat) (p1 : Nat) (p2 : Nat) (z : SC) : Option SC := gd (og z p0 10) (nm (cR z p0 0 p1) (fun z2 => gd (og z2 p0 10) (nm (cR z2 p0 1 p2) (fun z4 => gd (ag z.1 2 43 z4 14 7) (gd (ln z4.1 == 7) (nm (cN z4) (fun z7 => gd (og z7 p0 10) (nm (cR z7 p0 2 z4.1) (fun z9 => gd (ag z.1 2 43 z9 14 36) (gd (ln z9.1 == 36) (nm (cN z9) (fun z12 => gd (og z12 p0 10) (nm (cR z12 p0 3 z9.1) (fun z14 => gd (rg z.1 2 43 z14) (some z14)))))))))))))))
set_option maxHeartbeats 4000000 in
set_option maxRecDepth 100000 in
theorem mC_X10_init {l : Launch} {G : wG} (hG : Gb G) {p0 : Nat} {p1 : Nat} {p2 : Nat} {z Rz : SC} (h : fnC_X10_init p0 p1 p2 z = some Rz) : Met l yX10_init (wsU yX10_init cX10_init 3 none) (rmc 2 2 43) (va_Pc [.ref (G.2.2 p0), .ref (G.2.2 p1), .ref (G.2.2 p2)] (PreC G z)) (va_Qv (fun u => u = Rz) (PreC G) (AB G)) 2 43 (AB G) := by
  refine Met.ofW (cc := cX10_init) (maxL := 3) (ret := none) (by decide) rfl ?_
  intro p e s m args below meth c s₁ B hml hv
  obtain ⟨rfl, hP, hK, hAO⟩ := hv
  have C : CC p s m ([.ref (G.2.2 p0), .ref (G.2.2 p1), .ref (G.2.2 p2)] : List Value).toArray meth c cX10_init 3 (wsU yX10_init cX10_init 3 none) RX10 "<init>" G := ⟨B.exec, B.bytes, hml, findClass_of_methodNamed B.named, atoms_spec (ws := (wsU yX10_init cX10_init 3 none)) B.pre, B.returns, B.notSynchronized, hK, hAO, hG, (name_of_methodNamed B.named B.method).1⟩
  obtain ⟨hx, hb, -, hown, hts, hr, hlocks, -, -, -, hin⟩ := id C
  have hS : va_S (AB G) s.heap s.heap [] := va_S.rf
  have hl := lv_entry [.ref (G.2.2 p0), .ref (G.2.2 p1), .ref (G.2.2 p2)] (n := 3) (Nat.le_of_ble_eq_true rfl)
  rw [lg_entry_eq]
  generalize (lg_sl [.ref (G.2.2 p0), .ref (G.2.2 p1), .ref (G.2.2 p2)] ++ List.replicate (3 - (lg_sl [.ref (G.2.2 p0), .ref (G.2.2 p1), .ref (G.2.2 p2)]).length) Slot.unset).toArray = ls at hl ⊢
  have hl : lv_has ls 3 [(0, .ref (G.2.2 p0)), (1, .ref (G.2.2 p1)), (2, .ref (G.2.2 p2))] := hl
  refine W.cs (cells' := z.1 - z.1) (slots' := sl z.1 z.1) (Nat.sub_self _).symm (sl_self _).symm ?_
  unfold fnC_X10_init at h
  refine lv_aload_n hx hb dX10_init_0 rfl (lv_at hl 0 rfl) ?_
  refine W.objInit hx hb hown (hts _ (List.mem_cons_of_mem _ lw_453)) (hts _ (List.mem_cons_of_mem _ lw_134)) (hts _ (List.mem_cons_of_mem _ lw_135)) rfl (by rw [hml]; exact hl.1) rfl dX10_init_1 (Nat.le_of_ble_eq_true rfl) (Nat.le_of_ble_eq_true rfl) ?_
  refine W.eq (g2 := F0 m 4 ls []) rfl ?_
  refine lv_aload_n hx hb dX10_init_4 rfl (lv_at hl 0 rfl) ?_
  refine lv_aload_n hx hb dX10_init_5 rfl (lv_at hl 1 rfl) ?_
  obtain ⟨g1, h⟩ := gd_s h
  obtain ⟨z2, e_z2, h⟩ := nm_s h
  refine zp_10_0 hx hb hts (inU inW_X10) hown hK hG hP hS (og_s g1).1 (og_s g1).2 (hts _ (List.mem_cons_of_mem _ lw_454)) hin rfl dX10_init_6 (fun H locs hP hS => ?_)
  rw [← e_z2] at hP
  refine W.cs (cells' := z2.1 - z.1) (slots' := sl z.1 z2.1) (by rw [e_z2]; rfl) (by rw [e_z2]; rfl) ?_
  refine lv_aload_n hx hb dX10_init_9 rfl (lv_at hl 0 rfl) ?_
  refine lv_aload_n hx hb dX10_init_10 rfl (lv_at hl 2 rfl) ?_
  obtain ⟨g3, h⟩ := gd_s h
  obtain ⟨z4, e_z4, h⟩ := nm_s h
  refine zp_10_1 hx hb hts (inU inW_X10) hown hK hG hP hS (og_s g3).1 (og_s g3).2 (hts _ (List.mem_cons_of_mem _ lw_455)) hin rfl dX10_init_11 (fun H locs hP hS => ?_)
  rw [← e_z4] at hP
  refine W.cs (cells' := z4.1 - z.1) (slots' := sl z.1 z4.1) (by rw [e_z4]; rfl) (by rw [e_z4]; rfl) ?_
  refine lv_aload_n hx hb dX10_init_14 rfl (lv_at hl 0 rfl) ?_
  refine lv_bipush (v := 7) hx hb dX10_init_15 (by decide) ?_
  obtain ⟨g5, h⟩ := gd_s h
  obtain ⟨g6, h⟩ := gd_s h
  obtain ⟨z7, e_z7, h⟩ := nm_s h
  refine za_14 hx hb (hts _ (List.mem_cons_of_mem _ lw_176)) hK hG hP hS (ag_s g5).1 (eq_of_beq g6) (by decide) rfl (Nat.le_of_ble_eq_true rfl) (ag_s g5).2.2.2.1 (ag_s g5).2.2.2.2 dX10_init_17 (fun H hP hS => ?_)
  rw [← e_z7] at hP
  refine W.cs (cells' := z7.1 - z.1) (slots' := sl z.1 z7.1) (by rw [e_z7]; exact ag_c g5) (by rw [e_z7]; exact ag_l g5) ?_
  obtain ⟨g8, h⟩ := gd_s h
  obtain ⟨z9, e_z9, h⟩ := nm_s h
  refine zp_10_2 hx hb hts (inU inW_X10) hown hK hG hP hS (og_s g8).1 (og_s g8).2 (hts _ (List.mem_cons_of_mem _ lw_456)) hin rfl dX10_init_19 (fun H locs hP hS => ?_)
  rw [← e_z9] at hP
  refine W.cs (cells' := z9.1 - z.1) (slots' := sl z.1 z9.1) (by rw [e_z9]; rfl) (by rw [e_z9]; rfl) ?_
  refine lv_aload_n hx hb dX10_init_22 rfl (lv_at hl 0 rfl) ?_
  refine lv_bipush (v := 36) hx hb dX10_init_23 (by decide) ?_
  obtain ⟨g10, h⟩ := gd_s h
  obtain ⟨g11, h⟩ := gd_s h
  obtain ⟨z12, e_z12, h⟩ := nm_s h
  refine za_14 hx hb (hts _ (List.mem_cons_of_mem _ lw_176)) hK hG hP hS (ag_s g10).1 (eq_of_beq g11) (by decide) rfl (Nat.le_of_ble_eq_true rfl) (ag_s g10).2.2.2.1 (ag_s g10).2.2.2.2 dX10_init_25 (fun H hP hS => ?_)
  rw [← e_z12] at hP
  refine W.cs (cells' := z12.1 - z.1) (slots' := sl z.1 z12.1) (by rw [e_z12]; exact ag_c g10) (by rw [e_z12]; exact ag_l g10) ?_
  obtain ⟨g13, h⟩ := gd_s h
  obtain ⟨z14, e_z14, h⟩ := nm_s h
  refine zp_10_3 hx hb hts (inU inW_X10) hown hK hG hP hS (og_s g13).1 (og_s g13).2 (hts _ (List.mem_cons_of_mem _ lw_457)) hin rfl dX10_init_27 (fun H locs hP hS => ?_)
  rw [← e_z14] at hP
  refine W.cs (cells' := z14.1 - z.1) (slots' := sl z.1 z14.1) (by rw [e_z14]; rfl) (by rw [e_z14]; rfl) ?_
  obtain ⟨g15, h⟩ := gd_s h
  exact x_cvret hx hb hr hlocks ⟨hK, hAO⟩ hP hS h (rg_s g15).1 (rg_s g15).2 dX10_init_30
def fnC_X0_init (p0 : Nat) (p1 : Nat) (p2 : Nat) (p3 : Nat) (z : SC) : Option SC := gd (og z p0 0) (nm (cR z p0 0 p1) (fun z2 => gd (og z2 p0 0) (nm (cR z2 p0 1 p2) (fun z4 => gd (og z4 p0 0) (nm (cR z4 p0 2 p3) (fun z6 => gd (ag z.1 6 240 z6 14 40) (gd (ln z6.1 == 40) (nm (cN z6) (fun z9 => gd (og z9 p0 0) (nm (cR z9 p0 3 z6.1) (fun z11 => gd (ag z.1 6 240 z11 14 40) (gd (ln z11.1 == 40) (nm (cN z11) (fun z14 => gd (og z14 p0 0) (nm (cR z14 p0 4 z11.1) (fun z16 => gd (ag z.1 6 240 z16 14 40) (gd (ln z16.1 == 40) (nm (cN z16) (fun z19 => gd (og z19 p0 0) (nm (cR z19 p0 5 z16.1) (fun z21 => gd (ag z.1 6 240 z21 14 40) (gd (ln z21.1 == 40) (nm (cN z21) (fun z24 => gd (og z24 p0 0) (nm (cR z24 p0 6 z21.1) (fun z26 => gd (ag z.1 6 240 z26 14 40) (gd (ln z26.1 == 40) (nm (cN z26) (fun z29 => gd (og z29 p0 0) (nm (cR z29 p0 7 z26.1) (fun z31 => gd (ag z.1 6 240 z31 14 40) (gd (ln z31.1 == 40) (nm (cN z31) (fun z34 => gd (og z34 p0 0) (nm (cR z34 p0 8 z31.1) (fun z36 => gd (rg z.1 6 240 z36) (some z36)))))))))))))))))))))))))))))))))))))
set_option maxHeartbeats 4000000 in
set_option maxRecDepth 100000 in
theorem mC_X0_init {l : Launch} {G : wG} (hG : Gb G) {p0 : Nat} {p1 : Nat} {p2 : Nat} {p3 : Nat} {z Rz : SC} (h : fnC_X0_init p0 p1 p2 p3 z = some Rz) : Met l yX0_init (wsU yX0_init cX0_init 4 none) (rmc 2 6 240) (va_Pc [.ref (G.2.2 p0), .ref (G.2.2 p1), .ref (G.2.2 p2), .ref (G.2.2 p3)] (PreC G z)) (va_Qv (fun u => u = Rz) (PreC G) (AB G)) 6 240 (AB G) := by
  refine Met.ofW (cc := cX0_init) (maxL := 4) (ret := none) (by decide) rfl ?_
  intro p e s m args below meth c s₁ B hml hv
  obtain ⟨rfl, hP, hK, hAO⟩ := hv
  have C : CC p s m ([.ref (G.2.2 p0), .ref (G.2.2 p1), .ref (G.2.2 p2), .ref (G.2.2 p3)] : List Value).toArray meth c cX0_init 4 (wsU yX0_init cX0_init 4 none) RX0 "<init>" G := ⟨B.exec, B.bytes, hml, findClass_of_methodNamed B.named, atoms_spec (ws := (wsU yX0_init cX0_init 4 none)) B.pre, B.returns, B.notSynchronized, hK, hAO, hG, (name_of_methodNamed B.named B.method).1⟩
  obtain ⟨hx, hb, -, hown, hts, hr, hlocks, -, -, -, hin⟩ := id C
  have hS : va_S (AB G) s.heap s.heap [] := va_S.rf
  have hl := lv_entry [.ref (G.2.2 p0), .ref (G.2.2 p1), .ref (G.2.2 p2), .ref (G.2.2 p3)] (n := 4) (Nat.le_of_ble_eq_true rfl)
  rw [lg_entry_eq]
  generalize (lg_sl [.ref (G.2.2 p0), .ref (G.2.2 p1), .ref (G.2.2 p2), .ref (G.2.2 p3)] ++ List.replicate (4 - (lg_sl [.ref (G.2.2 p0), .ref (G.2.2 p1), .ref (G.2.2 p2), .ref (G.2.2 p3)]).length) Slot.unset).toArray = ls at hl ⊢
  have hl : lv_has ls 4 [(0, .ref (G.2.2 p0)), (1, .ref (G.2.2 p1)), (2, .ref (G.2.2 p2)), (3, .ref (G.2.2 p3))] := hl
  refine W.cs (cells' := z.1 - z.1) (slots' := sl z.1 z.1) (Nat.sub_self _).symm (sl_self _).symm ?_
  unfold fnC_X0_init at h
  refine lv_aload_n hx hb dX0_init_0 rfl (lv_at hl 0 rfl) ?_
  refine W.objInit hx hb hown (hts _ (List.mem_cons_of_mem _ lw_484)) (hts _ (List.mem_cons_of_mem _ lw_134)) (hts _ (List.mem_cons_of_mem _ lw_135)) rfl (by rw [hml]; exact hl.1) rfl dX0_init_1 (Nat.le_of_ble_eq_true rfl) (Nat.le_of_ble_eq_true rfl) ?_
  refine W.eq (g2 := F0 m 4 ls []) rfl ?_
  refine lv_aload_n hx hb dX0_init_4 rfl (lv_at hl 0 rfl) ?_
  refine lv_aload_n hx hb dX0_init_5 rfl (lv_at hl 1 rfl) ?_
  obtain ⟨g1, h⟩ := gd_s h
  obtain ⟨z2, e_z2, h⟩ := nm_s h
  refine zp_0_0 hx hb hts (inU inW_X0) hown hK hG hP hS (og_s g1).1 (og_s g1).2 (hts _ (List.mem_cons_of_mem _ lw_485)) hin rfl dX0_init_6 (fun H locs hP hS => ?_)
  rw [← e_z2] at hP
  refine W.cs (cells' := z2.1 - z.1) (slots' := sl z.1 z2.1) (by rw [e_z2]; rfl) (by rw [e_z2]; rfl) ?_
  refine lv_aload_n hx hb dX0_init_9 rfl (lv_at hl 0 rfl) ?_
  refine lv_aload_n hx hb dX0_init_10 rfl (lv_at hl 2 rfl) ?_
  obtain ⟨g3, h⟩ := gd_s h
  obtain ⟨z4, e_z4, h⟩ := nm_s h
  refine zp_0_1 hx hb hts (inU inW_X0) hown hK hG hP hS (og_s g3).1 (og_s g3).2 (hts _ (List.mem_cons_of_mem _ lw_486)) hin rfl dX0_init_11 (fun H locs hP hS => ?_)
  rw [← e_z4] at hP
  refine W.cs (cells' := z4.1 - z.1) (slots' := sl z.1 z4.1) (by rw [e_z4]; rfl) (by rw [e_z4]; rfl) ?_
  refine lv_aload_n hx hb dX0_init_14 rfl (lv_at hl 0 rfl) ?_
  refine lv_aload_n hx hb dX0_init_15 rfl (lv_at hl 3 rfl) ?_
  obtain ⟨g5, h⟩ := gd_s h
  obtain ⟨z6, e_z6, h⟩ := nm_s h
  refine zp_0_2 hx hb hts (inU inW_X0) hown hK hG hP hS (og_s g5).1 (og_s g5).2 (hts _ (List.mem_cons_of_mem _ lw_487)) hin rfl dX0_init_16 (fun H locs hP hS => ?_)
  rw [← e_z6] at hP
  refine W.cs (cells' := z6.1 - z.1) (slots' := sl z.1 z6.1) (by rw [e_z6]; rfl) (by rw [e_z6]; rfl) ?_
  refine lv_aload_n hx hb dX0_init_19 rfl (lv_at hl 0 rfl) ?_
  refine lv_bipush (v := 40) hx hb dX0_init_20 (by decide) ?_
  obtain ⟨g7, h⟩ := gd_s h
  obtain ⟨g8, h⟩ := gd_s h
  obtain ⟨z9, e_z9, h⟩ := nm_s h
  refine za_14 hx hb (hts _ (List.mem_cons_of_mem _ lw_176)) hK hG hP hS (ag_s g7).1 (eq_of_beq g8) (by decide) rfl (Nat.le_of_ble_eq_true rfl) (ag_s g7).2.2.2.1 (ag_s g7).2.2.2.2 dX0_init_22 (fun H hP hS => ?_)
  rw [← e_z9] at hP
  refine W.cs (cells' := z9.1 - z.1) (slots' := sl z.1 z9.1) (by rw [e_z9]; exact ag_c g7) (by rw [e_z9]; exact ag_l g7) ?_
  obtain ⟨g10, h⟩ := gd_s h
  obtain ⟨z11, e_z11, h⟩ := nm_s h
  refine zp_0_3 hx hb hts (inU inW_X0) hown hK hG hP hS (og_s g10).1 (og_s g10).2 (hts _ (List.mem_cons_of_mem _ lw_488)) hin rfl dX0_init_24 (fun H locs hP hS => ?_)
  rw [← e_z11] at hP
  refine W.cs (cells' := z11.1 - z.1) (slots' := sl z.1 z11.1) (by rw [e_z11]; rfl) (by rw [e_z11]; rfl) ?_
  refine lv_aload_n hx hb dX0_init_27 rfl (lv_at hl 0 rfl) ?_
  refine lv_bipush (v := 40) hx hb dX0_init_28 (by decide) ?_
  obtain ⟨g12, h⟩ := gd_s h
  obtain ⟨g13, h⟩ := gd_s h
  obtain ⟨z14, e_z14, h⟩ := nm_s h
  refine za_14 hx hb (hts _ (List.mem_cons_of_mem _ lw_176)) hK hG hP hS (ag_s g12).1 (eq_of_beq g13) (by decide) rfl (Nat.le_of_ble_eq_true rfl) (ag_s g12).2.2.2.1 (ag_s g12).2.2.2.2 dX0_init_30 (fun H hP hS => ?_)
  rw [← e_z14] at hP
  refine W.cs (cells' := z14.1 - z.1) (slots' := sl z.1 z14.1) (by rw [e_z14]; exact ag_c g12) (by rw [e_z14]; exact ag_l g12) ?_
  obtain ⟨g15, h⟩ := gd_s h
  obtain ⟨z16, e_z16, h⟩ := nm_s h
  refine zp_0_4 hx hb hts (inU inW_X0) hown hK hG hP hS (og_s g15).1 (og_s g15).2 (hts _ (List.mem_cons_of_mem _ lw_489)) hin rfl dX0_init_32 (fun H locs hP hS => ?_)
  rw [← e_z16] at hP
  refine W.cs (cells' := z16.1 - z.1) (slots' := sl z.1 z16.1) (by rw [e_z16]; rfl) (by rw [e_z16]; rfl) ?_
  refine lv_aload_n hx hb dX0_init_35 rfl (lv_at hl 0 rfl) ?_
  refine lv_bipush (v := 40) hx hb dX0_init_36 (by decide) ?_
  obtain ⟨g17, h⟩ := gd_s h
  obtain ⟨g18, h⟩ := gd_s h
  obtain ⟨z19, e_z19, h⟩ := nm_s h
  refine za_14 hx hb (hts _ (List.mem_cons_of_mem _ lw_176)) hK hG hP hS (ag_s g17).1 (eq_of_beq g18) (by decide) rfl (Nat.le_of_ble_eq_true rfl) (ag_s g17).2.2.2.1 (ag_s g17).2.2.2.2 dX0_init_38 (fun H hP hS => ?_)
  rw [← e_z19] at hP
  refine W.cs (cells' := z19.1 - z.1) (slots' := sl z.1 z19.1) (by rw [e_z19]; exact ag_c g17) (by rw [e_z19]; exact ag_l g17) ?_
  obtain ⟨g20, h⟩ := gd_s h
  obtain ⟨z21, e_z21, h⟩ := nm_s h
  refine zp_0_5 hx hb hts (inU inW_X0) hown hK hG hP hS (og_s g20).1 (og_s g20).2 (hts _ (List.mem_cons_of_mem _ lw_490)) hin rfl dX0_init_40 (fun H locs hP hS => ?_)
  rw [← e_z21] at hP
  refine W.cs (cells' := z21.1 - z.1) (slots' := sl z.1 z21.1) (by rw [e_z21]; rfl) (by rw [e_z21]; rfl) ?_
  refine lv_aload_n hx hb dX0_init_43 rfl (lv_at hl 0 rfl) ?_
  refine lv_bipush (v := 40) hx hb dX0_init_44 (by decide) ?_
  obtain ⟨g22, h⟩ := gd_s h
  obtain ⟨g23, h⟩ := gd_s h
  obtain ⟨z24, e_z24, h⟩ := nm_s h
  refine za_14 hx hb (hts _ (List.mem_cons_of_mem _ lw_176)) hK hG hP hS (ag_s g22).1 (eq_of_beq g23) (by decide) rfl (Nat.le_of_ble_eq_true rfl) (ag_s g22).2.2.2.1 (ag_s g22).2.2.2.2 dX0_init_46 (fun H hP hS => ?_)
  rw [← e_z24] at hP
  refine W.cs (cells' := z24.1 - z.1) (slots' := sl z.1 z24.1) (by rw [e_z24]; exact ag_c g22) (by rw [e_z24]; exact ag_l g22) ?_
  obtain ⟨g25, h⟩ := gd_s h
  obtain ⟨z26, e_z26, h⟩ := nm_s h
  refine zp_0_6 hx hb hts (inU inW_X0) hown hK hG hP hS (og_s g25).1 (og_s g25).2 (hts _ (List.mem_cons_of_mem _ lw_491)) hin rfl dX0_init_48 (fun H locs hP hS => ?_)
  rw [← e_z26] at hP
  refine W.cs (cells' := z26.1 - z.1) (slots' := sl z.1 z26.1) (by rw [e_z26]; rfl) (by rw [e_z26]; rfl) ?_
  refine lv_aload_n hx hb dX0_init_51 rfl (lv_at hl 0 rfl) ?_
  refine lv_bipush (v := 40) hx hb dX0_init_52 (by decide) ?_
  obtain ⟨g27, h⟩ := gd_s h
  obtain ⟨g28, h⟩ := gd_s h
  obtain ⟨z29, e_z29, h⟩ := nm_s h
  refine za_14 hx hb (hts _ (List.mem_cons_of_mem _ lw_176)) hK hG hP hS (ag_s g27).1 (eq_of_beq g28) (by decide) rfl (Nat.le_of_ble_eq_true rfl) (ag_s g27).2.2.2.1 (ag_s g27).2.2.2.2 dX0_init_54 (fun H hP hS => ?_)
  rw [← e_z29] at hP
  refine W.cs (cells' := z29.1 - z.1) (slots' := sl z.1 z29.1) (by rw [e_z29]; exact ag_c g27) (by rw [e_z29]; exact ag_l g27) ?_
  obtain ⟨g30, h⟩ := gd_s h
  obtain ⟨z31, e_z31, h⟩ := nm_s h
  refine zp_0_7 hx hb hts (inU inW_X0) hown hK hG hP hS (og_s g30).1 (og_s g30).2 (hts _ (List.mem_cons_of_mem _ lw_492)) hin rfl dX0_init_56 (fun H locs hP hS => ?_)
  rw [← e_z31] at hP
  refine W.cs (cells' := z31.1 - z.1) (slots' := sl z.1 z31.1) (by rw [e_z31]; rfl) (by rw [e_z31]; rfl) ?_
  refine lv_aload_n hx hb dX0_init_59 rfl (lv_at hl 0 rfl) ?_
  refine lv_bipush (v := 40) hx hb dX0_init_60 (by decide) ?_
  obtain ⟨g32, h⟩ := gd_s h
  obtain ⟨g33, h⟩ := gd_s h
  obtain ⟨z34, e_z34, h⟩ := nm_s h
  refine za_14 hx hb (hts _ (List.mem_cons_of_mem _ lw_176)) hK hG hP hS (ag_s g32).1 (eq_of_beq g33) (by decide) rfl (Nat.le_of_ble_eq_true rfl) (ag_s g32).2.2.2.1 (ag_s g32).2.2.2.2 dX0_init_62 (fun H hP hS => ?_)
  rw [← e_z34] at hP
  refine W.cs (cells' := z34.1 - z.1) (slots' := sl z.1 z34.1) (by rw [e_z34]; exact ag_c g32) (by rw [e_z34]; exact ag_l g32) ?_
  obtain ⟨g35, h⟩ := gd_s h
  obtain ⟨z36, e_z36, h⟩ := nm_s h
  refine zp_0_8 hx hb hts (inU inW_X0) hown hK hG hP hS (og_s g35).1 (og_s g35).2 (hts _ (List.mem_cons_of_mem _ lw_493)) hin rfl dX0_init_64 (fun H locs hP hS => ?_)
  rw [← e_z36] at hP
  refine W.cs (cells' := z36.1 - z.1) (slots' := sl z.1 z36.1) (by rw [e_z36]; rfl) (by rw [e_z36]; rfl) ?_
  obtain ⟨g37, h⟩ := gd_s h
  exact x_cvret hx hb hr hlocks ⟨hK, hAO⟩ hP hS h (rg_s g37).1 (rg_s g37).2 dX0_init_67
def fnC_X8_init (p0 : Nat) (p1 : Nat) (p2 : Nat) (z : SC) : Option SC := gd (og z p0 8) (nm (cR z p0 0 p1) (fun z2 => gd (og z2 p0 8) (nm (cR z2 p0 1 p2) (fun z4 => gd (ag z.1 2 12 z4 14 6) (gd (ln z4.1 == 6) (nm (cN z4) (fun z7 => gd (og z7 p0 8) (nm (cR z7 p0 2 z4.1) (fun z9 => gd (ag z.1 2 12 z9 14 6) (gd (ln z9.1 == 6) (nm (cN z9) (fun z12 => gd (og z12 p0 8) (nm (cR z12 p0 3 z9.1) (fun z14 => gd (rg z.1 2 12 z14) (some z14)))))))))))))))
set_option maxHeartbeats 4000000 in
set_option maxRecDepth 100000 in
theorem mC_X8_init {l : Launch} {G : wG} (hG : Gb G) {p0 : Nat} {p1 : Nat} {p2 : Nat} {z Rz : SC} (h : fnC_X8_init p0 p1 p2 z = some Rz) : Met l yX8_init (wsU yX8_init cX8_init 3 none) (rmc 2 2 12) (va_Pc [.ref (G.2.2 p0), .ref (G.2.2 p1), .ref (G.2.2 p2)] (PreC G z)) (va_Qv (fun u => u = Rz) (PreC G) (AB G)) 2 12 (AB G) := by
  refine Met.ofW (cc := cX8_init) (maxL := 3) (ret := none) (by decide) rfl ?_
  intro p e s m args below meth c s₁ B hml hv
  obtain ⟨rfl, hP, hK, hAO⟩ := hv
  have C : CC p s m ([.ref (G.2.2 p0), .ref (G.2.2 p1), .ref (G.2.2 p2)] : List Value).toArray meth c cX8_init 3 (wsU yX8_init cX8_init 3 none) RX8 "<init>" G := ⟨B.exec, B.bytes, hml, findClass_of_methodNamed B.named, atoms_spec (ws := (wsU yX8_init cX8_init 3 none)) B.pre, B.returns, B.notSynchronized, hK, hAO, hG, (name_of_methodNamed B.named B.method).1⟩
  obtain ⟨hx, hb, -, hown, hts, hr, hlocks, -, -, -, hin⟩ := id C
  have hS : va_S (AB G) s.heap s.heap [] := va_S.rf
  have hl := lv_entry [.ref (G.2.2 p0), .ref (G.2.2 p1), .ref (G.2.2 p2)] (n := 3) (Nat.le_of_ble_eq_true rfl)
  rw [lg_entry_eq]
  generalize (lg_sl [.ref (G.2.2 p0), .ref (G.2.2 p1), .ref (G.2.2 p2)] ++ List.replicate (3 - (lg_sl [.ref (G.2.2 p0), .ref (G.2.2 p1), .ref (G.2.2 p2)]).length) Slot.unset).toArray = ls at hl ⊢
  have hl : lv_has ls 3 [(0, .ref (G.2.2 p0)), (1, .ref (G.2.2 p1)), (2, .ref (G.2.2 p2))] := hl
  refine W.cs (cells' := z.1 - z.1) (slots' := sl z.1 z.1) (Nat.sub_self _).symm (sl_self _).symm ?_
  unfold fnC_X8_init at h
  refine lv_aload_n hx hb dX8_init_0 rfl (lv_at hl 0 rfl) ?_
  refine W.objInit hx hb hown (hts _ (List.mem_cons_of_mem _ lw_526)) (hts _ (List.mem_cons_of_mem _ lw_134)) (hts _ (List.mem_cons_of_mem _ lw_135)) rfl (by rw [hml]; exact hl.1) rfl dX8_init_1 (Nat.le_of_ble_eq_true rfl) (Nat.le_of_ble_eq_true rfl) ?_
  refine W.eq (g2 := F0 m 4 ls []) rfl ?_
  refine lv_aload_n hx hb dX8_init_4 rfl (lv_at hl 0 rfl) ?_
  refine lv_aload_n hx hb dX8_init_5 rfl (lv_at hl 1 rfl) ?_
  obtain ⟨g1, h⟩ := gd_s h
  obtain ⟨z2, e_z2, h⟩ := nm_s h
  refine zp_8_0 hx hb hts (inU inW_X8) hown hK hG hP hS (og_s g1).1 (og_s g1).2 (hts _ (List.mem_cons_of_mem _ lw_527)) hin rfl dX8_init_6 (fun H locs hP hS => ?_)
  rw [← e_z2] at hP
  refine W.cs (cells' := z2.1 - z.1) (slots' := sl z.1 z2.1) (by rw [e_z2]; rfl) (by rw [e_z2]; rfl) ?_
  refine lv_aload_n hx hb dX8_init_9 rfl (lv_at hl 0 rfl) ?_
  refine lv_aload_n hx hb dX8_init_10 rfl (lv_at hl 2 rfl) ?_
  obtain ⟨g3, h⟩ := gd_s h
  obtain ⟨z4, e_z4, h⟩ := nm_s h
  refine zp_8_1 hx hb hts (inU inW_X8) hown hK hG hP hS (og_s g3).1 (og_s g3).2 (hts _ (List.mem_cons_of_mem _ lw_528)) hin rfl dX8_init_11 (fun H locs hP hS => ?_)
  rw [← e_z4] at hP
  refine W.cs (cells' := z4.1 - z.1) (slots' := sl z.1 z4.1) (by rw [e_z4]; rfl) (by rw [e_z4]; rfl) ?_
  refine lv_aload_n hx hb dX8_init_14 rfl (lv_at hl 0 rfl) ?_
  refine lv_bipush (v := 6) hx hb dX8_init_15 (by decide) ?_
  obtain ⟨g5, h⟩ := gd_s h
  obtain ⟨g6, h⟩ := gd_s h
  obtain ⟨z7, e_z7, h⟩ := nm_s h
  refine za_14 hx hb (hts _ (List.mem_cons_of_mem _ lw_176)) hK hG hP hS (ag_s g5).1 (eq_of_beq g6) (by decide) rfl (Nat.le_of_ble_eq_true rfl) (ag_s g5).2.2.2.1 (ag_s g5).2.2.2.2 dX8_init_17 (fun H hP hS => ?_)
  rw [← e_z7] at hP
  refine W.cs (cells' := z7.1 - z.1) (slots' := sl z.1 z7.1) (by rw [e_z7]; exact ag_c g5) (by rw [e_z7]; exact ag_l g5) ?_
  obtain ⟨g8, h⟩ := gd_s h
  obtain ⟨z9, e_z9, h⟩ := nm_s h
  refine zp_8_2 hx hb hts (inU inW_X8) hown hK hG hP hS (og_s g8).1 (og_s g8).2 (hts _ (List.mem_cons_of_mem _ lw_529)) hin rfl dX8_init_19 (fun H locs hP hS => ?_)
  rw [← e_z9] at hP
  refine W.cs (cells' := z9.1 - z.1) (slots' := sl z.1 z9.1) (by rw [e_z9]; rfl) (by rw [e_z9]; rfl) ?_
  refine lv_aload_n hx hb dX8_init_22 rfl (lv_at hl 0 rfl) ?_
  refine lv_bipush (v := 6) hx hb dX8_init_23 (by decide) ?_
  obtain ⟨g10, h⟩ := gd_s h
  obtain ⟨g11, h⟩ := gd_s h
  obtain ⟨z12, e_z12, h⟩ := nm_s h
  refine za_14 hx hb (hts _ (List.mem_cons_of_mem _ lw_176)) hK hG hP hS (ag_s g10).1 (eq_of_beq g11) (by decide) rfl (Nat.le_of_ble_eq_true rfl) (ag_s g10).2.2.2.1 (ag_s g10).2.2.2.2 dX8_init_25 (fun H hP hS => ?_)
  rw [← e_z12] at hP
  refine W.cs (cells' := z12.1 - z.1) (slots' := sl z.1 z12.1) (by rw [e_z12]; exact ag_c g10) (by rw [e_z12]; exact ag_l g10) ?_
  obtain ⟨g13, h⟩ := gd_s h
  obtain ⟨z14, e_z14, h⟩ := nm_s h
  refine zp_8_3 hx hb hts (inU inW_X8) hown hK hG hP hS (og_s g13).1 (og_s g13).2 (hts _ (List.mem_cons_of_mem _ lw_530)) hin rfl dX8_init_27 (fun H locs hP hS => ?_)
  rw [← e_z14] at hP
  refine W.cs (cells' := z14.1 - z.1) (slots' := sl z.1 z14.1) (by rw [e_z14]; rfl) (by rw [e_z14]; rfl) ?_
  obtain ⟨g15, h⟩ := gd_s h
  exact x_cvret hx hb hr hlocks ⟨hK, hAO⟩ hP hS h (rg_s g15).1 (rg_s g15).2 dX8_init_30
def fnC_X5_init (p0 : Nat) (p1 : Nat) (p2 : Nat) (p3 : Nat) (z : SC) : Option SC := gd (og z p0 5) (nm (cR z p0 0 p1) (fun z2 => gd (og z2 p0 5) (nm (cR z2 p0 1 p2) (fun z4 => gd (og z4 p0 5) (nm (cR z4 p0 2 p3) (fun z6 => gd (ag z.1 4 164 z6 9 7) (nm (cN z6) (fun z8 => gd (cg z.1 4 164 z8 0 0) (bv2 (fnC_X9_init z6.1 z8) (fun z11 => gd (pg z.1 z8 z11 0 0) (gd (og z11 p0 5) (nm (cR z11 p0 3 z6.1) (fun z14 => gd (ag z.1 4 164 z14 9 7) (nm (cN z14) (fun z16 => gd (cg z.1 4 164 z16 0 0) (bv2 (fnC_X9_init z14.1 z16) (fun z19 => gd (pg z.1 z16 z19 0 0) (gd (og z19 p0 5) (nm (cR z19 p0 4 z14.1) (fun z22 => gd (ag z.1 4 164 z22 14 144) (gd (ln z22.1 == 144) (nm (cN z22) (fun z25 => gd (og z25 p0 5) (nm (cR z25 p0 5 z22.1) (fun z27 => gd (ag z.1 4 164 z27 14 6) (gd (ln z27.1 == 6) (nm (cN z27) (fun z30 => gd (og z30 p0 5) (nm (cR z30 p0 6 z27.1) (fun z32 => gd (rg z.1 4 164 z32) (some z32)))))))))))))))))))))))))))))))
set_option maxHeartbeats 4000000 in
set_option maxRecDepth 100000 in
theorem mC_X5_init {l : Launch} {G : wG} (hG : Gb G) {p0 : Nat} {p1 : Nat} {p2 : Nat} {p3 : Nat} {z Rz : SC} (h : fnC_X5_init p0 p1 p2 p3 z = some Rz) : Met l yX5_init (wsU yX5_init cX5_init 4 none) (rmc 4 4 164) (va_Pc [.ref (G.2.2 p0), .ref (G.2.2 p1), .ref (G.2.2 p2), .ref (G.2.2 p3)] (PreC G z)) (va_Qv (fun u => u = Rz) (PreC G) (AB G)) 4 164 (AB G) := by
  refine Met.ofW (cc := cX5_init) (maxL := 4) (ret := none) (by decide) rfl ?_
  intro p e s m args below meth c s₁ B hml hv
  obtain ⟨rfl, hP, hK, hAO⟩ := hv
  have C : CC p s m ([.ref (G.2.2 p0), .ref (G.2.2 p1), .ref (G.2.2 p2), .ref (G.2.2 p3)] : List Value).toArray meth c cX5_init 4 (wsU yX5_init cX5_init 4 none) RX5 "<init>" G := ⟨B.exec, B.bytes, hml, findClass_of_methodNamed B.named, atoms_spec (ws := (wsU yX5_init cX5_init 4 none)) B.pre, B.returns, B.notSynchronized, hK, hAO, hG, (name_of_methodNamed B.named B.method).1⟩
  obtain ⟨hx, hb, -, hown, hts, hr, hlocks, -, -, -, hin⟩ := id C
  have hS : va_S (AB G) s.heap s.heap [] := va_S.rf
  have hl := lv_entry [.ref (G.2.2 p0), .ref (G.2.2 p1), .ref (G.2.2 p2), .ref (G.2.2 p3)] (n := 4) (Nat.le_of_ble_eq_true rfl)
  rw [lg_entry_eq]
  generalize (lg_sl [.ref (G.2.2 p0), .ref (G.2.2 p1), .ref (G.2.2 p2), .ref (G.2.2 p3)] ++ List.replicate (4 - (lg_sl [.ref (G.2.2 p0), .ref (G.2.2 p1), .ref (G.2.2 p2), .ref (G.2.2 p3)]).length) Slot.unset).toArray = ls at hl ⊢
  have hl : lv_has ls 4 [(0, .ref (G.2.2 p0)), (1, .ref (G.2.2 p1)), (2, .ref (G.2.2 p2)), (3, .ref (G.2.2 p3))] := hl
  refine W.cs (cells' := z.1 - z.1) (slots' := sl z.1 z.1) (Nat.sub_self _).symm (sl_self _).symm ?_
  unfold fnC_X5_init at h
  refine lv_aload_n hx hb dX5_init_0 rfl (lv_at hl 0 rfl) ?_
  refine W.objInit hx hb hown (hts _ (List.mem_cons_of_mem _ lw_564)) (hts _ (List.mem_cons_of_mem _ lw_134)) (hts _ (List.mem_cons_of_mem _ lw_135)) rfl (by rw [hml]; exact hl.1) rfl dX5_init_1 (Nat.le_of_ble_eq_true rfl) (Nat.le_of_ble_eq_true rfl) ?_
  refine W.eq (g2 := F0 m 4 ls []) rfl ?_
  refine lv_aload_n hx hb dX5_init_4 rfl (lv_at hl 0 rfl) ?_
  refine lv_aload_n hx hb dX5_init_5 rfl (lv_at hl 1 rfl) ?_
  obtain ⟨g1, h⟩ := gd_s h
  obtain ⟨z2, e_z2, h⟩ := nm_s h
  refine zp_5_0 hx hb hts (inU inW_X5) hown hK hG hP hS (og_s g1).1 (og_s g1).2 (hts _ (List.mem_cons_of_mem _ lw_567)) hin rfl dX5_init_6 (fun H locs hP hS => ?_)
  rw [← e_z2] at hP
  refine W.cs (cells' := z2.1 - z.1) (slots' := sl z.1 z2.1) (by rw [e_z2]; rfl) (by rw [e_z2]; rfl) ?_
  refine lv_aload_n hx hb dX5_init_9 rfl (lv_at hl 0 rfl) ?_
  refine lv_aload_n hx hb dX5_init_10 rfl (lv_at hl 2 rfl) ?_
  obtain ⟨g3, h⟩ := gd_s h
  obtain ⟨z4, e_z4, h⟩ := nm_s h
  refine zp_5_1 hx hb hts (inU inW_X5) hown hK hG hP hS (og_s g3).1 (og_s g3).2 (hts _ (List.mem_cons_of_mem _ lw_568)) hin rfl dX5_init_11 (fun H locs hP hS => ?_)
  rw [← e_z4] at hP
  refine W.cs (cells' := z4.1 - z.1) (slots' := sl z.1 z4.1) (by rw [e_z4]; rfl) (by rw [e_z4]; rfl) ?_
  refine lv_aload_n hx hb dX5_init_14 rfl (lv_at hl 0 rfl) ?_
  refine lv_aload_n hx hb dX5_init_15 rfl (lv_at hl 3 rfl) ?_
  obtain ⟨g5, h⟩ := gd_s h
  obtain ⟨z6, e_z6, h⟩ := nm_s h
  refine zp_5_2 hx hb hts (inU inW_X5) hown hK hG hP hS (og_s g5).1 (og_s g5).2 (hts _ (List.mem_cons_of_mem _ lw_569)) hin rfl dX5_init_16 (fun H locs hP hS => ?_)
  rw [← e_z6] at hP
  refine W.cs (cells' := z6.1 - z.1) (slots' := sl z.1 z6.1) (by rw [e_z6]; rfl) (by rw [e_z6]; rfl) ?_
  refine lv_aload_n hx hb dX5_init_19 rfl (lv_at hl 0 rfl) ?_
  obtain ⟨g7, h⟩ := gd_s h
  obtain ⟨z8, e_z8, h⟩ := nm_s h
  refine zn_9 hx hb hts (inU inW_X9) hown hK hG hP hS (ag_s g7).1 (hts _ (List.mem_cons_of_mem _ lw_565)) (hts _ (List.mem_cons_of_mem _ lw_370)) (hts _ (List.mem_cons_of_mem _ lw_118)) (ag_s g7).2.2.2.1 (ag_s g7).2.2.2.2 dX5_init_20 (fun H hP hS => ?_)
  rw [← e_z8] at hP
  refine W.cs (cells' := z8.1 - z.1) (slots' := sl z.1 z8.1) (by rw [e_z8]; exact ag_c g7) (by rw [e_z8]; exact ag_l g7) ?_
  refine lv_dup hx hb dX5_init_23 rfl ?_
  obtain ⟨g9, h⟩ := gd_s h
  obtain ⟨z11, h10, h⟩ := bv2_s h
  obtain ⟨g12, h⟩ := gd_s h
  refine x_CI (Rz := z11) (As := []) (rest := [.ref (G.2.2 (z6.1)), .ref (G.2.2 p0)]) ⟨hx, hb, hml, hown, hts⟩ ⟨hK, hAO⟩ hP hS (mC_X9_init hG h10) (cwI 0 hts (gU (fun _ h => List.mem_cons_of_mem _ h) lw_373) rfl rfl rfl (hts _ (List.mem_cons_of_mem _ lw_118)) (hts _ (List.mem_cons_of_mem _ lw_566)) (hts _ (List.mem_cons_of_mem _ lw_372)) rfl (by decide +kernel) (rmc_ok (by decide) (by decide))) rfl hl.1 rfl (Nat.le_of_ble_eq_true rfl) dX5_init_24 (cg_s g9).2 (fun H locs hP hS => ?_)
  refine W.cs (cells' := z11.1 - z.1) (slots' := sl z.1 z11.1) (pg_s g12).1 (pg_s g12).2 ?_
  obtain ⟨g13, h⟩ := gd_s h
  obtain ⟨z14, e_z14, h⟩ := nm_s h
  refine zp_5_3 hx hb hts (inU inW_X5) hown hK hG hP hS (og_s g13).1 (og_s g13).2 (hts _ (List.mem_cons_of_mem _ lw_570)) hin rfl dX5_init_27 (fun H locs hP hS => ?_)
  rw [← e_z14] at hP
  refine W.cs (cells' := z14.1 - z.1) (slots' := sl z.1 z14.1) (by rw [e_z14]; rfl) (by rw [e_z14]; rfl) ?_
  refine lv_aload_n hx hb dX5_init_30 rfl (lv_at hl 0 rfl) ?_
  obtain ⟨g15, h⟩ := gd_s h
  obtain ⟨z16, e_z16, h⟩ := nm_s h
  refine zn_9 hx hb hts (inU inW_X9) hown hK hG hP hS (ag_s g15).1 (hts _ (List.mem_cons_of_mem _ lw_565)) (hts _ (List.mem_cons_of_mem _ lw_370)) (hts _ (List.mem_cons_of_mem _ lw_118)) (ag_s g15).2.2.2.1 (ag_s g15).2.2.2.2 dX5_init_31 (fun H hP hS => ?_)
  rw [← e_z16] at hP
  refine W.cs (cells' := z16.1 - z.1) (slots' := sl z.1 z16.1) (by rw [e_z16]; exact ag_c g15) (by rw [e_z16]; exact ag_l g15) ?_
  refine lv_dup hx hb dX5_init_34 rfl ?_
  obtain ⟨g17, h⟩ := gd_s h
  obtain ⟨z19, h18, h⟩ := bv2_s h
  obtain ⟨g20, h⟩ := gd_s h
  refine x_CI (Rz := z19) (As := []) (rest := [.ref (G.2.2 (z14.1)), .ref (G.2.2 p0)]) ⟨hx, hb, hml, hown, hts⟩ ⟨hK, hAO⟩ hP hS (mC_X9_init hG h18) (cwI 0 hts (gU (fun _ h => List.mem_cons_of_mem _ h) lw_373) rfl rfl rfl (hts _ (List.mem_cons_of_mem _ lw_118)) (hts _ (List.mem_cons_of_mem _ lw_566)) (hts _ (List.mem_cons_of_mem _ lw_372)) rfl (by decide +kernel) (rmc_ok (by decide) (by decide))) rfl hl.1 rfl (Nat.le_of_ble_eq_true rfl) dX5_init_35 (cg_s g17).2 (fun H locs hP hS => ?_)
  refine W.cs (cells' := z19.1 - z.1) (slots' := sl z.1 z19.1) (pg_s g20).1 (pg_s g20).2 ?_
  obtain ⟨g21, h⟩ := gd_s h
  obtain ⟨z22, e_z22, h⟩ := nm_s h
  refine zp_5_4 hx hb hts (inU inW_X5) hown hK hG hP hS (og_s g21).1 (og_s g21).2 (hts _ (List.mem_cons_of_mem _ lw_571)) hin rfl dX5_init_38 (fun H locs hP hS => ?_)
  rw [← e_z22] at hP
  refine W.cs (cells' := z22.1 - z.1) (slots' := sl z.1 z22.1) (by rw [e_z22]; rfl) (by rw [e_z22]; rfl) ?_
  refine lv_aload_n hx hb dX5_init_41 rfl (lv_at hl 0 rfl) ?_
  refine lv_sipush (v := 144) hx hb dX5_init_42 (by decide) ?_
  obtain ⟨g23, h⟩ := gd_s h
  obtain ⟨g24, h⟩ := gd_s h
  obtain ⟨z25, e_z25, h⟩ := nm_s h
  refine za_14 hx hb (hts _ (List.mem_cons_of_mem _ lw_176)) hK hG hP hS (ag_s g23).1 (eq_of_beq g24) (by decide) rfl (Nat.le_of_ble_eq_true rfl) (ag_s g23).2.2.2.1 (ag_s g23).2.2.2.2 dX5_init_45 (fun H hP hS => ?_)
  rw [← e_z25] at hP
  refine W.cs (cells' := z25.1 - z.1) (slots' := sl z.1 z25.1) (by rw [e_z25]; exact ag_c g23) (by rw [e_z25]; exact ag_l g23) ?_
  obtain ⟨g26, h⟩ := gd_s h
  obtain ⟨z27, e_z27, h⟩ := nm_s h
  refine zp_5_5 hx hb hts (inU inW_X5) hown hK hG hP hS (og_s g26).1 (og_s g26).2 (hts _ (List.mem_cons_of_mem _ lw_572)) hin rfl dX5_init_47 (fun H locs hP hS => ?_)
  rw [← e_z27] at hP
  refine W.cs (cells' := z27.1 - z.1) (slots' := sl z.1 z27.1) (by rw [e_z27]; rfl) (by rw [e_z27]; rfl) ?_
  refine lv_aload_n hx hb dX5_init_50 rfl (lv_at hl 0 rfl) ?_
  refine lv_bipush (v := 6) hx hb dX5_init_51 (by decide) ?_
  obtain ⟨g28, h⟩ := gd_s h
  obtain ⟨g29, h⟩ := gd_s h
  obtain ⟨z30, e_z30, h⟩ := nm_s h
  refine za_14 hx hb (hts _ (List.mem_cons_of_mem _ lw_176)) hK hG hP hS (ag_s g28).1 (eq_of_beq g29) (by decide) rfl (Nat.le_of_ble_eq_true rfl) (ag_s g28).2.2.2.1 (ag_s g28).2.2.2.2 dX5_init_53 (fun H hP hS => ?_)
  rw [← e_z30] at hP
  refine W.cs (cells' := z30.1 - z.1) (slots' := sl z.1 z30.1) (by rw [e_z30]; exact ag_c g28) (by rw [e_z30]; exact ag_l g28) ?_
  obtain ⟨g31, h⟩ := gd_s h
  obtain ⟨z32, e_z32, h⟩ := nm_s h
  refine zp_5_6 hx hb hts (inU inW_X5) hown hK hG hP hS (og_s g31).1 (og_s g31).2 (hts _ (List.mem_cons_of_mem _ lw_573)) hin rfl dX5_init_55 (fun H locs hP hS => ?_)
  rw [← e_z32] at hP
  refine W.cs (cells' := z32.1 - z.1) (slots' := sl z.1 z32.1) (by rw [e_z32]; rfl) (by rw [e_z32]; rfl) ?_
  obtain ⟨g33, h⟩ := gd_s h
  exact x_cvret hx hb hr hlocks ⟨hK, hAO⟩ hP hS h (rg_s g33).1 (rg_s g33).2 dX5_init_58
def fnC_X3_init (p0 : Nat) (z : SC) : Option SC := gd (rg z.1 0 0 z) (some z)
set_option maxHeartbeats 4000000 in
set_option maxRecDepth 100000 in
theorem mC_X3_init {l : Launch} {G : wG} (hG : Gb G) {p0 : Nat} {z Rz : SC} (h : fnC_X3_init p0 z = some Rz) : Met l yX3_init (wsU yX3_init cX3_init 1 none) (rmc 2 0 0) (va_Pc [.ref (G.2.2 p0)] (PreC G z)) (va_Qv (fun u => u = Rz) (PreC G) (AB G)) 0 0 (AB G) := by
  refine Met.ofW (cc := cX3_init) (maxL := 1) (ret := none) (by decide) rfl ?_
  intro p e s m args below meth c s₁ B hml hv
  obtain ⟨rfl, hP, hK, hAO⟩ := hv
  have C : CC p s m ([.ref (G.2.2 p0)] : List Value).toArray meth c cX3_init 1 (wsU yX3_init cX3_init 1 none) RX3 "<init>" G := ⟨B.exec, B.bytes, hml, findClass_of_methodNamed B.named, atoms_spec (ws := (wsU yX3_init cX3_init 1 none)) B.pre, B.returns, B.notSynchronized, hK, hAO, hG, (name_of_methodNamed B.named B.method).1⟩
  obtain ⟨hx, hb, -, hown, hts, hr, hlocks, -, -, -, hin⟩ := id C
  have hS : va_S (AB G) s.heap s.heap [] := va_S.rf
  have hl := lv_entry [.ref (G.2.2 p0)] (n := 1) (Nat.le_of_ble_eq_true rfl)
  rw [lg_entry_eq]
  generalize (lg_sl [.ref (G.2.2 p0)] ++ List.replicate (1 - (lg_sl [.ref (G.2.2 p0)]).length) Slot.unset).toArray = ls at hl ⊢
  have hl : lv_has ls 1 [(0, .ref (G.2.2 p0))] := hl
  refine W.cs (cells' := z.1 - z.1) (slots' := sl z.1 z.1) (Nat.sub_self _).symm (sl_self _).symm ?_
  unfold fnC_X3_init at h
  refine lv_aload_n hx hb dX3_init_0 rfl (lv_at hl 0 rfl) ?_
  refine W.objInit hx hb hown (hts _ (List.mem_cons_of_mem _ lw_626)) (hts _ (List.mem_cons_of_mem _ lw_134)) (hts _ (List.mem_cons_of_mem _ lw_135)) rfl (by rw [hml]; exact hl.1) rfl dX3_init_1 (Nat.le_of_ble_eq_true rfl) (Nat.le_of_ble_eq_true rfl) ?_
  refine W.eq (g2 := F0 m 4 ls []) rfl ?_
  obtain ⟨g1, h⟩ := gd_s h
  exact x_cvret hx hb hr hlocks ⟨hK, hAO⟩ hP hS h (rg_s g1).1 (rg_s g1).2 dX3_init_4
def fnC_X4_init (p0 : Nat) (p1 : Nat) (p2 : Nat) (z : SC) : Option SC := gd (og z p0 4) (nm (cR z p0 0 p1) (fun z2 => gd (og z2 p0 4) (nm (cR z2 p0 1 p2) (fun z4 => gd (ag z.1 8 198 z4 14 30) (gd (ln z4.1 == 30) (nm (cN z4) (fun z7 => gd (og z7 p0 4) (nm (cR z7 p0 2 z4.1) (fun z9 => gd (ag z.1 8 198 z9 14 30) (gd (ln z9.1 == 30) (nm (cN z9) (fun z12 => gd (og z12 p0 4) (nm (cR z12 p0 3 z9.1) (fun z14 => gd (ag z.1 8 198 z14 16 30) (gd (ln z14.1 == 30) (nm (cN z14) (fun z17 => gd (og z17 p0 4) (nm (cR z17 p0 4 z14.1) (fun z19 => gd (ag z.1 8 198 z19 14 30) (gd (ln z19.1 == 30) (nm (cN z19) (fun z22 => gd (og z22 p0 4) (nm (cR z22 p0 5 z19.1) (fun z24 => gd (ag z.1 8 198 z24 14 30) (gd (ln z24.1 == 30) (nm (cN z24) (fun z27 => gd (og z27 p0 4) (nm (cR z27 p0 6 z24.1) (fun z29 => gd (ag z.1 8 198 z29 14 16) (gd (ln z29.1 == 16) (nm (cN z29) (fun z32 => gd (og z32 p0 4) (nm (cR z32 p0 7 z29.1) (fun z34 => gd (ag z.1 8 198 z34 14 16) (gd (ln z34.1 == 16) (nm (cN z34) (fun z37 => gd (og z37 p0 4) (nm (cR z37 p0 8 z34.1) (fun z39 => gd (ag z.1 8 198 z39 15 16) (gd (ln z39.1 == 16) (nm (cN z39) (fun z42 => gd (og z42 p0 4) (nm (cR z42 p0 9 z39.1) (fun z44 => gd (rg z.1 8 198 z44) (some z44)))))))))))))))))))))))))))))))))))))))))))))
set_option maxHeartbeats 4000000 in
set_option maxRecDepth 100000 in
theorem mC_X4_init {l : Launch} {G : wG} (hG : Gb G) {p0 : Nat} {p1 : Nat} {p2 : Nat} {z Rz : SC} (h : fnC_X4_init p0 p1 p2 z = some Rz) : Met l yX4_init (wsU yX4_init cX4_init 3 none) (rmc 2 8 198) (va_Pc [.ref (G.2.2 p0), .ref (G.2.2 p1), .ref (G.2.2 p2)] (PreC G z)) (va_Qv (fun u => u = Rz) (PreC G) (AB G)) 8 198 (AB G) := by
  refine Met.ofW (cc := cX4_init) (maxL := 3) (ret := none) (by decide) rfl ?_
  intro p e s m args below meth c s₁ B hml hv
  obtain ⟨rfl, hP, hK, hAO⟩ := hv
  have C : CC p s m ([.ref (G.2.2 p0), .ref (G.2.2 p1), .ref (G.2.2 p2)] : List Value).toArray meth c cX4_init 3 (wsU yX4_init cX4_init 3 none) RX4 "<init>" G := ⟨B.exec, B.bytes, hml, findClass_of_methodNamed B.named, atoms_spec (ws := (wsU yX4_init cX4_init 3 none)) B.pre, B.returns, B.notSynchronized, hK, hAO, hG, (name_of_methodNamed B.named B.method).1⟩
  obtain ⟨hx, hb, -, hown, hts, hr, hlocks, -, -, -, hin⟩ := id C
  have hS : va_S (AB G) s.heap s.heap [] := va_S.rf
  have hl := lv_entry [.ref (G.2.2 p0), .ref (G.2.2 p1), .ref (G.2.2 p2)] (n := 3) (Nat.le_of_ble_eq_true rfl)
  rw [lg_entry_eq]
  generalize (lg_sl [.ref (G.2.2 p0), .ref (G.2.2 p1), .ref (G.2.2 p2)] ++ List.replicate (3 - (lg_sl [.ref (G.2.2 p0), .ref (G.2.2 p1), .ref (G.2.2 p2)]).length) Slot.unset).toArray = ls at hl ⊢
  have hl : lv_has ls 3 [(0, .ref (G.2.2 p0)), (1, .ref (G.2.2 p1)), (2, .ref (G.2.2 p2))] := hl
  refine W.cs (cells' := z.1 - z.1) (slots' := sl z.1 z.1) (Nat.sub_self _).symm (sl_self _).symm ?_
  unfold fnC_X4_init at h
  refine lv_aload_n hx hb dX4_init_0 rfl (lv_at hl 0 rfl) ?_
  refine W.objInit hx hb hown (hts _ (List.mem_cons_of_mem _ lw_649)) (hts _ (List.mem_cons_of_mem _ lw_134)) (hts _ (List.mem_cons_of_mem _ lw_135)) rfl (by rw [hml]; exact hl.1) rfl dX4_init_1 (Nat.le_of_ble_eq_true rfl) (Nat.le_of_ble_eq_true rfl) ?_
  refine W.eq (g2 := F0 m 4 ls []) rfl ?_
  refine lv_aload_n hx hb dX4_init_4 rfl (lv_at hl 0 rfl) ?_
  refine lv_aload_n hx hb dX4_init_5 rfl (lv_at hl 1 rfl) ?_
  obtain ⟨g1, h⟩ := gd_s h
  obtain ⟨z2, e_z2, h⟩ := nm_s h
  refine zp_4_0 hx hb hts (inU inW_X4) hown hK hG hP hS (og_s g1).1 (og_s g1).2 (hts _ (List.mem_cons_of_mem _ lw_650)) hin rfl dX4_init_6 (fun H locs hP hS => ?_)
  rw [← e_z2] at hP
  refine W.cs (cells' := z2.1 - z.1) (slots' := sl z.1 z2.1) (by rw [e_z2]; rfl) (by rw [e_z2]; rfl) ?_
  refine lv_aload_n hx hb dX4_init_9 rfl (lv_at hl 0 rfl) ?_
  refine lv_aload_n hx hb dX4_init_10 rfl (lv_at hl 2 rfl) ?_
  obtain ⟨g3, h⟩ := gd_s h
  obtain ⟨z4, e_z4, h⟩ := nm_s h
  refine zp_4_1 hx hb hts (inU inW_X4) hown hK hG hP hS (og_s g3).1 (og_s g3).2 (hts _ (List.mem_cons_of_mem _ lw_651)) hin rfl dX4_init_11 (fun H locs hP hS => ?_)
  rw [← e_z4] at hP
  refine W.cs (cells' := z4.1 - z.1) (slots' := sl z.1 z4.1) (by rw [e_z4]; rfl) (by rw [e_z4]; rfl) ?_
  refine lv_aload_n hx hb dX4_init_14 rfl (lv_at hl 0 rfl) ?_
  refine lv_bipush (v := 30) hx hb dX4_init_15 (by decide) ?_
  obtain ⟨g5, h⟩ := gd_s h
  obtain ⟨g6, h⟩ := gd_s h
  obtain ⟨z7, e_z7, h⟩ := nm_s h
  refine za_14 hx hb (hts _ (List.mem_cons_of_mem _ lw_176)) hK hG hP hS (ag_s g5).1 (eq_of_beq g6) (by decide) rfl (Nat.le_of_ble_eq_true rfl) (ag_s g5).2.2.2.1 (ag_s g5).2.2.2.2 dX4_init_17 (fun H hP hS => ?_)
  rw [← e_z7] at hP
  refine W.cs (cells' := z7.1 - z.1) (slots' := sl z.1 z7.1) (by rw [e_z7]; exact ag_c g5) (by rw [e_z7]; exact ag_l g5) ?_
  obtain ⟨g8, h⟩ := gd_s h
  obtain ⟨z9, e_z9, h⟩ := nm_s h
  refine zp_4_2 hx hb hts (inU inW_X4) hown hK hG hP hS (og_s g8).1 (og_s g8).2 (hts _ (List.mem_cons_of_mem _ lw_652)) hin rfl dX4_init_19 (fun H locs hP hS => ?_)
  rw [← e_z9] at hP
  refine W.cs (cells' := z9.1 - z.1) (slots' := sl z.1 z9.1) (by rw [e_z9]; rfl) (by rw [e_z9]; rfl) ?_
  refine lv_aload_n hx hb dX4_init_22 rfl (lv_at hl 0 rfl) ?_
  refine lv_bipush (v := 30) hx hb dX4_init_23 (by decide) ?_
  obtain ⟨g10, h⟩ := gd_s h
  obtain ⟨g11, h⟩ := gd_s h
  obtain ⟨z12, e_z12, h⟩ := nm_s h
  refine za_14 hx hb (hts _ (List.mem_cons_of_mem _ lw_176)) hK hG hP hS (ag_s g10).1 (eq_of_beq g11) (by decide) rfl (Nat.le_of_ble_eq_true rfl) (ag_s g10).2.2.2.1 (ag_s g10).2.2.2.2 dX4_init_25 (fun H hP hS => ?_)
  rw [← e_z12] at hP
  refine W.cs (cells' := z12.1 - z.1) (slots' := sl z.1 z12.1) (by rw [e_z12]; exact ag_c g10) (by rw [e_z12]; exact ag_l g10) ?_
  obtain ⟨g13, h⟩ := gd_s h
  obtain ⟨z14, e_z14, h⟩ := nm_s h
  refine zp_4_3 hx hb hts (inU inW_X4) hown hK hG hP hS (og_s g13).1 (og_s g13).2 (hts _ (List.mem_cons_of_mem _ lw_653)) hin rfl dX4_init_27 (fun H locs hP hS => ?_)
  rw [← e_z14] at hP
  refine W.cs (cells' := z14.1 - z.1) (slots' := sl z.1 z14.1) (by rw [e_z14]; rfl) (by rw [e_z14]; rfl) ?_
  refine lv_aload_n hx hb dX4_init_30 rfl (lv_at hl 0 rfl) ?_
  refine lv_bipush (v := 30) hx hb dX4_init_31 (by decide) ?_
  obtain ⟨g15, h⟩ := gd_s h
  obtain ⟨g16, h⟩ := gd_s h
  obtain ⟨z17, e_z17, h⟩ := nm_s h
  refine za_16 hx hb (hts _ (List.mem_cons_of_mem _ lw_702)) hK hG hP hS (ag_s g15).1 (eq_of_beq g16) (by decide) rfl (Nat.le_of_ble_eq_true rfl) (ag_s g15).2.2.2.1 (ag_s g15).2.2.2.2 dX4_init_33 (fun H hP hS => ?_)
  rw [← e_z17] at hP
  refine W.cs (cells' := z17.1 - z.1) (slots' := sl z.1 z17.1) (by rw [e_z17]; exact ag_c g15) (by rw [e_z17]; exact ag_l g15) ?_
  obtain ⟨g18, h⟩ := gd_s h
  obtain ⟨z19, e_z19, h⟩ := nm_s h
  refine zp_4_4 hx hb hts (inU inW_X4) hown hK hG hP hS (og_s g18).1 (og_s g18).2 (hts _ (List.mem_cons_of_mem _ lw_654)) hin rfl dX4_init_35 (fun H locs hP hS => ?_)
  rw [← e_z19] at hP
  refine W.cs (cells' := z19.1 - z.1) (slots' := sl z.1 z19.1) (by rw [e_z19]; rfl) (by rw [e_z19]; rfl) ?_
  refine lv_aload_n hx hb dX4_init_38 rfl (lv_at hl 0 rfl) ?_
  refine lv_bipush (v := 30) hx hb dX4_init_39 (by decide) ?_
  obtain ⟨g20, h⟩ := gd_s h
  obtain ⟨g21, h⟩ := gd_s h
  obtain ⟨z22, e_z22, h⟩ := nm_s h
  refine za_14 hx hb (hts _ (List.mem_cons_of_mem _ lw_176)) hK hG hP hS (ag_s g20).1 (eq_of_beq g21) (by decide) rfl (Nat.le_of_ble_eq_true rfl) (ag_s g20).2.2.2.1 (ag_s g20).2.2.2.2 dX4_init_41 (fun H hP hS => ?_)
  rw [← e_z22] at hP
  refine W.cs (cells' := z22.1 - z.1) (slots' := sl z.1 z22.1) (by rw [e_z22]; exact ag_c g20) (by rw [e_z22]; exact ag_l g20) ?_
  obtain ⟨g23, h⟩ := gd_s h
  obtain ⟨z24, e_z24, h⟩ := nm_s h
  refine zp_4_5 hx hb hts (inU inW_X4) hown hK hG hP hS (og_s g23).1 (og_s g23).2 (hts _ (List.mem_cons_of_mem _ lw_655)) hin rfl dX4_init_43 (fun H locs hP hS => ?_)
  rw [← e_z24] at hP
  refine W.cs (cells' := z24.1 - z.1) (slots' := sl z.1 z24.1) (by rw [e_z24]; rfl) (by rw [e_z24]; rfl) ?_
  refine lv_aload_n hx hb dX4_init_46 rfl (lv_at hl 0 rfl) ?_
  refine lv_bipush (v := 30) hx hb dX4_init_47 (by decide) ?_
  obtain ⟨g25, h⟩ := gd_s h
  obtain ⟨g26, h⟩ := gd_s h
  obtain ⟨z27, e_z27, h⟩ := nm_s h
  refine za_14 hx hb (hts _ (List.mem_cons_of_mem _ lw_176)) hK hG hP hS (ag_s g25).1 (eq_of_beq g26) (by decide) rfl (Nat.le_of_ble_eq_true rfl) (ag_s g25).2.2.2.1 (ag_s g25).2.2.2.2 dX4_init_49 (fun H hP hS => ?_)
  rw [← e_z27] at hP
  refine W.cs (cells' := z27.1 - z.1) (slots' := sl z.1 z27.1) (by rw [e_z27]; exact ag_c g25) (by rw [e_z27]; exact ag_l g25) ?_
  obtain ⟨g28, h⟩ := gd_s h
  obtain ⟨z29, e_z29, h⟩ := nm_s h
  refine zp_4_6 hx hb hts (inU inW_X4) hown hK hG hP hS (og_s g28).1 (og_s g28).2 (hts _ (List.mem_cons_of_mem _ lw_656)) hin rfl dX4_init_51 (fun H locs hP hS => ?_)
  rw [← e_z29] at hP
  refine W.cs (cells' := z29.1 - z.1) (slots' := sl z.1 z29.1) (by rw [e_z29]; rfl) (by rw [e_z29]; rfl) ?_
  refine lv_aload_n hx hb dX4_init_54 rfl (lv_at hl 0 rfl) ?_
  refine lv_bipush (v := 16) hx hb dX4_init_55 (by decide) ?_
  obtain ⟨g30, h⟩ := gd_s h
  obtain ⟨g31, h⟩ := gd_s h
  obtain ⟨z32, e_z32, h⟩ := nm_s h
  refine za_14 hx hb (hts _ (List.mem_cons_of_mem _ lw_176)) hK hG hP hS (ag_s g30).1 (eq_of_beq g31) (by decide) rfl (Nat.le_of_ble_eq_true rfl) (ag_s g30).2.2.2.1 (ag_s g30).2.2.2.2 dX4_init_57 (fun H hP hS => ?_)
  rw [← e_z32] at hP
  refine W.cs (cells' := z32.1 - z.1) (slots' := sl z.1 z32.1) (by rw [e_z32]; exact ag_c g30) (by rw [e_z32]; exact ag_l g30) ?_
  obtain ⟨g33, h⟩ := gd_s h
  obtain ⟨z34, e_z34, h⟩ := nm_s h
  refine zp_4_7 hx hb hts (inU inW_X4) hown hK hG hP hS (og_s g33).1 (og_s g33).2 (hts _ (List.mem_cons_of_mem _ lw_657)) hin rfl dX4_init_59 (fun H locs hP hS => ?_)
  rw [← e_z34] at hP
  refine W.cs (cells' := z34.1 - z.1) (slots' := sl z.1 z34.1) (by rw [e_z34]; rfl) (by rw [e_z34]; rfl) ?_
  refine lv_aload_n hx hb dX4_init_62 rfl (lv_at hl 0 rfl) ?_
  refine lv_bipush (v := 16) hx hb dX4_init_63 (by decide) ?_
  obtain ⟨g35, h⟩ := gd_s h
  obtain ⟨g36, h⟩ := gd_s h
  obtain ⟨z37, e_z37, h⟩ := nm_s h
  refine za_14 hx hb (hts _ (List.mem_cons_of_mem _ lw_176)) hK hG hP hS (ag_s g35).1 (eq_of_beq g36) (by decide) rfl (Nat.le_of_ble_eq_true rfl) (ag_s g35).2.2.2.1 (ag_s g35).2.2.2.2 dX4_init_65 (fun H hP hS => ?_)
  rw [← e_z37] at hP
  refine W.cs (cells' := z37.1 - z.1) (slots' := sl z.1 z37.1) (by rw [e_z37]; exact ag_c g35) (by rw [e_z37]; exact ag_l g35) ?_
  obtain ⟨g38, h⟩ := gd_s h
  obtain ⟨z39, e_z39, h⟩ := nm_s h
  refine zp_4_8 hx hb hts (inU inW_X4) hown hK hG hP hS (og_s g38).1 (og_s g38).2 (hts _ (List.mem_cons_of_mem _ lw_659)) hin rfl dX4_init_67 (fun H locs hP hS => ?_)
  rw [← e_z39] at hP
  refine W.cs (cells' := z39.1 - z.1) (slots' := sl z.1 z39.1) (by rw [e_z39]; rfl) (by rw [e_z39]; rfl) ?_
  refine lv_aload_n hx hb dX4_init_70 rfl (lv_at hl 0 rfl) ?_
  refine lv_bipush (v := 16) hx hb dX4_init_71 (by decide) ?_
  obtain ⟨g40, h⟩ := gd_s h
  obtain ⟨g41, h⟩ := gd_s h
  obtain ⟨z42, e_z42, h⟩ := nm_s h
  refine za_15 hx hb (hts _ (List.mem_cons_of_mem _ lw_175)) hK hG hP hS (ag_s g40).1 (eq_of_beq g41) (by decide) rfl (Nat.le_of_ble_eq_true rfl) (ag_s g40).2.2.2.1 (ag_s g40).2.2.2.2 dX4_init_73 (fun H hP hS => ?_)
  rw [← e_z42] at hP
  refine W.cs (cells' := z42.1 - z.1) (slots' := sl z.1 z42.1) (by rw [e_z42]; exact ag_c g40) (by rw [e_z42]; exact ag_l g40) ?_
  obtain ⟨g43, h⟩ := gd_s h
  obtain ⟨z44, e_z44, h⟩ := nm_s h
  refine zp_4_9 hx hb hts (inU inW_X4) hown hK hG hP hS (og_s g43).1 (og_s g43).2 (hts _ (List.mem_cons_of_mem _ lw_661)) hin rfl dX4_init_75 (fun H locs hP hS => ?_)
  rw [← e_z44] at hP
  refine W.cs (cells' := z44.1 - z.1) (slots' := sl z.1 z44.1) (by rw [e_z44]; rfl) (by rw [e_z44]; rfl) ?_
  obtain ⟨g45, h⟩ := gd_s h
  exact x_cvret hx hb hr hlocks ⟨hK, hAO⟩ hP hS h (rg_s g45).1 (rg_s g45).2 dX4_init_78
def fnC_X12_init (p0 : Nat) (z : SC) : Option SC := gd (ag z.1 40 12500 z 14 1600) (gd (ln z.1 == 1600) (nm (cN z) (fun z3 => gd (og z3 p0 12) (nm (cR z3 p0 0 z.1) (fun z5 => gd (og z5 p0 12) (nm (cI z5 p0 3 (-1)) (fun z7 => gd (ag z.1 40 12500 z7 15 9) (gd (ln z7.1 == 9) (nm (cN z7) (fun z10 => gd (og z10 p0 12) (nm (cR z10 p0 10 z7.1) (fun z12 => gd (ag z.1 40 12500 z12 14 640) (gd (ln z12.1 == 640) (nm (cN z12) (fun z15 => gd (og z15 p0 12) (nm (cR z15 p0 11 z12.1) (fun z17 => gd (ag z.1 40 12500 z17 14 640) (gd (ln z17.1 == 640) (nm (cN z17) (fun z20 => gd (og z20 p0 12) (nm (cR z20 p0 12 z17.1) (fun z22 => gd (ag z.1 40 12500 z22 14 2) (gd (ln z22.1 == 2) (nm (cN z22) (fun z25 => gd (og z25 p0 12) (nm (cR z25 p0 13 z22.1) (fun z27 => gd (ag z.1 40 12500 z27 14 640) (gd (ln z27.1 == 640) (nm (cN z27) (fun z30 => gd (og z30 p0 12) (nm (cR z30 p0 14 z27.1) (fun z32 => gd (ag z.1 40 12500 z32 14 640) (gd (ln z32.1 == 640) (nm (cN z32) (fun z35 => gd (og z35 p0 12) (nm (cR z35 p0 15 z32.1) (fun z37 => gd (ag z.1 40 12500 z37 14 2) (gd (ln z37.1 == 2) (nm (cN z37) (fun z40 => gd (og z40 p0 12) (nm (cR z40 p0 16 z37.1) (fun z42 => gd (ag z.1 40 12500 z42 14 160) (gd (ln z42.1 == 160) (nm (cN z42) (fun z45 => gd (og z45 p0 12) (nm (cR z45 p0 17 z42.1) (fun z47 => gd (ag z.1 40 12500 z47 14 64) (gd (ln z47.1 == 64) (nm (cN z47) (fun z50 => gd (og z50 p0 12) (nm (cR z50 p0 18 z47.1) (fun z52 => gd (ag z.1 40 12500 z52 16 2) (gd (ln z52.1 == 2) (nm (cN z52) (fun z55 => gd (og z55 p0 12) (nm (cR z55 p0 19 z52.1) (fun z57 => gd (ag z.1 40 12500 z57 14 6) (gd (ln z57.1 == 6) (nm (cN z57) (fun z60 => gd (og z60 p0 12) (nm (cR z60 p0 26 z57.1) (fun z62 => gd (ag z.1 40 12500 z62 14 3) (gd (ln z62.1 == 3) (nm (cN z62) (fun z65 => gd (og z65 p0 12) (nm (cR z65 p0 27 z62.1) (fun z67 => gd (ag z.1 40 12500 z67 14 3) (gd (ln z67.1 == 3) (nm (cN z67) (fun z70 => gd (og z70 p0 12) (nm (cR z70 p0 28 z67.1) (fun z72 => gd (ag z.1 40 12500 z72 14 3) (gd (ln z72.1 == 3) (nm (cN z72) (fun z75 => gd (og z75 p0 12) (nm (cR z75 p0 29 z72.1) (fun z77 => gd (ag z.1 40 12500 z77 14 3) (gd (ln z77.1 == 3) (nm (cN z77) (fun z80 => gd (og z80 p0 12) (nm (cR z80 p0 30 z77.1) (fun z82 => gd (ag z.1 40 12500 z82 14 3) (gd (ln z82.1 == 3) (nm (cN z82) (fun z85 => gd (og z85 p0 12) (nm (cR z85 p0 31 z82.1) (fun z87 => gd (ag z.1 40 12500 z87 14 3) (gd (ln z87.1 == 3) (nm (cN z87) (fun z90 => gd (og z90 p0 12) (nm (cR z90 p0 32 z87.1) (fun z92 => gd (ag z.1 40 12500 z92 14 6) (gd (ln z92.1 == 6) (nm (cN z92) (fun z95 => gd (og z95 p0 12) (nm (cR z95 p0 33 z92.1) (fun z97 => gd (ag z.1 40 12500 z97 14 6) (gd (ln z97.1 == 6) (nm (cN z97) (fun z100 => gd (og z100 p0 12) (nm (cR z100 p0 34 z97.1) (fun z102 => gd (ag z.1 40 12500 z102 14 6) (gd (ln z102.1 == 6) (nm (cN z102) (fun z105 => gd (og z105 p0 12) (nm (cR z105 p0 35 z102.1) (fun z107 => gd (ag z.1 40 12500 z107 14 6) (gd (ln z107.1 == 6) (nm (cN z107) (fun z110 => gd (og z110 p0 12) (nm (cR z110 p0 36 z107.1) (fun z112 => gd (ag z.1 40 12500 z112 14 6) (gd (ln z112.1 == 6) (nm (cN z112) (fun z115 => gd (og z115 p0 12) (nm (cR z115 p0 37 z112.1) (fun z117 => gd (ag z.1 40 12500 z117 14 6) (gd (ln z117.1 == 6) (nm (cN z117) (fun z120 => gd (og z120 p0 12) (nm (cR z120 p0 38 z117.1) (fun z122 => gd (og z122 p0 12) (nm (cI z122 p0 45 1) (fun z124 => gd (ag z.1 40 12500 z124 14 171) (gd (ln z124.1 == 171) (nm (cN z124) (fun z127 => gd (og z127 p0 12) (nm (cR z127 p0 48 z124.1) (fun z129 => gd (ag z.1 40 12500 z129 14 171) (gd (ln z129.1 == 171) (nm (cN z129) (fun z132 => gd (og z132 p0 12) (nm (cR z132 p0 49 z129.1) (fun z134 => gd (ag z.1 40 12500 z134 14 6840) (gd (ln z134.1 == 6840) (nm (cN z134) (fun z137 => gd (og z137 p0 12) (nm (cR z137 p0 50 z134.1) (fun z139 => gd (ag z.1 40 12500 z139 14 6) (gd (ln z139.1 == 6) (nm (cN z139) (fun z142 => gd (og z142 p0 12) (nm (cR z142 p0 53 z139.1) (fun z144 => gd (ag z.1 40 12500 z144 14 25) (gd (ln z144.1 == 25) (nm (cN z144) (fun z147 => gd (og z147 p0 12) (nm (cR z147 p0 54 z144.1) (fun z149 => gd (ag z.1 40 12500 z149 14 144) (gd (ln z149.1 == 144) (nm (cN z149) (fun z152 => gd (og z152 p0 12) (nm (cR z152 p0 61 z149.1) (fun z154 => gd (ag z.1 40 12500 z154 14 6) (gd (ln z154.1 == 6) (nm (cN z154) (fun z157 => gd (og z157 p0 12) (nm (cR z157 p0 62 z154.1) (fun z159 => gd (ag z.1 40 12500 z159 14 6) (gd (ln z159.1 == 6) (nm (cN z159) (fun z162 => gd (og z162 p0 12) (nm (cR z162 p0 63 z159.1) (fun z164 => gd (ag z.1 40 12500 z164 14 6) (gd (ln z164.1 == 6) (nm (cN z164) (fun z167 => gd (og z167 p0 12) (nm (cR z167 p0 64 z164.1) (fun z169 => gd (ag z.1 40 12500 z169 14 30) (gd (ln z169.1 == 30) (nm (cN z169) (fun z172 => gd (og z172 p0 12) (nm (cR z172 p0 66 z169.1) (fun z174 => gd (ag z.1 40 12500 z174 14 30) (gd (ln z174.1 == 30) (nm (cN z174) (fun z177 => gd (og z177 p0 12) (nm (cR z177 p0 67 z174.1) (fun z179 => gd (ag z.1 40 12500 z179 14 30) (gd (ln z179.1 == 30) (nm (cN z179) (fun z182 => gd (og z182 p0 12) (nm (cR z182 p0 68 z179.1) (fun z184 => gd (ag z.1 40 12500 z184 14 30) (gd (ln z184.1 == 30) (nm (cN z184) (fun z187 => gd (og z187 p0 12) (nm (cR z187 p0 69 z184.1) (fun z189 => gd (ag z.1 40 12500 z189 16 30) (gd (ln z189.1 == 30) (nm (cN z189) (fun z192 => gd (og z192 p0 12) (nm (cR z192 p0 70 z189.1) (fun z194 => gd (ag z.1 40 12500 z194 16 3) (gd (ln z194.1 == 3) (nm (cN z194) (fun z197 => gd (og z197 p0 12) (nm (cR z197 p0 73 z194.1) (fun z199 => gd (ag z.1 40 12500 z199 14 513) (gd (ln z199.1 == 513) (nm (cN z199) (fun z202 => gd (og z202 p0 12) (nm (cR z202 p0 74 z199.1) (fun z204 => gd (rg z.1 40 12500 z204) (some z204)))))))))))))))))))))))))))))))))))))))))))))))))))))))))))))))))))))))))))))))))))))))))))))))))))))))))))))))))))))))))))))))))))))))))))))))))))))))))))))))))))))))))))))))))))))))))))))))))))))))))))))
set_option maxHeartbeats 4000000 in
set_option maxRecDepth 100000 in
theorem mC_X12_init {l : Launch} {G : wG} (hG : Gb G) {p0 : Nat} {z Rz : SC} (h : fnC_X12_init p0 z = some Rz) : Met l yX12_init (wsU yX12_init cX12_init 1 none) (rmc 2 40 12500) (va_Pc [.ref (G.2.2 p0)] (PreC G z)) (va_Qv (fun u => u = Rz) (PreC G) (AB G)) 40 12500 (AB G) := by
  refine Met.ofW (cc := cX12_init) (maxL := 1) (ret := none) (by decide) rfl ?_
  intro p e s m args below meth c s₁ B hml hv
  obtain ⟨rfl, hP, hK, hAO⟩ := hv
  have C : CC p s m ([.ref (G.2.2 p0)] : List Value).toArray meth c cX12_init 1 (wsU yX12_init cX12_init 1 none) RX12 "<init>" G := ⟨B.exec, B.bytes, hml, findClass_of_methodNamed B.named, atoms_spec (ws := (wsU yX12_init cX12_init 1 none)) B.pre, B.returns, B.notSynchronized, hK, hAO, hG, (name_of_methodNamed B.named B.method).1⟩
  obtain ⟨hx, hb, -, hown, hts, hr, hlocks, -, -, -, hin⟩ := id C
  have hS : va_S (AB G) s.heap s.heap [] := va_S.rf
  have hl := lv_entry [.ref (G.2.2 p0)] (n := 1) (Nat.le_of_ble_eq_true rfl)
  rw [lg_entry_eq]
  generalize (lg_sl [.ref (G.2.2 p0)] ++ List.replicate (1 - (lg_sl [.ref (G.2.2 p0)]).length) Slot.unset).toArray = ls at hl ⊢
  have hl : lv_has ls 1 [(0, .ref (G.2.2 p0))] := hl
  refine W.cs (cells' := z.1 - z.1) (slots' := sl z.1 z.1) (Nat.sub_self _).symm (sl_self _).symm ?_
  unfold fnC_X12_init at h
  refine lv_aload_n hx hb dX12_init_0 rfl (lv_at hl 0 rfl) ?_
  refine W.objInit hx hb hown (hts _ (List.mem_cons_of_mem _ lw_1433)) (hts _ (List.mem_cons_of_mem _ lw_134)) (hts _ (List.mem_cons_of_mem _ lw_135)) rfl (by rw [hml]; exact hl.1) rfl dX12_init_1 (Nat.le_of_ble_eq_true rfl) (Nat.le_of_ble_eq_true rfl) ?_
  refine W.eq (g2 := F0 m 4 ls []) rfl ?_
  refine lv_aload_n hx hb dX12_init_4 rfl (lv_at hl 0 rfl) ?_
  refine lv_sipush (v := 1600) hx hb dX12_init_5 (by decide) ?_
  obtain ⟨g1, h⟩ := gd_s h
  obtain ⟨g2, h⟩ := gd_s h
  obtain ⟨z3, e_z3, h⟩ := nm_s h
  refine za_14 hx hb (hts _ (List.mem_cons_of_mem _ lw_176)) hK hG hP hS (ag_s g1).1 (eq_of_beq g2) (by decide) rfl (Nat.le_of_ble_eq_true rfl) (ag_s g1).2.2.2.1 (ag_s g1).2.2.2.2 dX12_init_8 (fun H hP hS => ?_)
  rw [← e_z3] at hP
  refine W.cs (cells' := z3.1 - z.1) (slots' := sl z.1 z3.1) (by rw [e_z3]; exact ag_c g1) (by rw [e_z3]; exact ag_l g1) ?_
  obtain ⟨g4, h⟩ := gd_s h
  obtain ⟨z5, e_z5, h⟩ := nm_s h
  refine zp_12_0 hx hb hts (inU inW_X12) hown hK hG hP hS (og_s g4).1 (og_s g4).2 (hts _ (List.mem_cons_of_mem _ lw_1434)) hin rfl dX12_init_10 (fun H locs hP hS => ?_)
  rw [← e_z5] at hP
  refine W.cs (cells' := z5.1 - z.1) (slots' := sl z.1 z5.1) (by rw [e_z5]; rfl) (by rw [e_z5]; rfl) ?_
  refine lv_aload_n hx hb dX12_init_13 rfl (lv_at hl 0 rfl) ?_
  refine lv_iconst (v := (-1)) hx hb dX12_init_14 (by decide) ?_
  obtain ⟨g6, h⟩ := gd_s h
  obtain ⟨z7, e_z7, h⟩ := nm_s h
  refine zp_12_3 hx hb hts (inU inW_X12) hown hK hG hP hS (og_s g6).1 (og_s g6).2 (hts _ (List.mem_cons_of_mem _ lw_1437)) dX12_init_15 (fun H locs hP hS => ?_)
  rw [← e_z7] at hP
  refine W.cs (cells' := z7.1 - z.1) (slots' := sl z.1 z7.1) (by rw [e_z7]; rfl) (by rw [e_z7]; rfl) ?_
  refine lv_aload_n hx hb dX12_init_18 rfl (lv_at hl 0 rfl) ?_
  refine lv_bipush (v := 9) hx hb dX12_init_19 (by decide) ?_
  obtain ⟨g8, h⟩ := gd_s h
  obtain ⟨g9, h⟩ := gd_s h
  obtain ⟨z10, e_z10, h⟩ := nm_s h
  refine za_15 hx hb (hts _ (List.mem_cons_of_mem _ lw_175)) hK hG hP hS (ag_s g8).1 (eq_of_beq g9) (by decide) rfl (Nat.le_of_ble_eq_true rfl) (ag_s g8).2.2.2.1 (ag_s g8).2.2.2.2 dX12_init_21 (fun H hP hS => ?_)
  rw [← e_z10] at hP
  refine W.cs (cells' := z10.1 - z.1) (slots' := sl z.1 z10.1) (by rw [e_z10]; exact ag_c g8) (by rw [e_z10]; exact ag_l g8) ?_
  obtain ⟨g11, h⟩ := gd_s h
  obtain ⟨z12, e_z12, h⟩ := nm_s h
  refine zp_12_10 hx hb hts (inU inW_X12) hown hK hG hP hS (og_s g11).1 (og_s g11).2 (hts _ (List.mem_cons_of_mem _ lw_1444)) hin rfl dX12_init_23 (fun H locs hP hS => ?_)
  rw [← e_z12] at hP
  refine W.cs (cells' := z12.1 - z.1) (slots' := sl z.1 z12.1) (by rw [e_z12]; rfl) (by rw [e_z12]; rfl) ?_
  refine lv_aload_n hx hb dX12_init_26 rfl (lv_at hl 0 rfl) ?_
  refine lv_sipush (v := 640) hx hb dX12_init_27 (by decide) ?_
  obtain ⟨g13, h⟩ := gd_s h
  obtain ⟨g14, h⟩ := gd_s h
  obtain ⟨z15, e_z15, h⟩ := nm_s h
  refine za_14 hx hb (hts _ (List.mem_cons_of_mem _ lw_176)) hK hG hP hS (ag_s g13).1 (eq_of_beq g14) (by decide) rfl (Nat.le_of_ble_eq_true rfl) (ag_s g13).2.2.2.1 (ag_s g13).2.2.2.2 dX12_init_30 (fun H hP hS => ?_)
  rw [← e_z15] at hP
  refine W.cs (cells' := z15.1 - z.1) (slots' := sl z.1 z15.1) (by rw [e_z15]; exact ag_c g13) (by rw [e_z15]; exact ag_l g13) ?_
  obtain ⟨g16, h⟩ := gd_s h
  obtain ⟨z17, e_z17, h⟩ := nm_s h
  refine zp_12_11 hx hb hts (inU inW_X12) hown hK hG hP hS (og_s g16).1 (og_s g16).2 (hts _ (List.mem_cons_of_mem _ lw_1445)) hin rfl dX12_init_32 (fun H locs hP hS => ?_)
  rw [← e_z17] at hP
  refine W.cs (cells' := z17.1 - z.1) (slots' := sl z.1 z17.1) (by rw [e_z17]; rfl) (by rw [e_z17]; rfl) ?_
  refine lv_aload_n hx hb dX12_init_35 rfl (lv_at hl 0 rfl) ?_
  refine lv_sipush (v := 640) hx hb dX12_init_36 (by decide) ?_
  obtain ⟨g18, h⟩ := gd_s h
  obtain ⟨g19, h⟩ := gd_s h
  obtain ⟨z20, e_z20, h⟩ := nm_s h
  refine za_14 hx hb (hts _ (List.mem_cons_of_mem _ lw_176)) hK hG hP hS (ag_s g18).1 (eq_of_beq g19) (by decide) rfl (Nat.le_of_ble_eq_true rfl) (ag_s g18).2.2.2.1 (ag_s g18).2.2.2.2 dX12_init_39 (fun H hP hS => ?_)
  rw [← e_z20] at hP
  refine W.cs (cells' := z20.1 - z.1) (slots' := sl z.1 z20.1) (by rw [e_z20]; exact ag_c g18) (by rw [e_z20]; exact ag_l g18) ?_
  obtain ⟨g21, h⟩ := gd_s h
  obtain ⟨z22, e_z22, h⟩ := nm_s h
  refine zp_12_12 hx hb hts (inU inW_X12) hown hK hG hP hS (og_s g21).1 (og_s g21).2 (hts _ (List.mem_cons_of_mem _ lw_1446)) hin rfl dX12_init_41 (fun H locs hP hS => ?_)
  rw [← e_z22] at hP
  refine W.cs (cells' := z22.1 - z.1) (slots' := sl z.1 z22.1) (by rw [e_z22]; rfl) (by rw [e_z22]; rfl) ?_
  refine lv_aload_n hx hb dX12_init_44 rfl (lv_at hl 0 rfl) ?_
  refine lv_iconst (v := 2) hx hb dX12_init_45 (by decide) ?_
  obtain ⟨g23, h⟩ := gd_s h
  obtain ⟨g24, h⟩ := gd_s h
  obtain ⟨z25, e_z25, h⟩ := nm_s h
  refine za_14 hx hb (hts _ (List.mem_cons_of_mem _ lw_176)) hK hG hP hS (ag_s g23).1 (eq_of_beq g24) (by decide) rfl (Nat.le_of_ble_eq_true rfl) (ag_s g23).2.2.2.1 (ag_s g23).2.2.2.2 dX12_init_46 (fun H hP hS => ?_)
  rw [← e_z25] at hP
  refine W.cs (cells' := z25.1 - z.1) (slots' := sl z.1 z25.1) (by rw [e_z25]; exact ag_c g23) (by rw [e_z25]; exact ag_l g23) ?_
  obtain ⟨g26, h⟩ := gd_s h
  obtain ⟨z27, e_z27, h⟩ := nm_s h
  refine zp_12_13 hx hb hts (inU inW_X12) hown hK hG hP hS (og_s g26).1 (og_s g26).2 (hts _ (List.mem_cons_of_mem _ lw_1447)) hin rfl dX12_init_48 (fun H locs hP hS => ?_)
  rw [← e_z27] at hP
  refine W.cs (cells' := z27.1 - z.1) (slots' := sl z.1 z27.1) (by rw [e_z27]; rfl) (by rw [e_z27]; rfl) ?_
  refine lv_aload_n hx hb dX12_init_51 rfl (lv_at hl 0 rfl) ?_
  refine lv_sipush (v := 640) hx hb dX12_init_52 (by decide) ?_
  obtain ⟨g28, h⟩ := gd_s h
  obtain ⟨g29, h⟩ := gd_s h
  obtain ⟨z30, e_z30, h⟩ := nm_s h
  refine za_14 hx hb (hts _ (List.mem_cons_of_mem _ lw_176)) hK hG hP hS (ag_s g28).1 (eq_of_beq g29) (by decide) rfl (Nat.le_of_ble_eq_true rfl) (ag_s g28).2.2.2.1 (ag_s g28).2.2.2.2 dX12_init_55 (fun H hP hS => ?_)
  rw [← e_z30] at hP
  refine W.cs (cells' := z30.1 - z.1) (slots' := sl z.1 z30.1) (by rw [e_z30]; exact ag_c g28) (by rw [e_z30]; exact ag_l g28) ?_
  obtain ⟨g31, h⟩ := gd_s h
  obtain ⟨z32, e_z32, h⟩ := nm_s h
  refine zp_12_14 hx hb hts (inU inW_X12) hown hK hG hP hS (og_s g31).1 (og_s g31).2 (hts _ (List.mem_cons_of_mem _ lw_1448)) hin rfl dX12_init_57 (fun H locs hP hS => ?_)
  rw [← e_z32] at hP
  refine W.cs (cells' := z32.1 - z.1) (slots' := sl z.1 z32.1) (by rw [e_z32]; rfl) (by rw [e_z32]; rfl) ?_
  refine lv_aload_n hx hb dX12_init_60 rfl (lv_at hl 0 rfl) ?_
  refine lv_sipush (v := 640) hx hb dX12_init_61 (by decide) ?_
  obtain ⟨g33, h⟩ := gd_s h
  obtain ⟨g34, h⟩ := gd_s h
  obtain ⟨z35, e_z35, h⟩ := nm_s h
  refine za_14 hx hb (hts _ (List.mem_cons_of_mem _ lw_176)) hK hG hP hS (ag_s g33).1 (eq_of_beq g34) (by decide) rfl (Nat.le_of_ble_eq_true rfl) (ag_s g33).2.2.2.1 (ag_s g33).2.2.2.2 dX12_init_64 (fun H hP hS => ?_)
  rw [← e_z35] at hP
  refine W.cs (cells' := z35.1 - z.1) (slots' := sl z.1 z35.1) (by rw [e_z35]; exact ag_c g33) (by rw [e_z35]; exact ag_l g33) ?_
  obtain ⟨g36, h⟩ := gd_s h
  obtain ⟨z37, e_z37, h⟩ := nm_s h
  refine zp_12_15 hx hb hts (inU inW_X12) hown hK hG hP hS (og_s g36).1 (og_s g36).2 (hts _ (List.mem_cons_of_mem _ lw_1449)) hin rfl dX12_init_66 (fun H locs hP hS => ?_)
  rw [← e_z37] at hP
  refine W.cs (cells' := z37.1 - z.1) (slots' := sl z.1 z37.1) (by rw [e_z37]; rfl) (by rw [e_z37]; rfl) ?_
  refine lv_aload_n hx hb dX12_init_69 rfl (lv_at hl 0 rfl) ?_
  refine lv_iconst (v := 2) hx hb dX12_init_70 (by decide) ?_
  obtain ⟨g38, h⟩ := gd_s h
  obtain ⟨g39, h⟩ := gd_s h
  obtain ⟨z40, e_z40, h⟩ := nm_s h
  refine za_14 hx hb (hts _ (List.mem_cons_of_mem _ lw_176)) hK hG hP hS (ag_s g38).1 (eq_of_beq g39) (by decide) rfl (Nat.le_of_ble_eq_true rfl) (ag_s g38).2.2.2.1 (ag_s g38).2.2.2.2 dX12_init_71 (fun H hP hS => ?_)
  rw [← e_z40] at hP
  refine W.cs (cells' := z40.1 - z.1) (slots' := sl z.1 z40.1) (by rw [e_z40]; exact ag_c g38) (by rw [e_z40]; exact ag_l g38) ?_
  obtain ⟨g41, h⟩ := gd_s h
  obtain ⟨z42, e_z42, h⟩ := nm_s h
  refine zp_12_16 hx hb hts (inU inW_X12) hown hK hG hP hS (og_s g41).1 (og_s g41).2 (hts _ (List.mem_cons_of_mem _ lw_1450)) hin rfl dX12_init_73 (fun H locs hP hS => ?_)
  rw [← e_z42] at hP
  refine W.cs (cells' := z42.1 - z.1) (slots' := sl z.1 z42.1) (by rw [e_z42]; rfl) (by rw [e_z42]; rfl) ?_
  refine lv_aload_n hx hb dX12_init_76 rfl (lv_at hl 0 rfl) ?_
  refine lv_sipush (v := 160) hx hb dX12_init_77 (by decide) ?_
  obtain ⟨g43, h⟩ := gd_s h
  obtain ⟨g44, h⟩ := gd_s h
  obtain ⟨z45, e_z45, h⟩ := nm_s h
  refine za_14 hx hb (hts _ (List.mem_cons_of_mem _ lw_176)) hK hG hP hS (ag_s g43).1 (eq_of_beq g44) (by decide) rfl (Nat.le_of_ble_eq_true rfl) (ag_s g43).2.2.2.1 (ag_s g43).2.2.2.2 dX12_init_80 (fun H hP hS => ?_)
  rw [← e_z45] at hP
  refine W.cs (cells' := z45.1 - z.1) (slots' := sl z.1 z45.1) (by rw [e_z45]; exact ag_c g43) (by rw [e_z45]; exact ag_l g43) ?_
  obtain ⟨g46, h⟩ := gd_s h
  obtain ⟨z47, e_z47, h⟩ := nm_s h
  refine zp_12_17 hx hb hts (inU inW_X12) hown hK hG hP hS (og_s g46).1 (og_s g46).2 (hts _ (List.mem_cons_of_mem _ lw_1451)) hin rfl dX12_init_82 (fun H locs hP hS => ?_)
  rw [← e_z47] at hP
  refine W.cs (cells' := z47.1 - z.1) (slots' := sl z.1 z47.1) (by rw [e_z47]; rfl) (by rw [e_z47]; rfl) ?_
  refine lv_aload_n hx hb dX12_init_85 rfl (lv_at hl 0 rfl) ?_
  refine lv_bipush (v := 64) hx hb dX12_init_86 (by decide) ?_
  obtain ⟨g48, h⟩ := gd_s h
  obtain ⟨g49, h⟩ := gd_s h
  obtain ⟨z50, e_z50, h⟩ := nm_s h
  refine za_14 hx hb (hts _ (List.mem_cons_of_mem _ lw_176)) hK hG hP hS (ag_s g48).1 (eq_of_beq g49) (by decide) rfl (Nat.le_of_ble_eq_true rfl) (ag_s g48).2.2.2.1 (ag_s g48).2.2.2.2 dX12_init_88 (fun H hP hS => ?_)
  rw [← e_z50] at hP
  refine W.cs (cells' := z50.1 - z.1) (slots' := sl z.1 z50.1) (by rw [e_z50]; exact ag_c g48) (by rw [e_z50]; exact ag_l g48) ?_
  obtain ⟨g51, h⟩ := gd_s h
  obtain ⟨z52, e_z52, h⟩ := nm_s h
  refine zp_12_18 hx hb hts (inU inW_X12) hown hK hG hP hS (og_s g51).1 (og_s g51).2 (hts _ (List.mem_cons_of_mem _ lw_1452)) hin rfl dX12_init_90 (fun H locs hP hS => ?_)
  rw [← e_z52] at hP
  refine W.cs (cells' := z52.1 - z.1) (slots' := sl z.1 z52.1) (by rw [e_z52]; rfl) (by rw [e_z52]; rfl) ?_
  refine lv_aload_n hx hb dX12_init_93 rfl (lv_at hl 0 rfl) ?_
  refine lv_iconst (v := 2) hx hb dX12_init_94 (by decide) ?_
  obtain ⟨g53, h⟩ := gd_s h
  obtain ⟨g54, h⟩ := gd_s h
  obtain ⟨z55, e_z55, h⟩ := nm_s h
  refine za_16 hx hb (hts _ (List.mem_cons_of_mem _ lw_702)) hK hG hP hS (ag_s g53).1 (eq_of_beq g54) (by decide) rfl (Nat.le_of_ble_eq_true rfl) (ag_s g53).2.2.2.1 (ag_s g53).2.2.2.2 dX12_init_95 (fun H hP hS => ?_)
  rw [← e_z55] at hP
  refine W.cs (cells' := z55.1 - z.1) (slots' := sl z.1 z55.1) (by rw [e_z55]; exact ag_c g53) (by rw [e_z55]; exact ag_l g53) ?_
  obtain ⟨g56, h⟩ := gd_s h
  obtain ⟨z57, e_z57, h⟩ := nm_s h
  refine zp_12_19 hx hb hts (inU inW_X12) hown hK hG hP hS (og_s g56).1 (og_s g56).2 (hts _ (List.mem_cons_of_mem _ lw_1453)) hin rfl dX12_init_97 (fun H locs hP hS => ?_)
  rw [← e_z57] at hP
  refine W.cs (cells' := z57.1 - z.1) (slots' := sl z.1 z57.1) (by rw [e_z57]; rfl) (by rw [e_z57]; rfl) ?_
  refine lv_aload_n hx hb dX12_init_100 rfl (lv_at hl 0 rfl) ?_
  refine lv_bipush (v := 6) hx hb dX12_init_101 (by decide) ?_
  obtain ⟨g58, h⟩ := gd_s h
  obtain ⟨g59, h⟩ := gd_s h
  obtain ⟨z60, e_z60, h⟩ := nm_s h
  refine za_14 hx hb (hts _ (List.mem_cons_of_mem _ lw_176)) hK hG hP hS (ag_s g58).1 (eq_of_beq g59) (by decide) rfl (Nat.le_of_ble_eq_true rfl) (ag_s g58).2.2.2.1 (ag_s g58).2.2.2.2 dX12_init_103 (fun H hP hS => ?_)
  rw [← e_z60] at hP
  refine W.cs (cells' := z60.1 - z.1) (slots' := sl z.1 z60.1) (by rw [e_z60]; exact ag_c g58) (by rw [e_z60]; exact ag_l g58) ?_
  obtain ⟨g61, h⟩ := gd_s h
  obtain ⟨z62, e_z62, h⟩ := nm_s h
  refine zp_12_26 hx hb hts (inU inW_X12) hown hK hG hP hS (og_s g61).1 (og_s g61).2 (hts _ (List.mem_cons_of_mem _ lw_1460)) hin rfl dX12_init_105 (fun H locs hP hS => ?_)
  rw [← e_z62] at hP
  refine W.cs (cells' := z62.1 - z.1) (slots' := sl z.1 z62.1) (by rw [e_z62]; rfl) (by rw [e_z62]; rfl) ?_
  refine lv_aload_n hx hb dX12_init_108 rfl (lv_at hl 0 rfl) ?_
  refine lv_iconst (v := 3) hx hb dX12_init_109 (by decide) ?_
  obtain ⟨g63, h⟩ := gd_s h
  obtain ⟨g64, h⟩ := gd_s h
  obtain ⟨z65, e_z65, h⟩ := nm_s h
  refine za_14 hx hb (hts _ (List.mem_cons_of_mem _ lw_176)) hK hG hP hS (ag_s g63).1 (eq_of_beq g64) (by decide) rfl (Nat.le_of_ble_eq_true rfl) (ag_s g63).2.2.2.1 (ag_s g63).2.2.2.2 dX12_init_110 (fun H hP hS => ?_)
  rw [← e_z65] at hP
  refine W.cs (cells' := z65.1 - z.1) (slots' := sl z.1 z65.1) (by rw [e_z65]; exact ag_c g63) (by rw [e_z65]; exact ag_l g63) ?_
  obtain ⟨g66, h⟩ := gd_s h
  obtain ⟨z67, e_z67, h⟩ := nm_s h
  refine zp_12_27 hx hb hts (inU inW_X12) hown hK hG hP hS (og_s g66).1 (og_s g66).2 (hts _ (List.mem_cons_of_mem _ lw_1461)) hin rfl dX12_init_112 (fun H locs hP hS => ?_)
  rw [← e_z67] at hP
  refine W.cs (cells' := z67.1 - z.1) (slots' := sl z.1 z67.1) (by rw [e_z67]; rfl) (by rw [e_z67]; rfl) ?_
  refine lv_aload_n hx hb dX12_init_115 rfl (lv_at hl 0 rfl) ?_
  refine lv_iconst (v := 3) hx hb dX12_init_116 (by decide) ?_
  obtain ⟨g68, h⟩ := gd_s h
  obtain ⟨g69, h⟩ := gd_s h
  obtain ⟨z70, e_z70, h⟩ := nm_s h
  refine za_14 hx hb (hts _ (List.mem_cons_of_mem _ lw_176)) hK hG hP hS (ag_s g68).1 (eq_of_beq g69) (by decide) rfl (Nat.le_of_ble_eq_true rfl) (ag_s g68).2.2.2.1 (ag_s g68).2.2.2.2 dX12_init_117 (fun H hP hS => ?_)
  rw [← e_z70] at hP
  refine W.cs (cells' := z70.1 - z.1) (slots' := sl z.1 z70.1) (by rw [e_z70]; exact ag_c g68) (by rw [e_z70]; exact ag_l g68) ?_
  obtain ⟨g71, h⟩ := gd_s h
  obtain ⟨z72, e_z72, h⟩ := nm_s h
  refine zp_12_28 hx hb hts (inU inW_X12) hown hK hG hP hS (og_s g71).1 (og_s g71).2 (hts _ (List.mem_cons_of_mem _ lw_1462)) hin rfl dX12_init_119 (fun H locs hP hS => ?_)
  rw [← e_z72] at hP
  refine W.cs (cells' := z72.1 - z.1) (slots' := sl z.1 z72.1) (by rw [e_z72]; rfl) (by rw [e_z72]; rfl) ?_
  refine lv_aload_n hx hb dX12_init_122 rfl (lv_at hl 0 rfl) ?_
  refine lv_iconst (v := 3) hx hb dX12_init_123 (by decide) ?_
  obtain ⟨g73, h⟩ := gd_s h
  obtain ⟨g74, h⟩ := gd_s h
  obtain ⟨z75, e_z75, h⟩ := nm_s h
  refine za_14 hx hb (hts _ (List.mem_cons_of_mem _ lw_176)) hK hG hP hS (ag_s g73).1 (eq_of_beq g74) (by decide) rfl (Nat.le_of_ble_eq_true rfl) (ag_s g73).2.2.2.1 (ag_s g73).2.2.2.2 dX12_init_124 (fun H hP hS => ?_)
  rw [← e_z75] at hP
  refine W.cs (cells' := z75.1 - z.1) (slots' := sl z.1 z75.1) (by rw [e_z75]; exact ag_c g73) (by rw [e_z75]; exact ag_l g73) ?_
  obtain ⟨g76, h⟩ := gd_s h
  obtain ⟨z77, e_z77, h⟩ := nm_s h
  refine zp_12_29 hx hb hts (inU inW_X12) hown hK hG hP hS (og_s g76).1 (og_s g76).2 (hts _ (List.mem_cons_of_mem _ lw_1463)) hin rfl dX12_init_126 (fun H locs hP hS => ?_)
  rw [← e_z77] at hP
  refine W.cs (cells' := z77.1 - z.1) (slots' := sl z.1 z77.1) (by rw [e_z77]; rfl) (by rw [e_z77]; rfl) ?_
  refine lv_aload_n hx hb dX12_init_129 rfl (lv_at hl 0 rfl) ?_
  refine lv_iconst (v := 3) hx hb dX12_init_130 (by decide) ?_
  obtain ⟨g78, h⟩ := gd_s h
  obtain ⟨g79, h⟩ := gd_s h
  obtain ⟨z80, e_z80, h⟩ := nm_s h
  refine za_14 hx hb (hts _ (List.mem_cons_of_mem _ lw_176)) hK hG hP hS (ag_s g78).1 (eq_of_beq g79) (by decide) rfl (Nat.le_of_ble_eq_true rfl) (ag_s g78).2.2.2.1 (ag_s g78).2.2.2.2 dX12_init_131 (fun H hP hS => ?_)
  rw [← e_z80] at hP
  refine W.cs (cells' := z80.1 - z.1) (slots' := sl z.1 z80.1) (by rw [e_z80]; exact ag_c g78) (by rw [e_z80]; exact ag_l g78) ?_
  obtain ⟨g81, h⟩ := gd_s h
  obtain ⟨z82, e_z82, h⟩ := nm_s h
  refine zp_12_30 hx hb hts (inU inW_X12) hown hK hG hP hS (og_s g81).1 (og_s g81).2 (hts _ (List.mem_cons_of_mem _ lw_1464)) hin rfl dX12_init_133 (fun H locs hP hS => ?_)
  rw [← e_z82] at hP
  refine W.cs (cells' := z82.1 - z.1) (slots' := sl z.1 z82.1) (by rw [e_z82]; rfl) (by rw [e_z82]; rfl) ?_
  refine lv_aload_n hx hb dX12_init_136 rfl (lv_at hl 0 rfl) ?_
  refine lv_iconst (v := 3) hx hb dX12_init_137 (by decide) ?_
  obtain ⟨g83, h⟩ := gd_s h
  obtain ⟨g84, h⟩ := gd_s h
  obtain ⟨z85, e_z85, h⟩ := nm_s h
  refine za_14 hx hb (hts _ (List.mem_cons_of_mem _ lw_176)) hK hG hP hS (ag_s g83).1 (eq_of_beq g84) (by decide) rfl (Nat.le_of_ble_eq_true rfl) (ag_s g83).2.2.2.1 (ag_s g83).2.2.2.2 dX12_init_138 (fun H hP hS => ?_)
  rw [← e_z85] at hP
  refine W.cs (cells' := z85.1 - z.1) (slots' := sl z.1 z85.1) (by rw [e_z85]; exact ag_c g83) (by rw [e_z85]; exact ag_l g83) ?_
  obtain ⟨g86, h⟩ := gd_s h
  obtain ⟨z87, e_z87, h⟩ := nm_s h
  refine zp_12_31 hx hb hts (inU inW_X12) hown hK hG hP hS (og_s g86).1 (og_s g86).2 (hts _ (List.mem_cons_of_mem _ lw_1465)) hin rfl dX12_init_140 (fun H locs hP hS => ?_)
  rw [← e_z87] at hP
  refine W.cs (cells' := z87.1 - z.1) (slots' := sl z.1 z87.1) (by rw [e_z87]; rfl) (by rw [e_z87]; rfl) ?_
  refine lv_aload_n hx hb dX12_init_143 rfl (lv_at hl 0 rfl) ?_
  refine lv_iconst (v := 3) hx hb dX12_init_144 (by decide) ?_
  obtain ⟨g88, h⟩ := gd_s h
  obtain ⟨g89, h⟩ := gd_s h
  obtain ⟨z90, e_z90, h⟩ := nm_s h
  refine za_14 hx hb (hts _ (List.mem_cons_of_mem _ lw_176)) hK hG hP hS (ag_s g88).1 (eq_of_beq g89) (by decide) rfl (Nat.le_of_ble_eq_true rfl) (ag_s g88).2.2.2.1 (ag_s g88).2.2.2.2 dX12_init_145 (fun H hP hS => ?_)
  rw [← e_z90] at hP
  refine W.cs (cells' := z90.1 - z.1) (slots' := sl z.1 z90.1) (by rw [e_z90]; exact ag_c g88) (by rw [e_z90]; exact ag_l g88) ?_
  obtain ⟨g91, h⟩ := gd_s h
  obtain ⟨z92, e_z92, h⟩ := nm_s h
  refine zp_12_32 hx hb hts (inU inW_X12) hown hK hG hP hS (og_s g91).1 (og_s g91).2 (hts _ (List.mem_cons_of_mem _ lw_1466)) hin rfl dX12_init_147 (fun H locs hP hS => ?_)
  rw [← e_z92] at hP
  refine W.cs (cells' := z92.1 - z.1) (slots' := sl z.1 z92.1) (by rw [e_z92]; rfl) (by rw [e_z92]; rfl) ?_
  refine lv_aload_n hx hb dX12_init_150 rfl (lv_at hl 0 rfl) ?_
  refine lv_bipush (v := 6) hx hb dX12_init_151 (by decide) ?_
  obtain ⟨g93, h⟩ := gd_s h
  obtain ⟨g94, h⟩ := gd_s h
  obtain ⟨z95, e_z95, h⟩ := nm_s h
  refine za_14 hx hb (hts _ (List.mem_cons_of_mem _ lw_176)) hK hG hP hS (ag_s g93).1 (eq_of_beq g94) (by decide) rfl (Nat.le_of_ble_eq_true rfl) (ag_s g93).2.2.2.1 (ag_s g93).2.2.2.2 dX12_init_153 (fun H hP hS => ?_)
  rw [← e_z95] at hP
  refine W.cs (cells' := z95.1 - z.1) (slots' := sl z.1 z95.1) (by rw [e_z95]; exact ag_c g93) (by rw [e_z95]; exact ag_l g93) ?_
  obtain ⟨g96, h⟩ := gd_s h
  obtain ⟨z97, e_z97, h⟩ := nm_s h
  refine zp_12_33 hx hb hts (inU inW_X12) hown hK hG hP hS (og_s g96).1 (og_s g96).2 (hts _ (List.mem_cons_of_mem _ lw_1467)) hin rfl dX12_init_155 (fun H locs hP hS => ?_)
  rw [← e_z97] at hP
  refine W.cs (cells' := z97.1 - z.1) (slots' := sl z.1 z97.1) (by rw [e_z97]; rfl) (by rw [e_z97]; rfl) ?_
  refine lv_aload_n hx hb dX12_init_158 rfl (lv_at hl 0 rfl) ?_
  refine lv_bipush (v := 6) hx hb dX12_init_159 (by decide) ?_
  obtain ⟨g98, h⟩ := gd_s h
  obtain ⟨g99, h⟩ := gd_s h
  obtain ⟨z100, e_z100, h⟩ := nm_s h
  refine za_14 hx hb (hts _ (List.mem_cons_of_mem _ lw_176)) hK hG hP hS (ag_s g98).1 (eq_of_beq g99) (by decide) rfl (Nat.le_of_ble_eq_true rfl) (ag_s g98).2.2.2.1 (ag_s g98).2.2.2.2 dX12_init_161 (fun H hP hS => ?_)
  rw [← e_z100] at hP
  refine W.cs (cells' := z100.1 - z.1) (slots' := sl z.1 z100.1) (by rw [e_z100]; exact ag_c g98) (by rw [e_z100]; exact ag_l g98) ?_
  obtain ⟨g101, h⟩ := gd_s h
  obtain ⟨z102, e_z102, h⟩ := nm_s h
  refine zp_12_34 hx hb hts (inU inW_X12) hown hK hG hP hS (og_s g101).1 (og_s g101).2 (hts _ (List.mem_cons_of_mem _ lw_1468)) hin rfl dX12_init_163 (fun H locs hP hS => ?_)
  rw [← e_z102] at hP
  refine W.cs (cells' := z102.1 - z.1) (slots' := sl z.1 z102.1) (by rw [e_z102]; rfl) (by rw [e_z102]; rfl) ?_
  refine lv_aload_n hx hb dX12_init_166 rfl (lv_at hl 0 rfl) ?_
  refine lv_bipush (v := 6) hx hb dX12_init_167 (by decide) ?_
  obtain ⟨g103, h⟩ := gd_s h
  obtain ⟨g104, h⟩ := gd_s h
  obtain ⟨z105, e_z105, h⟩ := nm_s h
  refine za_14 hx hb (hts _ (List.mem_cons_of_mem _ lw_176)) hK hG hP hS (ag_s g103).1 (eq_of_beq g104) (by decide) rfl (Nat.le_of_ble_eq_true rfl) (ag_s g103).2.2.2.1 (ag_s g103).2.2.2.2 dX12_init_169 (fun H hP hS => ?_)
  rw [← e_z105] at hP
  refine W.cs (cells' := z105.1 - z.1) (slots' := sl z.1 z105.1) (by rw [e_z105]; exact ag_c g103) (by rw [e_z105]; exact ag_l g103) ?_
  obtain ⟨g106, h⟩ := gd_s h
  obtain ⟨z107, e_z107, h⟩ := nm_s h
  refine zp_12_35 hx hb hts (inU inW_X12) hown hK hG hP hS (og_s g106).1 (og_s g106).2 (hts _ (List.mem_cons_of_mem _ lw_1469)) hin rfl dX12_init_171 (fun H locs hP hS => ?_)
  rw [← e_z107] at hP
  refine W.cs (cells' := z107.1 - z.1) (slots' := sl z.1 z107.1) (by rw [e_z107]; rfl) (by rw [e_z107]; rfl) ?_
  refine lv_aload_n hx hb dX12_init_174 rfl (lv_at hl 0 rfl) ?_
  refine lv_bipush (v := 6) hx hb dX12_init_175 (by decide) ?_
  obtain ⟨g108, h⟩ := gd_s h
  obtain ⟨g109, h⟩ := gd_s h
  obtain ⟨z110, e_z110, h⟩ := nm_s h
  refine za_14 hx hb (hts _ (List.mem_cons_of_mem _ lw_176)) hK hG hP hS (ag_s g108).1 (eq_of_beq g109) (by decide) rfl (Nat.le_of_ble_eq_true rfl) (ag_s g108).2.2.2.1 (ag_s g108).2.2.2.2 dX12_init_177 (fun H hP hS => ?_)
  rw [← e_z110] at hP
  refine W.cs (cells' := z110.1 - z.1) (slots' := sl z.1 z110.1) (by rw [e_z110]; exact ag_c g108) (by rw [e_z110]; exact ag_l g108) ?_
  obtain ⟨g111, h⟩ := gd_s h
  obtain ⟨z112, e_z112, h⟩ := nm_s h
  refine zp_12_36 hx hb hts (inU inW_X12) hown hK hG hP hS (og_s g111).1 (og_s g111).2 (hts _ (List.mem_cons_of_mem _ lw_1470)) hin rfl dX12_init_179 (fun H locs hP hS => ?_)
  rw [← e_z112] at hP
  refine W.cs (cells' := z112.1 - z.1) (slots' := sl z.1 z112.1) (by rw [e_z112]; rfl) (by rw [e_z112]; rfl) ?_
  refine lv_aload_n hx hb dX12_init_182 rfl (lv_at hl 0 rfl) ?_
  refine lv_bipush (v := 6) hx hb dX12_init_183 (by decide) ?_
  obtain ⟨g113, h⟩ := gd_s h
  obtain ⟨g114, h⟩ := gd_s h
  obtain ⟨z115, e_z115, h⟩ := nm_s h
  refine za_14 hx hb (hts _ (List.mem_cons_of_mem _ lw_176)) hK hG hP hS (ag_s g113).1 (eq_of_beq g114) (by decide) rfl (Nat.le_of_ble_eq_true rfl) (ag_s g113).2.2.2.1 (ag_s g113).2.2.2.2 dX12_init_185 (fun H hP hS => ?_)
  rw [← e_z115] at hP
  refine W.cs (cells' := z115.1 - z.1) (slots' := sl z.1 z115.1) (by rw [e_z115]; exact ag_c g113) (by rw [e_z115]; exact ag_l g113) ?_
  obtain ⟨g116, h⟩ := gd_s h
  obtain ⟨z117, e_z117, h⟩ := nm_s h
  refine zp_12_37 hx hb hts (inU inW_X12) hown hK hG hP hS (og_s g116).1 (og_s g116).2 (hts _ (List.mem_cons_of_mem _ lw_1471)) hin rfl dX12_init_187 (fun H locs hP hS => ?_)
  rw [← e_z117] at hP
  refine W.cs (cells' := z117.1 - z.1) (slots' := sl z.1 z117.1) (by rw [e_z117]; rfl) (by rw [e_z117]; rfl) ?_
  refine lv_aload_n hx hb dX12_init_190 rfl (lv_at hl 0 rfl) ?_
  refine lv_bipush (v := 6) hx hb dX12_init_191 (by decide) ?_
  obtain ⟨g118, h⟩ := gd_s h
  obtain ⟨g119, h⟩ := gd_s h
  obtain ⟨z120, e_z120, h⟩ := nm_s h
  refine za_14 hx hb (hts _ (List.mem_cons_of_mem _ lw_176)) hK hG hP hS (ag_s g118).1 (eq_of_beq g119) (by decide) rfl (Nat.le_of_ble_eq_true rfl) (ag_s g118).2.2.2.1 (ag_s g118).2.2.2.2 dX12_init_193 (fun H hP hS => ?_)
  rw [← e_z120] at hP
  refine W.cs (cells' := z120.1 - z.1) (slots' := sl z.1 z120.1) (by rw [e_z120]; exact ag_c g118) (by rw [e_z120]; exact ag_l g118) ?_
  obtain ⟨g121, h⟩ := gd_s h
  obtain ⟨z122, e_z122, h⟩ := nm_s h
  refine zp_12_38 hx hb hts (inU inW_X12) hown hK hG hP hS (og_s g121).1 (og_s g121).2 (hts _ (List.mem_cons_of_mem _ lw_1472)) hin rfl dX12_init_195 (fun H locs hP hS => ?_)
  rw [← e_z122] at hP
  refine W.cs (cells' := z122.1 - z.1) (slots' := sl z.1 z122.1) (by rw [e_z122]; rfl) (by rw [e_z122]; rfl) ?_
  refine lv_aload_n hx hb dX12_init_198 rfl (lv_at hl 0 rfl) ?_
  refine lv_iconst (v := 1) hx hb dX12_init_199 (by decide) ?_
  obtain ⟨g123, h⟩ := gd_s h
  obtain ⟨z124, e_z124, h⟩ := nm_s h
  refine zp_12_45 hx hb hts (inU inW_X12) hown hK hG hP hS (og_s g123).1 (og_s g123).2 (hts _ (List.mem_cons_of_mem _ lw_1479)) dX12_init_200 (fun H locs hP hS => ?_)
  rw [← e_z124] at hP
  refine W.cs (cells' := z124.1 - z.1) (slots' := sl z.1 z124.1) (by rw [e_z124]; rfl) (by rw [e_z124]; rfl) ?_
  refine lv_aload_n hx hb dX12_init_203 rfl (lv_at hl 0 rfl) ?_
  refine lv_sipush (v := 171) hx hb dX12_init_204 (by decide) ?_
  obtain ⟨g125, h⟩ := gd_s h
  obtain ⟨g126, h⟩ := gd_s h
  obtain ⟨z127, e_z127, h⟩ := nm_s h
  refine za_14 hx hb (hts _ (List.mem_cons_of_mem _ lw_176)) hK hG hP hS (ag_s g125).1 (eq_of_beq g126) (by decide) rfl (Nat.le_of_ble_eq_true rfl) (ag_s g125).2.2.2.1 (ag_s g125).2.2.2.2 dX12_init_207 (fun H hP hS => ?_)
  rw [← e_z127] at hP
  refine W.cs (cells' := z127.1 - z.1) (slots' := sl z.1 z127.1) (by rw [e_z127]; exact ag_c g125) (by rw [e_z127]; exact ag_l g125) ?_
  obtain ⟨g128, h⟩ := gd_s h
  obtain ⟨z129, e_z129, h⟩ := nm_s h
  refine zp_12_48 hx hb hts (inU inW_X12) hown hK hG hP hS (og_s g128).1 (og_s g128).2 (hts _ (List.mem_cons_of_mem _ lw_1482)) hin rfl dX12_init_209 (fun H locs hP hS => ?_)
  rw [← e_z129] at hP
  refine W.cs (cells' := z129.1 - z.1) (slots' := sl z.1 z129.1) (by rw [e_z129]; rfl) (by rw [e_z129]; rfl) ?_
  refine lv_aload_n hx hb dX12_init_212 rfl (lv_at hl 0 rfl) ?_
  refine lv_sipush (v := 171) hx hb dX12_init_213 (by decide) ?_
  obtain ⟨g130, h⟩ := gd_s h
  obtain ⟨g131, h⟩ := gd_s h
  obtain ⟨z132, e_z132, h⟩ := nm_s h
  refine za_14 hx hb (hts _ (List.mem_cons_of_mem _ lw_176)) hK hG hP hS (ag_s g130).1 (eq_of_beq g131) (by decide) rfl (Nat.le_of_ble_eq_true rfl) (ag_s g130).2.2.2.1 (ag_s g130).2.2.2.2 dX12_init_216 (fun H hP hS => ?_)
  rw [← e_z132] at hP
  refine W.cs (cells' := z132.1 - z.1) (slots' := sl z.1 z132.1) (by rw [e_z132]; exact ag_c g130) (by rw [e_z132]; exact ag_l g130) ?_
  obtain ⟨g133, h⟩ := gd_s h
  obtain ⟨z134, e_z134, h⟩ := nm_s h
  refine zp_12_49 hx hb hts (inU inW_X12) hown hK hG hP hS (og_s g133).1 (og_s g133).2 (hts _ (List.mem_cons_of_mem _ lw_1483)) hin rfl dX12_init_218 (fun H locs hP hS => ?_)
  rw [← e_z134] at hP
  refine W.cs (cells' := z134.1 - z.1) (slots' := sl z.1 z134.1) (by rw [e_z134]; rfl) (by rw [e_z134]; rfl) ?_
  refine lv_aload_n hx hb dX12_init_221 rfl (lv_at hl 0 rfl) ?_
  refine lv_sipush (v := 6840) hx hb dX12_init_222 (by decide) ?_
  obtain ⟨g135, h⟩ := gd_s h
  obtain ⟨g136, h⟩ := gd_s h
  obtain ⟨z137, e_z137, h⟩ := nm_s h
  refine za_14 hx hb (hts _ (List.mem_cons_of_mem _ lw_176)) hK hG hP hS (ag_s g135).1 (eq_of_beq g136) (by decide) rfl (Nat.le_of_ble_eq_true rfl) (ag_s g135).2.2.2.1 (ag_s g135).2.2.2.2 dX12_init_225 (fun H hP hS => ?_)
  rw [← e_z137] at hP
  refine W.cs (cells' := z137.1 - z.1) (slots' := sl z.1 z137.1) (by rw [e_z137]; exact ag_c g135) (by rw [e_z137]; exact ag_l g135) ?_
  obtain ⟨g138, h⟩ := gd_s h
  obtain ⟨z139, e_z139, h⟩ := nm_s h
  refine zp_12_50 hx hb hts (inU inW_X12) hown hK hG hP hS (og_s g138).1 (og_s g138).2 (hts _ (List.mem_cons_of_mem _ lw_1484)) hin rfl dX12_init_227 (fun H locs hP hS => ?_)
  rw [← e_z139] at hP
  refine W.cs (cells' := z139.1 - z.1) (slots' := sl z.1 z139.1) (by rw [e_z139]; rfl) (by rw [e_z139]; rfl) ?_
  refine lv_aload_n hx hb dX12_init_230 rfl (lv_at hl 0 rfl) ?_
  refine lv_bipush (v := 6) hx hb dX12_init_231 (by decide) ?_
  obtain ⟨g140, h⟩ := gd_s h
  obtain ⟨g141, h⟩ := gd_s h
  obtain ⟨z142, e_z142, h⟩ := nm_s h
  refine za_14 hx hb (hts _ (List.mem_cons_of_mem _ lw_176)) hK hG hP hS (ag_s g140).1 (eq_of_beq g141) (by decide) rfl (Nat.le_of_ble_eq_true rfl) (ag_s g140).2.2.2.1 (ag_s g140).2.2.2.2 dX12_init_233 (fun H hP hS => ?_)
  rw [← e_z142] at hP
  refine W.cs (cells' := z142.1 - z.1) (slots' := sl z.1 z142.1) (by rw [e_z142]; exact ag_c g140) (by rw [e_z142]; exact ag_l g140) ?_
  obtain ⟨g143, h⟩ := gd_s h
  obtain ⟨z144, e_z144, h⟩ := nm_s h
  refine zp_12_53 hx hb hts (inU inW_X12) hown hK hG hP hS (og_s g143).1 (og_s g143).2 (hts _ (List.mem_cons_of_mem _ lw_1487)) hin rfl dX12_init_235 (fun H locs hP hS => ?_)
  rw [← e_z144] at hP
  refine W.cs (cells' := z144.1 - z.1) (slots' := sl z.1 z144.1) (by rw [e_z144]; rfl) (by rw [e_z144]; rfl) ?_
  refine lv_aload_n hx hb dX12_init_238 rfl (lv_at hl 0 rfl) ?_
  refine lv_bipush (v := 25) hx hb dX12_init_239 (by decide) ?_
  obtain ⟨g145, h⟩ := gd_s h
  obtain ⟨g146, h⟩ := gd_s h
  obtain ⟨z147, e_z147, h⟩ := nm_s h
  refine za_14 hx hb (hts _ (List.mem_cons_of_mem _ lw_176)) hK hG hP hS (ag_s g145).1 (eq_of_beq g146) (by decide) rfl (Nat.le_of_ble_eq_true rfl) (ag_s g145).2.2.2.1 (ag_s g145).2.2.2.2 dX12_init_241 (fun H hP hS => ?_)
  rw [← e_z147] at hP
  refine W.cs (cells' := z147.1 - z.1) (slots' := sl z.1 z147.1) (by rw [e_z147]; exact ag_c g145) (by rw [e_z147]; exact ag_l g145) ?_
  obtain ⟨g148, h⟩ := gd_s h
  obtain ⟨z149, e_z149, h⟩ := nm_s h
  refine zp_12_54 hx hb hts (inU inW_X12) hown hK hG hP hS (og_s g148).1 (og_s g148).2 (hts _ (List.mem_cons_of_mem _ lw_1488)) hin rfl dX12_init_243 (fun H locs hP hS => ?_)
  rw [← e_z149] at hP
  refine W.cs (cells' := z149.1 - z.1) (slots' := sl z.1 z149.1) (by rw [e_z149]; rfl) (by rw [e_z149]; rfl) ?_
  refine lv_aload_n hx hb dX12_init_246 rfl (lv_at hl 0 rfl) ?_
  refine lv_sipush (v := 144) hx hb dX12_init_247 (by decide) ?_
  obtain ⟨g150, h⟩ := gd_s h
  obtain ⟨g151, h⟩ := gd_s h
  obtain ⟨z152, e_z152, h⟩ := nm_s h
  refine za_14 hx hb (hts _ (List.mem_cons_of_mem _ lw_176)) hK hG hP hS (ag_s g150).1 (eq_of_beq g151) (by decide) rfl (Nat.le_of_ble_eq_true rfl) (ag_s g150).2.2.2.1 (ag_s g150).2.2.2.2 dX12_init_250 (fun H hP hS => ?_)
  rw [← e_z152] at hP
  refine W.cs (cells' := z152.1 - z.1) (slots' := sl z.1 z152.1) (by rw [e_z152]; exact ag_c g150) (by rw [e_z152]; exact ag_l g150) ?_
  obtain ⟨g153, h⟩ := gd_s h
  obtain ⟨z154, e_z154, h⟩ := nm_s h
  refine zp_12_61 hx hb hts (inU inW_X12) hown hK hG hP hS (og_s g153).1 (og_s g153).2 (hts _ (List.mem_cons_of_mem _ lw_1495)) hin rfl dX12_init_252 (fun H locs hP hS => ?_)
  rw [← e_z154] at hP
  refine W.cs (cells' := z154.1 - z.1) (slots' := sl z.1 z154.1) (by rw [e_z154]; rfl) (by rw [e_z154]; rfl) ?_
  refine lv_aload_n hx hb dX12_init_255 rfl (lv_at hl 0 rfl) ?_
  refine lv_bipush (v := 6) hx hb dX12_init_256 (by decide) ?_
  obtain ⟨g155, h⟩ := gd_s h
  obtain ⟨g156, h⟩ := gd_s h
  obtain ⟨z157, e_z157, h⟩ := nm_s h
  refine za_14 hx hb (hts _ (List.mem_cons_of_mem _ lw_176)) hK hG hP hS (ag_s g155).1 (eq_of_beq g156) (by decide) rfl (Nat.le_of_ble_eq_true rfl) (ag_s g155).2.2.2.1 (ag_s g155).2.2.2.2 dX12_init_258 (fun H hP hS => ?_)
  rw [← e_z157] at hP
  refine W.cs (cells' := z157.1 - z.1) (slots' := sl z.1 z157.1) (by rw [e_z157]; exact ag_c g155) (by rw [e_z157]; exact ag_l g155) ?_
  obtain ⟨g158, h⟩ := gd_s h
  obtain ⟨z159, e_z159, h⟩ := nm_s h
  refine zp_12_62 hx hb hts (inU inW_X12) hown hK hG hP hS (og_s g158).1 (og_s g158).2 (hts _ (List.mem_cons_of_mem _ lw_1496)) hin rfl dX12_init_260 (fun H locs hP hS => ?_)
  rw [← e_z159] at hP
  refine W.cs (cells' := z159.1 - z.1) (slots' := sl z.1 z159.1) (by rw [e_z159]; rfl) (by rw [e_z159]; rfl) ?_
  refine lv_aload_n hx hb dX12_init_263 rfl (lv_at hl 0 rfl) ?_
  refine lv_bipush (v := 6) hx hb dX12_init_264 (by decide) ?_
  obtain ⟨g160, h⟩ := gd_s h
  obtain ⟨g161, h⟩ := gd_s h
  obtain ⟨z162, e_z162, h⟩ := nm_s h
  refine za_14 hx hb (hts _ (List.mem_cons_of_mem _ lw_176)) hK hG hP hS (ag_s g160).1 (eq_of_beq g161) (by decide) rfl (Nat.le_of_ble_eq_true rfl) (ag_s g160).2.2.2.1 (ag_s g160).2.2.2.2 dX12_init_266 (fun H hP hS => ?_)
  rw [← e_z162] at hP
  refine W.cs (cells' := z162.1 - z.1) (slots' := sl z.1 z162.1) (by rw [e_z162]; exact ag_c g160) (by rw [e_z162]; exact ag_l g160) ?_
  obtain ⟨g163, h⟩ := gd_s h
  obtain ⟨z164, e_z164, h⟩ := nm_s h
  refine zp_12_63 hx hb hts (inU inW_X12) hown hK hG hP hS (og_s g163).1 (og_s g163).2 (hts _ (List.mem_cons_of_mem _ lw_1497)) hin rfl dX12_init_268 (fun H locs hP hS => ?_)
  rw [← e_z164] at hP
  refine W.cs (cells' := z164.1 - z.1) (slots' := sl z.1 z164.1) (by rw [e_z164]; rfl) (by rw [e_z164]; rfl) ?_
  refine lv_aload_n hx hb dX12_init_271 rfl (lv_at hl 0 rfl) ?_
  refine lv_bipush (v := 6) hx hb dX12_init_272 (by decide) ?_
  obtain ⟨g165, h⟩ := gd_s h
  obtain ⟨g166, h⟩ := gd_s h
  obtain ⟨z167, e_z167, h⟩ := nm_s h
  refine za_14 hx hb (hts _ (List.mem_cons_of_mem _ lw_176)) hK hG hP hS (ag_s g165).1 (eq_of_beq g166) (by decide) rfl (Nat.le_of_ble_eq_true rfl) (ag_s g165).2.2.2.1 (ag_s g165).2.2.2.2 dX12_init_274 (fun H hP hS => ?_)
  rw [← e_z167] at hP
  refine W.cs (cells' := z167.1 - z.1) (slots' := sl z.1 z167.1) (by rw [e_z167]; exact ag_c g165) (by rw [e_z167]; exact ag_l g165) ?_
  obtain ⟨g168, h⟩ := gd_s h
  obtain ⟨z169, e_z169, h⟩ := nm_s h
  refine zp_12_64 hx hb hts (inU inW_X12) hown hK hG hP hS (og_s g168).1 (og_s g168).2 (hts _ (List.mem_cons_of_mem _ lw_1498)) hin rfl dX12_init_276 (fun H locs hP hS => ?_)
  rw [← e_z169] at hP
  refine W.cs (cells' := z169.1 - z.1) (slots' := sl z.1 z169.1) (by rw [e_z169]; rfl) (by rw [e_z169]; rfl) ?_
  refine lv_aload_n hx hb dX12_init_279 rfl (lv_at hl 0 rfl) ?_
  refine lv_bipush (v := 30) hx hb dX12_init_280 (by decide) ?_
  obtain ⟨g170, h⟩ := gd_s h
  obtain ⟨g171, h⟩ := gd_s h
  obtain ⟨z172, e_z172, h⟩ := nm_s h
  refine za_14 hx hb (hts _ (List.mem_cons_of_mem _ lw_176)) hK hG hP hS (ag_s g170).1 (eq_of_beq g171) (by decide) rfl (Nat.le_of_ble_eq_true rfl) (ag_s g170).2.2.2.1 (ag_s g170).2.2.2.2 dX12_init_282 (fun H hP hS => ?_)
  rw [← e_z172] at hP
  refine W.cs (cells' := z172.1 - z.1) (slots' := sl z.1 z172.1) (by rw [e_z172]; exact ag_c g170) (by rw [e_z172]; exact ag_l g170) ?_
  obtain ⟨g173, h⟩ := gd_s h
  obtain ⟨z174, e_z174, h⟩ := nm_s h
  refine zp_12_66 hx hb hts (inU inW_X12) hown hK hG hP hS (og_s g173).1 (og_s g173).2 (hts _ (List.mem_cons_of_mem _ lw_1500)) hin rfl dX12_init_284 (fun H locs hP hS => ?_)
  rw [← e_z174] at hP
  refine W.cs (cells' := z174.1 - z.1) (slots' := sl z.1 z174.1) (by rw [e_z174]; rfl) (by rw [e_z174]; rfl) ?_
  refine lv_aload_n hx hb dX12_init_287 rfl (lv_at hl 0 rfl) ?_
  refine lv_bipush (v := 30) hx hb dX12_init_288 (by decide) ?_
  obtain ⟨g175, h⟩ := gd_s h
  obtain ⟨g176, h⟩ := gd_s h
  obtain ⟨z177, e_z177, h⟩ := nm_s h
  refine za_14 hx hb (hts _ (List.mem_cons_of_mem _ lw_176)) hK hG hP hS (ag_s g175).1 (eq_of_beq g176) (by decide) rfl (Nat.le_of_ble_eq_true rfl) (ag_s g175).2.2.2.1 (ag_s g175).2.2.2.2 dX12_init_290 (fun H hP hS => ?_)
  rw [← e_z177] at hP
  refine W.cs (cells' := z177.1 - z.1) (slots' := sl z.1 z177.1) (by rw [e_z177]; exact ag_c g175) (by rw [e_z177]; exact ag_l g175) ?_
  obtain ⟨g178, h⟩ := gd_s h
  obtain ⟨z179, e_z179, h⟩ := nm_s h
  refine zp_12_67 hx hb hts (inU inW_X12) hown hK hG hP hS (og_s g178).1 (og_s g178).2 (hts _ (List.mem_cons_of_mem _ lw_1501)) hin rfl dX12_init_292 (fun H locs hP hS => ?_)
  rw [← e_z179] at hP
  refine W.cs (cells' := z179.1 - z.1) (slots' := sl z.1 z179.1) (by rw [e_z179]; rfl) (by rw [e_z179]; rfl) ?_
  refine lv_aload_n hx hb dX12_init_295 rfl (lv_at hl 0 rfl) ?_
  refine lv_bipush (v := 30) hx hb dX12_init_296 (by decide) ?_
  obtain ⟨g180, h⟩ := gd_s h
  obtain ⟨g181, h⟩ := gd_s h
  obtain ⟨z182, e_z182, h⟩ := nm_s h
  refine za_14 hx hb (hts _ (List.mem_cons_of_mem _ lw_176)) hK hG hP hS (ag_s g180).1 (eq_of_beq g181) (by decide) rfl (Nat.le_of_ble_eq_true rfl) (ag_s g180).2.2.2.1 (ag_s g180).2.2.2.2 dX12_init_298 (fun H hP hS => ?_)
  rw [← e_z182] at hP
  refine W.cs (cells' := z182.1 - z.1) (slots' := sl z.1 z182.1) (by rw [e_z182]; exact ag_c g180) (by rw [e_z182]; exact ag_l g180) ?_
  obtain ⟨g183, h⟩ := gd_s h
  obtain ⟨z184, e_z184, h⟩ := nm_s h
  refine zp_12_68 hx hb hts (inU inW_X12) hown hK hG hP hS (og_s g183).1 (og_s g183).2 (hts _ (List.mem_cons_of_mem _ lw_1502)) hin rfl dX12_init_300 (fun H locs hP hS => ?_)
  rw [← e_z184] at hP
  refine W.cs (cells' := z184.1 - z.1) (slots' := sl z.1 z184.1) (by rw [e_z184]; rfl) (by rw [e_z184]; rfl) ?_
  refine lv_aload_n hx hb dX12_init_303 rfl (lv_at hl 0 rfl) ?_
  refine lv_bipush (v := 30) hx hb dX12_init_304 (by decide) ?_
  obtain ⟨g185, h⟩ := gd_s h
  obtain ⟨g186, h⟩ := gd_s h
  obtain ⟨z187, e_z187, h⟩ := nm_s h
  refine za_14 hx hb (hts _ (List.mem_cons_of_mem _ lw_176)) hK hG hP hS (ag_s g185).1 (eq_of_beq g186) (by decide) rfl (Nat.le_of_ble_eq_true rfl) (ag_s g185).2.2.2.1 (ag_s g185).2.2.2.2 dX12_init_306 (fun H hP hS => ?_)
  rw [← e_z187] at hP
  refine W.cs (cells' := z187.1 - z.1) (slots' := sl z.1 z187.1) (by rw [e_z187]; exact ag_c g185) (by rw [e_z187]; exact ag_l g185) ?_
  obtain ⟨g188, h⟩ := gd_s h
  obtain ⟨z189, e_z189, h⟩ := nm_s h
  refine zp_12_69 hx hb hts (inU inW_X12) hown hK hG hP hS (og_s g188).1 (og_s g188).2 (hts _ (List.mem_cons_of_mem _ lw_1503)) hin rfl dX12_init_308 (fun H locs hP hS => ?_)
  rw [← e_z189] at hP
  refine W.cs (cells' := z189.1 - z.1) (slots' := sl z.1 z189.1) (by rw [e_z189]; rfl) (by rw [e_z189]; rfl) ?_
  refine lv_aload_n hx hb dX12_init_311 rfl (lv_at hl 0 rfl) ?_
  refine lv_bipush (v := 30) hx hb dX12_init_312 (by decide) ?_
  obtain ⟨g190, h⟩ := gd_s h
  obtain ⟨g191, h⟩ := gd_s h
  obtain ⟨z192, e_z192, h⟩ := nm_s h
  refine za_16 hx hb (hts _ (List.mem_cons_of_mem _ lw_702)) hK hG hP hS (ag_s g190).1 (eq_of_beq g191) (by decide) rfl (Nat.le_of_ble_eq_true rfl) (ag_s g190).2.2.2.1 (ag_s g190).2.2.2.2 dX12_init_314 (fun H hP hS => ?_)
  rw [← e_z192] at hP
  refine W.cs (cells' := z192.1 - z.1) (slots' := sl z.1 z192.1) (by rw [e_z192]; exact ag_c g190) (by rw [e_z192]; exact ag_l g190) ?_
  obtain ⟨g193, h⟩ := gd_s h
  obtain ⟨z194, e_z194, h⟩ := nm_s h
  refine zp_12_70 hx hb hts (inU inW_X12) hown hK hG hP hS (og_s g193).1 (og_s g193).2 (hts _ (List.mem_cons_of_mem _ lw_1504)) hin rfl dX12_init_316 (fun H locs hP hS => ?_)
  rw [← e_z194] at hP
  refine W.cs (cells' := z194.1 - z.1) (slots' := sl z.1 z194.1) (by rw [e_z194]; rfl) (by rw [e_z194]; rfl) ?_
  refine lv_aload_n hx hb dX12_init_319 rfl (lv_at hl 0 rfl) ?_
  refine lv_iconst (v := 3) hx hb dX12_init_320 (by decide) ?_
  obtain ⟨g195, h⟩ := gd_s h
  obtain ⟨g196, h⟩ := gd_s h
  obtain ⟨z197, e_z197, h⟩ := nm_s h
  refine za_16 hx hb (hts _ (List.mem_cons_of_mem _ lw_702)) hK hG hP hS (ag_s g195).1 (eq_of_beq g196) (by decide) rfl (Nat.le_of_ble_eq_true rfl) (ag_s g195).2.2.2.1 (ag_s g195).2.2.2.2 dX12_init_321 (fun H hP hS => ?_)
  rw [← e_z197] at hP
  refine W.cs (cells' := z197.1 - z.1) (slots' := sl z.1 z197.1) (by rw [e_z197]; exact ag_c g195) (by rw [e_z197]; exact ag_l g195) ?_
  obtain ⟨g198, h⟩ := gd_s h
  obtain ⟨z199, e_z199, h⟩ := nm_s h
  refine zp_12_73 hx hb hts (inU inW_X12) hown hK hG hP hS (og_s g198).1 (og_s g198).2 (hts _ (List.mem_cons_of_mem _ lw_1507)) hin rfl dX12_init_323 (fun H locs hP hS => ?_)
  rw [← e_z199] at hP
  refine W.cs (cells' := z199.1 - z.1) (slots' := sl z.1 z199.1) (by rw [e_z199]; rfl) (by rw [e_z199]; rfl) ?_
  refine lv_aload_n hx hb dX12_init_326 rfl (lv_at hl 0 rfl) ?_
  refine lv_sipush (v := 513) hx hb dX12_init_327 (by decide) ?_
  obtain ⟨g200, h⟩ := gd_s h
  obtain ⟨g201, h⟩ := gd_s h
  obtain ⟨z202, e_z202, h⟩ := nm_s h
  refine za_14 hx hb (hts _ (List.mem_cons_of_mem _ lw_176)) hK hG hP hS (ag_s g200).1 (eq_of_beq g201) (by decide) rfl (Nat.le_of_ble_eq_true rfl) (ag_s g200).2.2.2.1 (ag_s g200).2.2.2.2 dX12_init_330 (fun H hP hS => ?_)
  rw [← e_z202] at hP
  refine W.cs (cells' := z202.1 - z.1) (slots' := sl z.1 z202.1) (by rw [e_z202]; exact ag_c g200) (by rw [e_z202]; exact ag_l g200) ?_
  obtain ⟨g203, h⟩ := gd_s h
  obtain ⟨z204, e_z204, h⟩ := nm_s h
  refine zp_12_74 hx hb hts (inU inW_X12) hown hK hG hP hS (og_s g203).1 (og_s g203).2 (hts _ (List.mem_cons_of_mem _ lw_1508)) hin rfl dX12_init_332 (fun H locs hP hS => ?_)
  rw [← e_z204] at hP
  refine W.cs (cells' := z204.1 - z.1) (slots' := sl z.1 z204.1) (by rw [e_z204]; rfl) (by rw [e_z204]; rfl) ?_
  obtain ⟨g205, h⟩ := gd_s h
  exact x_cvret hx hb hr hlocks ⟨hK, hAO⟩ hP hS h (rg_s g205).1 (rg_s g205).2 dX12_init_335
