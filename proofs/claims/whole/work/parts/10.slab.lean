def fn_X9_layWhole (p0 : Nat) (v1 : Int32) (v2 : Int32) (v3 : Int32) (z : St) : Option (St) := nm (sI z p0 0 v1) (fun z1 => nm (sI z1 p0 1 0) (fun z2 => nm (sI z2 p0 2 0) (fun z3 => nm (sI z3 p0 3 v2) (fun z4 => nm (sI z4 p0 4 v3) (fun z5 => nm (sI z5 p0 5 0) (fun z6 => nm (sI z6 p0 6 (-1)) (fun z7 => some z7)))))))
set_option maxHeartbeats 4000000 in
set_option maxRecDepth 100000 in
theorem m_X9_layWhole {l : Launch} {G : wG} (hG : Ok G) {p0 : Nat} {v1 : Int32} {v2 : Int32} {v3 : Int32} {z : St} {Rz : St} (hk0 : kd p0 = 9) (h : fn_X9_layWhole  p0 v1 v2 v3 z = some Rz) : Met l yX9_layWhole (wsU yX9_layWhole cX9_layWhole 4 none) (rmd 1) (va_Pc [.ref (G.2.2 p0), .int v1, .int v2, .int v3] (Pre G z)) (va_Qv (fun u => u = Rz) (Pre G) (AW G)) 0 0 (AW G) := by
  refine Met.ofW (cc := cX9_layWhole) (maxL := 4) (ret := none) (by decide) rfl ?_
  intro p e s m args below meth c s₁ B hml hv
  obtain ⟨rfl, hP, hK⟩ := hv
  have C : CX p s m ([.ref (G.2.2 p0), .int v1, .int v2, .int v3] : List Value).toArray meth c cX9_layWhole 4 (wsU yX9_layWhole cX9_layWhole 4 none) RX9 none G := ⟨B.exec, B.bytes, hml, findClass_of_methodNamed B.named, atoms_spec (ws := (wsU yX9_layWhole cX9_layWhole 4 none)) B.pre, B.returns, B.notSynchronized, hK, hG⟩
  obtain ⟨hx, hb, -, hown, hts, hr, hlocks, -, -⟩ := id C
  have hS : va_S (AW G) s.heap s.heap [] := va_S.rf
  have hl := lv_entry [.ref (G.2.2 p0), .int v1, .int v2, .int v3] (n := 4) (Nat.le_of_ble_eq_true rfl)
  rw [lg_entry_eq]
  generalize (lg_sl [.ref (G.2.2 p0), .int v1, .int v2, .int v3] ++ List.replicate (4 - (lg_sl [.ref (G.2.2 p0), .int v1, .int v2, .int v3]).length) Slot.unset).toArray = ls at hl ⊢
  have hl : lv_has ls 4 [(0, .ref (G.2.2 p0)), (1, .int v1), (2, .int v2), (3, .int v3)] := hl
  unfold fn_X9_layWhole at h
  refine lv_aload_n hx hb dX9_layWhole_0 rfl (lv_at hl 0 rfl) ?_
  refine lv_iload_n hx hb dX9_layWhole_1 rfl (lv_at hl 1 rfl) ?_
  obtain ⟨z1, e_z1, h⟩ := nm_s h
  refine pu_9_0 hx hb hts (inU inW_X9) hown hK hG hP hS hk0 (hts _ (List.mem_cons_of_mem _ lw_375)) dX9_layWhole_2 (fun H locs hP hS => ?_)
  rw [← e_z1] at hP
  refine lv_aload_n hx hb dX9_layWhole_5 rfl (lv_at hl 0 rfl) ?_
  refine lv_iconst (v := 0) hx hb dX9_layWhole_6 (by decide) ?_
  obtain ⟨z2, e_z2, h⟩ := nm_s h
  refine pu_9_1 hx hb hts (inU inW_X9) hown hK hG hP hS hk0 (hts _ (List.mem_cons_of_mem _ lw_378)) dX9_layWhole_7 (fun H locs hP hS => ?_)
  rw [← e_z2] at hP
  refine lv_aload_n hx hb dX9_layWhole_10 rfl (lv_at hl 0 rfl) ?_
  refine lv_iconst (v := 0) hx hb dX9_layWhole_11 (by decide) ?_
  obtain ⟨z3, e_z3, h⟩ := nm_s h
  refine pu_9_2 hx hb hts (inU inW_X9) hown hK hG hP hS hk0 (hts _ (List.mem_cons_of_mem _ lw_381)) dX9_layWhole_12 (fun H locs hP hS => ?_)
  rw [← e_z3] at hP
  refine lv_aload_n hx hb dX9_layWhole_15 rfl (lv_at hl 0 rfl) ?_
  refine lv_iload_n hx hb dX9_layWhole_16 rfl (lv_at hl 2 rfl) ?_
  obtain ⟨z4, e_z4, h⟩ := nm_s h
  refine pu_9_3 hx hb hts (inU inW_X9) hown hK hG hP hS hk0 (hts _ (List.mem_cons_of_mem _ lw_384)) dX9_layWhole_17 (fun H locs hP hS => ?_)
  rw [← e_z4] at hP
  refine lv_aload_n hx hb dX9_layWhole_20 rfl (lv_at hl 0 rfl) ?_
  refine lv_iload_n hx hb dX9_layWhole_21 rfl (lv_at hl 3 rfl) ?_
  obtain ⟨z5, e_z5, h⟩ := nm_s h
  refine pu_9_4 hx hb hts (inU inW_X9) hown hK hG hP hS hk0 (hts _ (List.mem_cons_of_mem _ lw_387)) dX9_layWhole_22 (fun H locs hP hS => ?_)
  rw [← e_z5] at hP
  refine lv_aload_n hx hb dX9_layWhole_25 rfl (lv_at hl 0 rfl) ?_
  refine lv_iconst (v := 0) hx hb dX9_layWhole_26 (by decide) ?_
  obtain ⟨z6, e_z6, h⟩ := nm_s h
  refine pu_9_5 hx hb hts (inU inW_X9) hown hK hG hP hS hk0 (hts _ (List.mem_cons_of_mem _ lw_390)) rfl dX9_layWhole_27 (fun H locs hP hS => ?_)
  rw [← e_z6] at hP
  refine lv_aload_n hx hb dX9_layWhole_30 rfl (lv_at hl 0 rfl) ?_
  refine lv_iconst (v := (-1)) hx hb dX9_layWhole_31 (by decide) ?_
  obtain ⟨z7, e_z7, h⟩ := nm_s h
  refine pu_9_6 hx hb hts (inU inW_X9) hown hK hG hP hS hk0 (hts _ (List.mem_cons_of_mem _ lw_394)) dX9_layWhole_32 (fun H locs hP hS => ?_)
  rw [← e_z7] at hP
  exact x_vret hx hb hr hlocks hK hP hS h dX9_layWhole_35
def fn_X9_takeFrom (p0 : Nat) (p1 : Nat) (z : St) : Option (St) := nm (sI z p0 0 (z.1 p1 0)) (fun z1 => nm (sI z1 p0 1 (z1.1 p1 1)) (fun z2 => nm (sI z2 p0 2 (z2.1 p1 2)) (fun z3 => nm (sI z3 p0 3 (z3.1 p1 3)) (fun z4 => nm (sI z4 p0 4 (z4.1 p1 4)) (fun z5 => gd (zok (z5.1 p1 5)) (nm (sI z5 p0 5 (z5.1 p1 5)) (fun z7 => nm (sI z7 p0 6 (z7.1 p1 6)) (fun z8 => some z8))))))))
set_option maxHeartbeats 4000000 in
set_option maxRecDepth 100000 in
theorem m_X9_takeFrom {l : Launch} {G : wG} (hG : Ok G) {p0 : Nat} {p1 : Nat} {z : St} {Rz : St} (hk0 : kd p0 = 9) (hk1 : kd p1 = 9) (h : fn_X9_takeFrom  p0 p1 z = some Rz) : Met l yX9_takeFrom (wsU yX9_takeFrom cX9_takeFrom 2 none) (rmd 1) (va_Pc [.ref (G.2.2 p0), .ref (G.2.2 p1)] (Pre G z)) (va_Qv (fun u => u = Rz) (Pre G) (AW G)) 0 0 (AW G) := by
  refine Met.ofW (cc := cX9_takeFrom) (maxL := 2) (ret := none) (by decide) rfl ?_
  intro p e s m args below meth c s₁ B hml hv
  obtain ⟨rfl, hP, hK⟩ := hv
  have C : CX p s m ([.ref (G.2.2 p0), .ref (G.2.2 p1)] : List Value).toArray meth c cX9_takeFrom 2 (wsU yX9_takeFrom cX9_takeFrom 2 none) RX9 none G := ⟨B.exec, B.bytes, hml, findClass_of_methodNamed B.named, atoms_spec (ws := (wsU yX9_takeFrom cX9_takeFrom 2 none)) B.pre, B.returns, B.notSynchronized, hK, hG⟩
  obtain ⟨hx, hb, -, hown, hts, hr, hlocks, -, -⟩ := id C
  have hS : va_S (AW G) s.heap s.heap [] := va_S.rf
  have hl := lv_entry [.ref (G.2.2 p0), .ref (G.2.2 p1)] (n := 2) (Nat.le_of_ble_eq_true rfl)
  rw [lg_entry_eq]
  generalize (lg_sl [.ref (G.2.2 p0), .ref (G.2.2 p1)] ++ List.replicate (2 - (lg_sl [.ref (G.2.2 p0), .ref (G.2.2 p1)]).length) Slot.unset).toArray = ls at hl ⊢
  have hl : lv_has ls 2 [(0, .ref (G.2.2 p0)), (1, .ref (G.2.2 p1))] := hl
  unfold fn_X9_takeFrom at h
  refine lv_aload_n hx hb dX9_takeFrom_0 rfl (lv_at hl 0 rfl) ?_
  refine lv_aload_n hx hb dX9_takeFrom_1 rfl (lv_at hl 1 rfl) ?_
  refine ge_9_0 hx hb hts (inU inW_X9) hown hK hP hk1 (hts _ (List.mem_cons_of_mem _ lw_375)) dX9_takeFrom_2 ?_
  obtain ⟨z1, e_z1, h⟩ := nm_s h
  refine pu_9_0 hx hb hts (inU inW_X9) hown hK hG hP hS hk0 (hts _ (List.mem_cons_of_mem _ lw_375)) dX9_takeFrom_5 (fun H locs hP hS => ?_)
  rw [← e_z1] at hP
  refine lv_aload_n hx hb dX9_takeFrom_8 rfl (lv_at hl 0 rfl) ?_
  refine lv_aload_n hx hb dX9_takeFrom_9 rfl (lv_at hl 1 rfl) ?_
  refine ge_9_1 hx hb hts (inU inW_X9) hown hK hP hk1 (hts _ (List.mem_cons_of_mem _ lw_378)) dX9_takeFrom_10 ?_
  obtain ⟨z2, e_z2, h⟩ := nm_s h
  refine pu_9_1 hx hb hts (inU inW_X9) hown hK hG hP hS hk0 (hts _ (List.mem_cons_of_mem _ lw_378)) dX9_takeFrom_13 (fun H locs hP hS => ?_)
  rw [← e_z2] at hP
  refine lv_aload_n hx hb dX9_takeFrom_16 rfl (lv_at hl 0 rfl) ?_
  refine lv_aload_n hx hb dX9_takeFrom_17 rfl (lv_at hl 1 rfl) ?_
  refine ge_9_2 hx hb hts (inU inW_X9) hown hK hP hk1 (hts _ (List.mem_cons_of_mem _ lw_381)) dX9_takeFrom_18 ?_
  obtain ⟨z3, e_z3, h⟩ := nm_s h
  refine pu_9_2 hx hb hts (inU inW_X9) hown hK hG hP hS hk0 (hts _ (List.mem_cons_of_mem _ lw_381)) dX9_takeFrom_21 (fun H locs hP hS => ?_)
  rw [← e_z3] at hP
  refine lv_aload_n hx hb dX9_takeFrom_24 rfl (lv_at hl 0 rfl) ?_
  refine lv_aload_n hx hb dX9_takeFrom_25 rfl (lv_at hl 1 rfl) ?_
  refine ge_9_3 hx hb hts (inU inW_X9) hown hK hP hk1 (hts _ (List.mem_cons_of_mem _ lw_384)) dX9_takeFrom_26 ?_
  obtain ⟨z4, e_z4, h⟩ := nm_s h
  refine pu_9_3 hx hb hts (inU inW_X9) hown hK hG hP hS hk0 (hts _ (List.mem_cons_of_mem _ lw_384)) dX9_takeFrom_29 (fun H locs hP hS => ?_)
  rw [← e_z4] at hP
  refine lv_aload_n hx hb dX9_takeFrom_32 rfl (lv_at hl 0 rfl) ?_
  refine lv_aload_n hx hb dX9_takeFrom_33 rfl (lv_at hl 1 rfl) ?_
  refine ge_9_4 hx hb hts (inU inW_X9) hown hK hP hk1 (hts _ (List.mem_cons_of_mem _ lw_387)) dX9_takeFrom_34 ?_
  obtain ⟨z5, e_z5, h⟩ := nm_s h
  refine pu_9_4 hx hb hts (inU inW_X9) hown hK hG hP hS hk0 (hts _ (List.mem_cons_of_mem _ lw_387)) dX9_takeFrom_37 (fun H locs hP hS => ?_)
  rw [← e_z5] at hP
  refine lv_aload_n hx hb dX9_takeFrom_40 rfl (lv_at hl 0 rfl) ?_
  refine lv_aload_n hx hb dX9_takeFrom_41 rfl (lv_at hl 1 rfl) ?_
  refine ge_9_5 hx hb hts (inU inW_X9) hown hK hP hk1 (hts _ (List.mem_cons_of_mem _ lw_390)) dX9_takeFrom_42 ?_
  obtain ⟨g6, h⟩ := gd_s h
  obtain ⟨z7, e_z7, h⟩ := nm_s h
  refine pu_9_5 hx hb hts (inU inW_X9) hown hK hG hP hS hk0 (hts _ (List.mem_cons_of_mem _ lw_390)) g6 dX9_takeFrom_45 (fun H locs hP hS => ?_)
  rw [← e_z7] at hP
  refine lv_aload_n hx hb dX9_takeFrom_48 rfl (lv_at hl 0 rfl) ?_
  refine lv_aload_n hx hb dX9_takeFrom_49 rfl (lv_at hl 1 rfl) ?_
  refine ge_9_6 hx hb hts (inU inW_X9) hown hK hP hk1 (hts _ (List.mem_cons_of_mem _ lw_394)) dX9_takeFrom_50 ?_
  obtain ⟨z8, e_z8, h⟩ := nm_s h
  refine pu_9_6 hx hb hts (inU inW_X9) hown hK hG hP hS hk0 (hts _ (List.mem_cons_of_mem _ lw_394)) dX9_takeFrom_53 (fun H locs hP hS => ?_)
  rw [← e_z8] at hP
  exact x_vret hx hb hr hlocks hK hP hS h dX9_takeFrom_56
def fn_X9_extent (p0 : Nat) (v1 : Int32) (z : St) : Option (Int32 × St) := (if v1 = 0 then some ((z.1 p0 3), z) else some ((z.1 p0 4), z))
set_option maxHeartbeats 4000000 in
set_option maxRecDepth 100000 in
theorem m_X9_extent {l : Launch} {G : wG} (hG : Ok G) {p0 : Nat} {v1 : Int32} {z : St} {Rz : Int32 × St} (hk0 : kd p0 = 9) (h : fn_X9_extent  p0 v1 z = some Rz) : Met l yX9_extent (wsU yX9_extent cX9_extent 2 (some .int)) (rmd 1) (va_Pc [.ref (G.2.2 p0), .int v1] (Pre G z)) (va_Qi (fun r u => (r, u) = Rz) (Pre G) (AW G)) 0 0 (AW G) := by
  refine Met.ofW (cc := cX9_extent) (maxL := 2) (ret := (some .int)) (by decide) rfl ?_
  intro p e s m args below meth c s₁ B hml hv
  obtain ⟨rfl, hP, hK⟩ := hv
  have C : CX p s m ([.ref (G.2.2 p0), .int v1] : List Value).toArray meth c cX9_extent 2 (wsU yX9_extent cX9_extent 2 (some .int)) RX9 (some .int) G := ⟨B.exec, B.bytes, hml, findClass_of_methodNamed B.named, atoms_spec (ws := (wsU yX9_extent cX9_extent 2 (some .int))) B.pre, B.returns, B.notSynchronized, hK, hG⟩
  obtain ⟨hx, hb, -, hown, hts, hr, hlocks, -, -⟩ := id C
  have hS : va_S (AW G) s.heap s.heap [] := va_S.rf
  have hl := lv_entry [.ref (G.2.2 p0), .int v1] (n := 2) (Nat.le_of_ble_eq_true rfl)
  rw [lg_entry_eq]
  generalize (lg_sl [.ref (G.2.2 p0), .int v1] ++ List.replicate (2 - (lg_sl [.ref (G.2.2 p0), .int v1]).length) Slot.unset).toArray = ls at hl ⊢
  have hl : lv_has ls 2 [(0, .ref (G.2.2 p0)), (1, .int v1)] := hl
  unfold fn_X9_extent at h
  refine lv_iload_n hx hb dX9_extent_0 rfl (lv_at hl 1 rfl) ?_
  refine lv_if_ne (tgt := 11) hx hb dX9_extent_1 (by decide) (fun c1 => ?_) (fun c1 => ?_)
  · rw [if_neg c1] at h
    refine lv_aload_n hx hb dX9_extent_11 rfl (lv_at hl 0 rfl) ?_
    refine ge_9_4 hx hb hts (inU inW_X9) hown hK hP hk0 (hts _ (List.mem_cons_of_mem _ lw_387)) dX9_extent_12 ?_
    exact x_iret hx hb hr hlocks hK hP hS h dX9_extent_15
  · rw [if_pos c1] at h
    refine lv_aload_n hx hb dX9_extent_4 rfl (lv_at hl 0 rfl) ?_
    refine ge_9_3 hx hb hts (inU inW_X9) hown hK hP hk0 (hts _ (List.mem_cons_of_mem _ lw_384)) dX9_extent_5 ?_
    refine lv_goto (tgt := 15) hx hb dX9_extent_8 (by decide) ?_
    exact x_iret hx hb hr hlocks hK hP hS h dX9_extent_15
def fn_X9_along (p0 : Nat) (v1 : Int32) (z : St) : Option (Int32 × St) := (if v1 = 0 then some ((z.1 p0 4), z) else some ((z.1 p0 3), z))
set_option maxHeartbeats 4000000 in
set_option maxRecDepth 100000 in
theorem m_X9_along {l : Launch} {G : wG} (hG : Ok G) {p0 : Nat} {v1 : Int32} {z : St} {Rz : Int32 × St} (hk0 : kd p0 = 9) (h : fn_X9_along  p0 v1 z = some Rz) : Met l yX9_along (wsU yX9_along cX9_along 2 (some .int)) (rmd 1) (va_Pc [.ref (G.2.2 p0), .int v1] (Pre G z)) (va_Qi (fun r u => (r, u) = Rz) (Pre G) (AW G)) 0 0 (AW G) := by
  refine Met.ofW (cc := cX9_along) (maxL := 2) (ret := (some .int)) (by decide) rfl ?_
  intro p e s m args below meth c s₁ B hml hv
  obtain ⟨rfl, hP, hK⟩ := hv
  have C : CX p s m ([.ref (G.2.2 p0), .int v1] : List Value).toArray meth c cX9_along 2 (wsU yX9_along cX9_along 2 (some .int)) RX9 (some .int) G := ⟨B.exec, B.bytes, hml, findClass_of_methodNamed B.named, atoms_spec (ws := (wsU yX9_along cX9_along 2 (some .int))) B.pre, B.returns, B.notSynchronized, hK, hG⟩
  obtain ⟨hx, hb, -, hown, hts, hr, hlocks, -, -⟩ := id C
  have hS : va_S (AW G) s.heap s.heap [] := va_S.rf
  have hl := lv_entry [.ref (G.2.2 p0), .int v1] (n := 2) (Nat.le_of_ble_eq_true rfl)
  rw [lg_entry_eq]
  generalize (lg_sl [.ref (G.2.2 p0), .int v1] ++ List.replicate (2 - (lg_sl [.ref (G.2.2 p0), .int v1]).length) Slot.unset).toArray = ls at hl ⊢
  have hl : lv_has ls 2 [(0, .ref (G.2.2 p0)), (1, .int v1)] := hl
  unfold fn_X9_along at h
  refine lv_iload_n hx hb dX9_along_0 rfl (lv_at hl 1 rfl) ?_
  refine lv_if_ne (tgt := 11) hx hb dX9_along_1 (by decide) (fun c1 => ?_) (fun c1 => ?_)
  · rw [if_neg c1] at h
    refine lv_aload_n hx hb dX9_along_11 rfl (lv_at hl 0 rfl) ?_
    refine ge_9_3 hx hb hts (inU inW_X9) hown hK hP hk0 (hts _ (List.mem_cons_of_mem _ lw_384)) dX9_along_12 ?_
    exact x_iret hx hb hr hlocks hK hP hS h dX9_along_15
  · rw [if_pos c1] at h
    refine lv_aload_n hx hb dX9_along_4 rfl (lv_at hl 0 rfl) ?_
    refine ge_9_4 hx hb hts (inU inW_X9) hown hK hP hk0 (hts _ (List.mem_cons_of_mem _ lw_387)) dX9_along_5 ?_
    refine lv_goto (tgt := 15) hx hb dX9_along_8 (by decide) ?_
    exact x_iret hx hb hr hlocks hK hP hS h dX9_along_15
def fn_X9_keepAhead (p0 : Nat) (v1 : Int32) (v2 : Int32) (z : St) : Option (St) := (if v1 = 0 then nm (sI z p0 3 v2) (fun z3 => some z3) else nm (sI z p0 4 v2) (fun z2 => some z2))
set_option maxHeartbeats 4000000 in
set_option maxRecDepth 100000 in
theorem m_X9_keepAhead {l : Launch} {G : wG} (hG : Ok G) {p0 : Nat} {v1 : Int32} {v2 : Int32} {z : St} {Rz : St} (hk0 : kd p0 = 9) (h : fn_X9_keepAhead  p0 v1 v2 z = some Rz) : Met l yX9_keepAhead (wsU yX9_keepAhead cX9_keepAhead 3 none) (rmd 1) (va_Pc [.ref (G.2.2 p0), .int v1, .int v2] (Pre G z)) (va_Qv (fun u => u = Rz) (Pre G) (AW G)) 0 0 (AW G) := by
  refine Met.ofW (cc := cX9_keepAhead) (maxL := 3) (ret := none) (by decide) rfl ?_
  intro p e s m args below meth c s₁ B hml hv
  obtain ⟨rfl, hP, hK⟩ := hv
  have C : CX p s m ([.ref (G.2.2 p0), .int v1, .int v2] : List Value).toArray meth c cX9_keepAhead 3 (wsU yX9_keepAhead cX9_keepAhead 3 none) RX9 none G := ⟨B.exec, B.bytes, hml, findClass_of_methodNamed B.named, atoms_spec (ws := (wsU yX9_keepAhead cX9_keepAhead 3 none)) B.pre, B.returns, B.notSynchronized, hK, hG⟩
  obtain ⟨hx, hb, -, hown, hts, hr, hlocks, -, -⟩ := id C
  have hS : va_S (AW G) s.heap s.heap [] := va_S.rf
  have hl := lv_entry [.ref (G.2.2 p0), .int v1, .int v2] (n := 3) (Nat.le_of_ble_eq_true rfl)
  rw [lg_entry_eq]
  generalize (lg_sl [.ref (G.2.2 p0), .int v1, .int v2] ++ List.replicate (3 - (lg_sl [.ref (G.2.2 p0), .int v1, .int v2]).length) Slot.unset).toArray = ls at hl ⊢
  have hl : lv_has ls 3 [(0, .ref (G.2.2 p0)), (1, .int v1), (2, .int v2)] := hl
  unfold fn_X9_keepAhead at h
  refine lv_iload_n hx hb dX9_keepAhead_0 rfl (lv_at hl 1 rfl) ?_
  refine lv_if_ne (tgt := 12) hx hb dX9_keepAhead_1 (by decide) (fun c1 => ?_) (fun c1 => ?_)
  · rw [if_neg c1] at h
    refine lv_aload_n hx hb dX9_keepAhead_12 rfl (lv_at hl 0 rfl) ?_
    refine lv_iload_n hx hb dX9_keepAhead_13 rfl (lv_at hl 2 rfl) ?_
    obtain ⟨z2, e_z2, h⟩ := nm_s h
    refine pu_9_4 hx hb hts (inU inW_X9) hown hK hG hP hS hk0 (hts _ (List.mem_cons_of_mem _ lw_387)) dX9_keepAhead_14 (fun H locs hP hS => ?_)
    rw [← e_z2] at hP
    exact x_vret hx hb hr hlocks hK hP hS h dX9_keepAhead_17
  · rw [if_pos c1] at h
    refine lv_aload_n hx hb dX9_keepAhead_4 rfl (lv_at hl 0 rfl) ?_
    refine lv_iload_n hx hb dX9_keepAhead_5 rfl (lv_at hl 2 rfl) ?_
    obtain ⟨z3, e_z3, h⟩ := nm_s h
    refine pu_9_3 hx hb hts (inU inW_X9) hown hK hG hP hS hk0 (hts _ (List.mem_cons_of_mem _ lw_384)) dX9_keepAhead_6 (fun H locs hP hS => ?_)
    rw [← e_z3] at hP
    refine lv_goto (tgt := 17) hx hb dX9_keepAhead_9 (by decide) ?_
    exact x_vret hx hb hr hlocks hK hP hS h dX9_keepAhead_17
def fn_X9_keepBehind (p0 : Nat) (v1 : Int32) (v2 : Int32) (z : St) : Option (St) := (if v1 = 0 then nm (sI z p0 1 ((z.1 p0 1) + v2)) (fun z4 => nm (sI z4 p0 3 ((z4.1 p0 3) - v2)) (fun z5 => some z5)) else nm (sI z p0 2 ((z.1 p0 2) + v2)) (fun z2 => nm (sI z2 p0 4 ((z2.1 p0 4) - v2)) (fun z3 => some z3)))
set_option maxHeartbeats 4000000 in
set_option maxRecDepth 100000 in
theorem m_X9_keepBehind {l : Launch} {G : wG} (hG : Ok G) {p0 : Nat} {v1 : Int32} {v2 : Int32} {z : St} {Rz : St} (hk0 : kd p0 = 9) (h : fn_X9_keepBehind  p0 v1 v2 z = some Rz) : Met l yX9_keepBehind (wsU yX9_keepBehind cX9_keepBehind 3 none) (rmd 1) (va_Pc [.ref (G.2.2 p0), .int v1, .int v2] (Pre G z)) (va_Qv (fun u => u = Rz) (Pre G) (AW G)) 0 0 (AW G) := by
  refine Met.ofW (cc := cX9_keepBehind) (maxL := 3) (ret := none) (by decide) rfl ?_
  intro p e s m args below meth c s₁ B hml hv
  obtain ⟨rfl, hP, hK⟩ := hv
  have C : CX p s m ([.ref (G.2.2 p0), .int v1, .int v2] : List Value).toArray meth c cX9_keepBehind 3 (wsU yX9_keepBehind cX9_keepBehind 3 none) RX9 none G := ⟨B.exec, B.bytes, hml, findClass_of_methodNamed B.named, atoms_spec (ws := (wsU yX9_keepBehind cX9_keepBehind 3 none)) B.pre, B.returns, B.notSynchronized, hK, hG⟩
  obtain ⟨hx, hb, -, hown, hts, hr, hlocks, -, -⟩ := id C
  have hS : va_S (AW G) s.heap s.heap [] := va_S.rf
  have hl := lv_entry [.ref (G.2.2 p0), .int v1, .int v2] (n := 3) (Nat.le_of_ble_eq_true rfl)
  rw [lg_entry_eq]
  generalize (lg_sl [.ref (G.2.2 p0), .int v1, .int v2] ++ List.replicate (3 - (lg_sl [.ref (G.2.2 p0), .int v1, .int v2]).length) Slot.unset).toArray = ls at hl ⊢
  have hl : lv_has ls 3 [(0, .ref (G.2.2 p0)), (1, .int v1), (2, .int v2)] := hl
  unfold fn_X9_keepBehind at h
  refine lv_iload_n hx hb dX9_keepBehind_0 rfl (lv_at hl 1 rfl) ?_
  refine lv_if_ne (tgt := 27) hx hb dX9_keepBehind_1 (by decide) (fun c1 => ?_) (fun c1 => ?_)
  · rw [if_neg c1] at h
    refine lv_aload_n hx hb dX9_keepBehind_27 rfl (lv_at hl 0 rfl) ?_
    refine lv_dup hx hb dX9_keepBehind_28 rfl ?_
    refine ge_9_2 hx hb hts (inU inW_X9) hown hK hP hk0 (hts _ (List.mem_cons_of_mem _ lw_381)) dX9_keepBehind_29 ?_
    refine lv_iload_n hx hb dX9_keepBehind_32 rfl (lv_at hl 2 rfl) ?_
    refine lv_iadd hx hb dX9_keepBehind_33 ?_
    obtain ⟨z2, e_z2, h⟩ := nm_s h
    refine pu_9_2 hx hb hts (inU inW_X9) hown hK hG hP hS hk0 (hts _ (List.mem_cons_of_mem _ lw_381)) dX9_keepBehind_34 (fun H locs hP hS => ?_)
    rw [← e_z2] at hP
    refine lv_aload_n hx hb dX9_keepBehind_37 rfl (lv_at hl 0 rfl) ?_
    refine lv_dup hx hb dX9_keepBehind_38 rfl ?_
    refine ge_9_4 hx hb hts (inU inW_X9) hown hK hP hk0 (hts _ (List.mem_cons_of_mem _ lw_387)) dX9_keepBehind_39 ?_
    refine lv_iload_n hx hb dX9_keepBehind_42 rfl (lv_at hl 2 rfl) ?_
    refine lv_isub hx hb dX9_keepBehind_43 ?_
    obtain ⟨z3, e_z3, h⟩ := nm_s h
    refine pu_9_4 hx hb hts (inU inW_X9) hown hK hG hP hS hk0 (hts _ (List.mem_cons_of_mem _ lw_387)) dX9_keepBehind_44 (fun H locs hP hS => ?_)
    rw [← e_z3] at hP
    exact x_vret hx hb hr hlocks hK hP hS h dX9_keepBehind_47
  · rw [if_pos c1] at h
    refine lv_aload_n hx hb dX9_keepBehind_4 rfl (lv_at hl 0 rfl) ?_
    refine lv_dup hx hb dX9_keepBehind_5 rfl ?_
    refine ge_9_1 hx hb hts (inU inW_X9) hown hK hP hk0 (hts _ (List.mem_cons_of_mem _ lw_378)) dX9_keepBehind_6 ?_
    refine lv_iload_n hx hb dX9_keepBehind_9 rfl (lv_at hl 2 rfl) ?_
    refine lv_iadd hx hb dX9_keepBehind_10 ?_
    obtain ⟨z4, e_z4, h⟩ := nm_s h
    refine pu_9_1 hx hb hts (inU inW_X9) hown hK hG hP hS hk0 (hts _ (List.mem_cons_of_mem _ lw_378)) dX9_keepBehind_11 (fun H locs hP hS => ?_)
    rw [← e_z4] at hP
    refine lv_aload_n hx hb dX9_keepBehind_14 rfl (lv_at hl 0 rfl) ?_
    refine lv_dup hx hb dX9_keepBehind_15 rfl ?_
    refine ge_9_3 hx hb hts (inU inW_X9) hown hK hP hk0 (hts _ (List.mem_cons_of_mem _ lw_384)) dX9_keepBehind_16 ?_
    refine lv_iload_n hx hb dX9_keepBehind_19 rfl (lv_at hl 2 rfl) ?_
    refine lv_isub hx hb dX9_keepBehind_20 ?_
    obtain ⟨z5, e_z5, h⟩ := nm_s h
    refine pu_9_3 hx hb hts (inU inW_X9) hown hK hG hP hS hk0 (hts _ (List.mem_cons_of_mem _ lw_384)) dX9_keepBehind_21 (fun H locs hP hS => ?_)
    rw [← e_z5] at hP
    refine lv_goto (tgt := 47) hx hb dX9_keepBehind_24 (by decide) ?_
    exact x_vret hx hb hr hlocks hK hP hS h dX9_keepBehind_47
def fn_X9_growBy (p0 : Nat) (v1 : Int32) (v2 : Int32) (z : St) : Option (St) := (if v1 = 0 then nm (sI z p0 3 ((z.1 p0 3) + v2)) (fun z3 => some z3) else nm (sI z p0 4 ((z.1 p0 4) + v2)) (fun z2 => some z2))
set_option maxHeartbeats 4000000 in
set_option maxRecDepth 100000 in
theorem m_X9_growBy {l : Launch} {G : wG} (hG : Ok G) {p0 : Nat} {v1 : Int32} {v2 : Int32} {z : St} {Rz : St} (hk0 : kd p0 = 9) (h : fn_X9_growBy  p0 v1 v2 z = some Rz) : Met l yX9_growBy (wsU yX9_growBy cX9_growBy 3 none) (rmd 1) (va_Pc [.ref (G.2.2 p0), .int v1, .int v2] (Pre G z)) (va_Qv (fun u => u = Rz) (Pre G) (AW G)) 0 0 (AW G) := by
  refine Met.ofW (cc := cX9_growBy) (maxL := 3) (ret := none) (by decide) rfl ?_
  intro p e s m args below meth c s₁ B hml hv
  obtain ⟨rfl, hP, hK⟩ := hv
  have C : CX p s m ([.ref (G.2.2 p0), .int v1, .int v2] : List Value).toArray meth c cX9_growBy 3 (wsU yX9_growBy cX9_growBy 3 none) RX9 none G := ⟨B.exec, B.bytes, hml, findClass_of_methodNamed B.named, atoms_spec (ws := (wsU yX9_growBy cX9_growBy 3 none)) B.pre, B.returns, B.notSynchronized, hK, hG⟩
  obtain ⟨hx, hb, -, hown, hts, hr, hlocks, -, -⟩ := id C
  have hS : va_S (AW G) s.heap s.heap [] := va_S.rf
  have hl := lv_entry [.ref (G.2.2 p0), .int v1, .int v2] (n := 3) (Nat.le_of_ble_eq_true rfl)
  rw [lg_entry_eq]
  generalize (lg_sl [.ref (G.2.2 p0), .int v1, .int v2] ++ List.replicate (3 - (lg_sl [.ref (G.2.2 p0), .int v1, .int v2]).length) Slot.unset).toArray = ls at hl ⊢
  have hl : lv_has ls 3 [(0, .ref (G.2.2 p0)), (1, .int v1), (2, .int v2)] := hl
  unfold fn_X9_growBy at h
  refine lv_iload_n hx hb dX9_growBy_0 rfl (lv_at hl 1 rfl) ?_
  refine lv_if_ne (tgt := 17) hx hb dX9_growBy_1 (by decide) (fun c1 => ?_) (fun c1 => ?_)
  · rw [if_neg c1] at h
    refine lv_aload_n hx hb dX9_growBy_17 rfl (lv_at hl 0 rfl) ?_
    refine lv_dup hx hb dX9_growBy_18 rfl ?_
    refine ge_9_4 hx hb hts (inU inW_X9) hown hK hP hk0 (hts _ (List.mem_cons_of_mem _ lw_387)) dX9_growBy_19 ?_
    refine lv_iload_n hx hb dX9_growBy_22 rfl (lv_at hl 2 rfl) ?_
    refine lv_iadd hx hb dX9_growBy_23 ?_
    obtain ⟨z2, e_z2, h⟩ := nm_s h
    refine pu_9_4 hx hb hts (inU inW_X9) hown hK hG hP hS hk0 (hts _ (List.mem_cons_of_mem _ lw_387)) dX9_growBy_24 (fun H locs hP hS => ?_)
    rw [← e_z2] at hP
    exact x_vret hx hb hr hlocks hK hP hS h dX9_growBy_27
  · rw [if_pos c1] at h
    refine lv_aload_n hx hb dX9_growBy_4 rfl (lv_at hl 0 rfl) ?_
    refine lv_dup hx hb dX9_growBy_5 rfl ?_
    refine ge_9_3 hx hb hts (inU inW_X9) hown hK hP hk0 (hts _ (List.mem_cons_of_mem _ lw_384)) dX9_growBy_6 ?_
    refine lv_iload_n hx hb dX9_growBy_9 rfl (lv_at hl 2 rfl) ?_
    refine lv_iadd hx hb dX9_growBy_10 ?_
    obtain ⟨z3, e_z3, h⟩ := nm_s h
    refine pu_9_3 hx hb hts (inU inW_X9) hown hK hG hP hS hk0 (hts _ (List.mem_cons_of_mem _ lw_384)) dX9_growBy_11 (fun H locs hP hS => ?_)
    rw [← e_z3] at hP
    refine lv_goto (tgt := 27) hx hb dX9_growBy_14 (by decide) ?_
    exact x_vret hx hb hr hlocks hK hP hS h dX9_growBy_27
def fn_X9_holds (p0 : Nat) (v1 : Int32) (v2 : Int32) (v3 : Int32) (z : St) : Option (Int32 × St) := (if v1 = (z.1 p0 0) then (if v2 < (z.1 p0 1) then some (0, z) else (if ((z.1 p0 1) + (z.1 p0 3)) ≤ v2 then some (0, z) else (if v3 < (z.1 p0 2) then some (0, z) else (if ((z.1 p0 2) + (z.1 p0 4)) ≤ v3 then some (0, z) else some (1, z))))) else some (0, z))
set_option maxHeartbeats 4000000 in
set_option maxRecDepth 100000 in
theorem m_X9_holds {l : Launch} {G : wG} (hG : Ok G) {p0 : Nat} {v1 : Int32} {v2 : Int32} {v3 : Int32} {z : St} {Rz : Int32 × St} (hk0 : kd p0 = 9) (h : fn_X9_holds  p0 v1 v2 v3 z = some Rz) : Met l yX9_holds (wsU yX9_holds cX9_holds 4 (some .boolean)) (rmd 1) (va_Pc [.ref (G.2.2 p0), .int v1, .int v2, .int v3] (Pre G z)) (va_Qi (fun r u => (r, u) = Rz) (Pre G) (AW G)) 0 0 (AW G) := by
  refine Met.ofW (cc := cX9_holds) (maxL := 4) (ret := (some .boolean)) (by decide) rfl ?_
  intro p e s m args below meth c s₁ B hml hv
  obtain ⟨rfl, hP, hK⟩ := hv
  have C : CX p s m ([.ref (G.2.2 p0), .int v1, .int v2, .int v3] : List Value).toArray meth c cX9_holds 4 (wsU yX9_holds cX9_holds 4 (some .boolean)) RX9 (some .boolean) G := ⟨B.exec, B.bytes, hml, findClass_of_methodNamed B.named, atoms_spec (ws := (wsU yX9_holds cX9_holds 4 (some .boolean))) B.pre, B.returns, B.notSynchronized, hK, hG⟩
  obtain ⟨hx, hb, -, hown, hts, hr, hlocks, -, -⟩ := id C
  have hS : va_S (AW G) s.heap s.heap [] := va_S.rf
  have hl := lv_entry [.ref (G.2.2 p0), .int v1, .int v2, .int v3] (n := 4) (Nat.le_of_ble_eq_true rfl)
  rw [lg_entry_eq]
  generalize (lg_sl [.ref (G.2.2 p0), .int v1, .int v2, .int v3] ++ List.replicate (4 - (lg_sl [.ref (G.2.2 p0), .int v1, .int v2, .int v3]).length) Slot.unset).toArray = ls at hl ⊢
  have hl : lv_has ls 4 [(0, .ref (G.2.2 p0)), (1, .int v1), (2, .int v2), (3, .int v3)] := hl
  unfold fn_X9_holds at h
  refine lv_iload_n hx hb dX9_holds_0 rfl (lv_at hl 1 rfl) ?_
  refine lv_aload_n hx hb dX9_holds_1 rfl (lv_at hl 0 rfl) ?_
  refine ge_9_0 hx hb hts (inU inW_X9) hown hK hP hk0 (hts _ (List.mem_cons_of_mem _ lw_375)) dX9_holds_2 ?_
  refine lv_icmp_ne (tgt := 54) hx hb dX9_holds_5 (by decide) (fun c1 => ?_) (fun c1 => ?_)
  · rw [if_neg c1] at h
    refine lv_iconst (v := 0) hx hb dX9_holds_54 (by decide) ?_
    exact x_zret hx hb hr hlocks hK hP hS rfl h dX9_holds_55
  · rw [if_pos c1] at h
    refine lv_iload_n hx hb dX9_holds_8 rfl (lv_at hl 2 rfl) ?_
    refine lv_aload_n hx hb dX9_holds_9 rfl (lv_at hl 0 rfl) ?_
    refine ge_9_1 hx hb hts (inU inW_X9) hown hK hP hk0 (hts _ (List.mem_cons_of_mem _ lw_378)) dX9_holds_10 ?_
    refine lv_icmp_lt (tgt := 54) hx hb dX9_holds_13 (by decide) (fun c2 => ?_) (fun c2 => ?_)
    · rw [if_pos c2] at h
      refine lv_iconst (v := 0) hx hb dX9_holds_54 (by decide) ?_
      exact x_zret hx hb hr hlocks hK hP hS rfl h dX9_holds_55
    · rw [if_neg c2] at h
      refine lv_iload_n hx hb dX9_holds_16 rfl (lv_at hl 2 rfl) ?_
      refine lv_aload_n hx hb dX9_holds_17 rfl (lv_at hl 0 rfl) ?_
      refine ge_9_1 hx hb hts (inU inW_X9) hown hK hP hk0 (hts _ (List.mem_cons_of_mem _ lw_378)) dX9_holds_18 ?_
      refine lv_aload_n hx hb dX9_holds_21 rfl (lv_at hl 0 rfl) ?_
      refine ge_9_3 hx hb hts (inU inW_X9) hown hK hP hk0 (hts _ (List.mem_cons_of_mem _ lw_384)) dX9_holds_22 ?_
      refine lv_iadd hx hb dX9_holds_25 ?_
      refine lv_icmp_ge (tgt := 54) hx hb dX9_holds_26 (by decide) (fun c3 => ?_) (fun c3 => ?_)
      · rw [if_pos c3] at h
        refine lv_iconst (v := 0) hx hb dX9_holds_54 (by decide) ?_
        exact x_zret hx hb hr hlocks hK hP hS rfl h dX9_holds_55
      · rw [if_neg c3] at h
        refine lv_iload_n hx hb dX9_holds_29 rfl (lv_at hl 3 rfl) ?_
        refine lv_aload_n hx hb dX9_holds_30 rfl (lv_at hl 0 rfl) ?_
        refine ge_9_2 hx hb hts (inU inW_X9) hown hK hP hk0 (hts _ (List.mem_cons_of_mem _ lw_381)) dX9_holds_31 ?_
        refine lv_icmp_lt (tgt := 54) hx hb dX9_holds_34 (by decide) (fun c4 => ?_) (fun c4 => ?_)
        · rw [if_pos c4] at h
          refine lv_iconst (v := 0) hx hb dX9_holds_54 (by decide) ?_
          exact x_zret hx hb hr hlocks hK hP hS rfl h dX9_holds_55
        · rw [if_neg c4] at h
          refine lv_iload_n hx hb dX9_holds_37 rfl (lv_at hl 3 rfl) ?_
          refine lv_aload_n hx hb dX9_holds_38 rfl (lv_at hl 0 rfl) ?_
          refine ge_9_2 hx hb hts (inU inW_X9) hown hK hP hk0 (hts _ (List.mem_cons_of_mem _ lw_381)) dX9_holds_39 ?_
          refine lv_aload_n hx hb dX9_holds_42 rfl (lv_at hl 0 rfl) ?_
          refine ge_9_4 hx hb hts (inU inW_X9) hown hK hP hk0 (hts _ (List.mem_cons_of_mem _ lw_387)) dX9_holds_43 ?_
          refine lv_iadd hx hb dX9_holds_46 ?_
          refine lv_icmp_ge (tgt := 54) hx hb dX9_holds_47 (by decide) (fun c5 => ?_) (fun c5 => ?_)
          · rw [if_pos c5] at h
            refine lv_iconst (v := 0) hx hb dX9_holds_54 (by decide) ?_
            exact x_zret hx hb hr hlocks hK hP hS rfl h dX9_holds_55
          · rw [if_neg c5] at h
            refine lv_iconst (v := 1) hx hb dX9_holds_50 (by decide) ?_
            refine lv_goto (tgt := 55) hx hb dX9_holds_51 (by decide) ?_
            exact x_zret hx hb hr hlocks hK hP hS rfl h dX9_holds_55
