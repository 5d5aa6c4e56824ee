def fn_X10_measure_52 (tv1 : Int32) (tv2 : Int32) (z : St) : Option (St) := gd (ix tv1 7) (nm (sI z 144 (Int32.toNatClampNeg tv1) tv2) (fun z2 => nm (sI z2 144 (Int32.toNatClampNeg 5) 0) (fun z3 => nm (sI z3 144 (Int32.toNatClampNeg 6) (z3.1 34 3)) (fun z4 => some z4))))
set_option maxHeartbeats 4000000 in
set_option maxRecDepth 100000 in
theorem pf_X10_measure_52 {p : Program} {l : Launch} {e : Env} {s : State} {m : MethodId} {args : Array Value} {below : List Frame} {meth : Method} {c : Code} {G : wG} (C : CX p s m args meth c cX10_measure 2 (wsU yX10_measure cX10_measure 2 none) RX10 none G) {Rz : St} (tv1 : Int32) (tv2 : Int32) (z : St)  {H : Heap} {locs : List Loc} {ls : Array Slot} (hP : WP G z H) (hS : va_S (AW G) s.heap H locs) (hl : lv_has ls 2 [(0, .ref (G.2.2 143))]) (h : fn_X10_measure_52   tv1 tv2 z = some Rz) : W p l e (rmd 3) s m args below meth c H locs 0 0 (QV below args s G Rz) (F0 m 52 ls [.int tv2, .int tv1, .ref (G.2.2 144)]) := by
  obtain ⟨hx, hb, hml, hown, hts, hr, hlocks, hK, hG⟩ := id C
  unfold fn_X10_measure_52 at h
  obtain ⟨g1, h⟩ := gd_s h
  obtain ⟨z2, e_z2, h⟩ := nm_s h
  refine xs_14 hx hb hK hG hP hS k_144 l_144 (ix_in g1) dX10_measure_52 (fun H locs hP hS => ?_)
  rw [← e_z2] at hP
  refine lv_aload_n hx hb dX10_measure_53 rfl (lv_at hl 0 rfl) ?_
  refine ge_10_2 hx hb hts (inU inW_X10) hown hK hP k_143 (hts _ (List.mem_cons_of_mem _ lw_456)) dX10_measure_54 ?_
  refine lv_iconst (v := 5) hx hb dX10_measure_57 (by decide) ?_
  refine lv_iconst (v := 0) hx hb dX10_measure_58 (by decide) ?_
  obtain ⟨z3, e_z3, h⟩ := nm_s h
  refine xs_14 hx hb hK hG hP hS k_144 l_144 (ix_in (by decide)) dX10_measure_59 (fun H locs hP hS => ?_)
  rw [← e_z3] at hP
  refine lv_aload_n hx hb dX10_measure_60 rfl (lv_at hl 0 rfl) ?_
  refine ge_10_2 hx hb hts (inU inW_X10) hown hK hP k_143 (hts _ (List.mem_cons_of_mem _ lw_456)) dX10_measure_61 ?_
  refine lv_bipush (v := 6) hx hb dX10_measure_64 (by decide) ?_
  refine lv_aload_n hx hb dX10_measure_66 rfl (lv_at hl 0 rfl) ?_
  refine ge_10_1 hx hb hts (inU inW_X10) hown hK hP k_143 (hts _ (List.mem_cons_of_mem _ lw_455)) dX10_measure_67 ?_
  refine ge_1_3 hx hb hts (inU inW_X1) hown hK hP k_34 (hts _ (List.mem_cons_of_mem _ lw_427)) dX10_measure_70 ?_
  obtain ⟨z4, e_z4, h⟩ := nm_s h
  refine xs_14 hx hb hK hG hP hS k_144 l_144 (ix_in (by decide)) dX10_measure_73 (fun H locs hP hS => ?_)
  rw [← e_z4] at hP
  exact x_vret hx hb hr hlocks hK hP hS h dX10_measure_74
def fn_X10_measure (p1 : Nat) (z : St) : Option (St) := bd (fn_X7_areaOf  2 p1 z) (fun r2 z3 => nm (sI z3 144 (Int32.toNatClampNeg 1) r2) (fun z4 => bd (fn_X7_icingOf  2 p1 z4) (fun r6 z7 => nm (sI z7 144 (Int32.toNatClampNeg 2) r6) (fun z8 => nm (sI z8 144 (Int32.toNatClampNeg 3) 0) (fun z9 => (if (z9.1 p1 5) = 0 then fn_X10_measure_52   4 0 z9 else fn_X10_measure_52   4 1 z9))))))
set_option maxHeartbeats 4000000 in
set_option maxRecDepth 100000 in
theorem m_X10_measure {l : Launch} {G : wG} (hG : Ok G) {p1 : Nat} {z : St} {Rz : St} (hk1 : kd p1 = 9) (h : fn_X10_measure  p1 z = some Rz) : Met l yX10_measure (wsU yX10_measure cX10_measure 2 none) (rmd 3) (va_Pc [.ref (G.2.2 143), .ref (G.2.2 p1)] (Pre G z)) (va_Qv (fun u => u = Rz) (Pre G) (AW G)) 0 0 (AW G) := by
  refine Met.ofW (cc := cX10_measure) (maxL := 2) (ret := none) (by decide) rfl ?_
  intro p e s m args below meth c s₁ B hml hv
  obtain ⟨rfl, hP, hK⟩ := hv
  have C : CX p s m ([.ref (G.2.2 143), .ref (G.2.2 p1)] : List Value).toArray meth c cX10_measure 2 (wsU yX10_measure cX10_measure 2 none) RX10 none G := ⟨B.exec, B.bytes, hml, findClass_of_methodNamed B.named, atoms_spec (ws := (wsU yX10_measure cX10_measure 2 none)) B.pre, B.returns, B.notSynchronized, hK, hG⟩
  obtain ⟨hx, hb, -, hown, hts, hr, hlocks, -, -⟩ := id C
  have hS : va_S (AW G) s.heap s.heap [] := va_S.rf
  have hl := lv_entry [.ref (G.2.2 143), .ref (G.2.2 p1)] (n := 2) (Nat.le_of_ble_eq_true rfl)
  rw [lg_entry_eq]
  generalize (lg_sl [.ref (G.2.2 143), .ref (G.2.2 p1)] ++ List.replicate (2 - (lg_sl [.ref (G.2.2 143), .ref (G.2.2 p1)]).length) Slot.unset).toArray = ls at hl ⊢
  have hl : lv_has ls 2 [(0, .ref (G.2.2 143)), (1, .ref (G.2.2 p1))] := hl
  unfold fn_X10_measure at h
  refine lv_aload_n hx hb dX10_measure_0 rfl (lv_at hl 0 rfl) ?_
  refine ge_10_2 hx hb hts (inU inW_X10) hown hK hP k_143 (hts _ (List.mem_cons_of_mem _ lw_456)) dX10_measure_1 ?_
  refine lv_iconst (v := 1) hx hb dX10_measure_4 (by decide) ?_
  refine lv_aload_n hx hb dX10_measure_5 rfl (lv_at hl 0 rfl) ?_
  refine ge_10_0 hx hb hts (inU inW_X10) hown hK hP k_143 (hts _ (List.mem_cons_of_mem _ lw_454)) dX10_measure_6 ?_
  refine lv_aload_n hx hb dX10_measure_9 rfl (lv_at hl 1 rfl) ?_
  obtain ⟨r2, z3, h1, h⟩ := bd_s h
  refine x_Vi (Rz := (r2, z3)) (As := [.ref (G.2.2 p1)]) (rest := [.int 1, .ref (G.2.2 144)]) ⟨hx, hb, hml, hown, hts⟩ hK hP hS (kd_lt k_2 (by decide)) (cell_7 k_2) rfl (m_X7_areaOf hG  k_2 hk1 h1) (cwV 1 hts (gV lw_979 lw_947 lw_948 lw_110 lw_949) rfl rfl rfl (by decide +kernel) (rmd_ok (by decide) (by decide))) rfl hl.1 rfl (Nat.le_of_ble_eq_true rfl) dX10_measure_10 ⟨Nat.le_refl _, Nat.le_refl _⟩ (fun H locs hP hS => ?_)
  obtain ⟨z4, e_z4, h⟩ := nm_s h
  refine xs_14 hx hb hK hG hP hS k_144 l_144 (ix_in (by decide)) dX10_measure_13 (fun H locs hP hS => ?_)
  rw [← e_z4] at hP
  refine lv_aload_n hx hb dX10_measure_14 rfl (lv_at hl 0 rfl) ?_
  refine ge_10_2 hx hb hts (inU inW_X10) hown hK hP k_143 (hts _ (List.mem_cons_of_mem _ lw_456)) dX10_measure_15 ?_
  refine lv_iconst (v := 2) hx hb dX10_measure_18 (by decide) ?_
  refine lv_aload_n hx hb dX10_measure_19 rfl (lv_at hl 0 rfl) ?_
  refine ge_10_0 hx hb hts (inU inW_X10) hown hK hP k_143 (hts _ (List.mem_cons_of_mem _ lw_454)) dX10_measure_20 ?_
  refine lv_aload_n hx hb dX10_measure_23 rfl (lv_at hl 1 rfl) ?_
  obtain ⟨r6, z7, h5, h⟩ := bd_s h
  refine x_Vi (Rz := (r6, z7)) (As := [.ref (G.2.2 p1)]) (rest := [.int 2, .ref (G.2.2 144)]) ⟨hx, hb, hml, hown, hts⟩ hK hP hS (kd_lt k_2 (by decide)) (cell_7 k_2) rfl (m_X7_icingOf hG  k_2 hk1 h5) (cwV 1 hts (gV lw_980 lw_955 lw_956 lw_110 lw_957) rfl rfl rfl (by decide +kernel) (rmd_ok (by decide) (by decide))) rfl hl.1 rfl (Nat.le_of_ble_eq_true rfl) dX10_measure_24 ⟨Nat.le_refl _, Nat.le_refl _⟩ (fun H locs hP hS => ?_)
  obtain ⟨z8, e_z8, h⟩ := nm_s h
  refine xs_14 hx hb hK hG hP hS k_144 l_144 (ix_in (by decide)) dX10_measure_27 (fun H locs hP hS => ?_)
  rw [← e_z8] at hP
  refine lv_aload_n hx hb dX10_measure_28 rfl (lv_at hl 0 rfl) ?_
  refine ge_10_2 hx hb hts (inU inW_X10) hown hK hP k_143 (hts _ (List.mem_cons_of_mem _ lw_456)) dX10_measure_29 ?_
  refine lv_iconst (v := 3) hx hb dX10_measure_32 (by decide) ?_
  refine lv_iconst (v := 0) hx hb dX10_measure_33 (by decide) ?_
  obtain ⟨z9, e_z9, h⟩ := nm_s h
  refine xs_14 hx hb hK hG hP hS k_144 l_144 (ix_in (by decide)) dX10_measure_34 (fun H locs hP hS => ?_)
  rw [← e_z9] at hP
  refine lv_aload_n hx hb dX10_measure_35 rfl (lv_at hl 0 rfl) ?_
  refine ge_10_2 hx hb hts (inU inW_X10) hown hK hP k_143 (hts _ (List.mem_cons_of_mem _ lw_456)) dX10_measure_36 ?_
  refine lv_iconst (v := 4) hx hb dX10_measure_39 (by decide) ?_
  refine lv_aload_n hx hb dX10_measure_40 rfl (lv_at hl 1 rfl) ?_
  refine ge_9_5 hx hb hts (inU inW_X9) hown hK hP hk1 (hts _ (List.mem_cons_of_mem _ lw_391)) dX10_measure_41 ?_
  refine lv_if_eq (tgt := 51) hx hb dX10_measure_44 (by decide) (fun c10 => ?_) (fun c10 => ?_)
  · rw [if_pos c10] at h
    refine lv_iconst (v := 0) hx hb dX10_measure_51 (by decide) ?_
    exact pf_X10_measure_52 C   4 0 z9  hP hS (lv_sub hl [0] rfl) h
  · rw [if_neg c10] at h
    refine lv_iconst (v := 1) hx hb dX10_measure_47 (by decide) ?_
    refine lv_goto (tgt := 52) hx hb dX10_measure_48 (by decide) ?_
    exact pf_X10_measure_52 C   4 1 z9  hP hS (lv_sub hl [0] rfl) h
def fn_X10_ofSlab_34 (tv1 : Int32) (tv2 : Int32) (z : St) : Option (Int32 × St) := gd (ix tv1 7) (nm (sI z 144 (Int32.toNatClampNeg tv1) tv2) (fun z2 => bd (fn_X2_outcome  11 144 z2) (fun r4 z5 => some (r4, z5))))
set_option maxHeartbeats 4000000 in
set_option maxRecDepth 100000 in
theorem pf_X10_ofSlab_34 {p : Program} {l : Launch} {e : Env} {s : State} {m : MethodId} {args : Array Value} {below : List Frame} {meth : Method} {c : Code} {G : wG} (C : CX p s m args meth c cX10_ofSlab 3 (wsU yX10_ofSlab cX10_ofSlab 3 (some .int)) RX10 (some .int) G) {Rz : Int32 × St} (tv1 : Int32) (tv2 : Int32) (z : St)  {H : Heap} {locs : List Loc} {ls : Array Slot} (hP : WP G z H) (hS : va_S (AW G) s.heap H locs) (hl : lv_has ls 3 [(0, .ref (G.2.2 143))]) (h : fn_X10_ofSlab_34   tv1 tv2 z = some Rz) : W p l e (rmd 4) s m args below meth c H locs 0 0 (QI below args s G Rz) (F0 m 34 ls [.int tv2, .int tv1, .ref (G.2.2 144)]) := by
  obtain ⟨hx, hb, hml, hown, hts, hr, hlocks, hK, hG⟩ := id C
  unfold fn_X10_ofSlab_34 at h
  obtain ⟨g1, h⟩ := gd_s h
  obtain ⟨z2, e_z2, h⟩ := nm_s h
  refine xs_14 hx hb hK hG hP hS k_144 l_144 (ix_in g1) dX10_ofSlab_34 (fun H locs hP hS => ?_)
  rw [← e_z2] at hP
  refine lv_aload_n hx hb dX10_ofSlab_35 rfl (lv_at hl 0 rfl) ?_
  refine ge_10_0 hx hb hts (inU inW_X10) hown hK hP k_143 (hts _ (List.mem_cons_of_mem _ lw_454)) dX10_ofSlab_36 ?_
  refine ge_7_10 hx hb hts (inU inW_X7) hown hK hP k_2 (hts _ (List.mem_cons_of_mem _ lw_211)) dX10_ofSlab_39 ?_
  refine lv_aload_n hx hb dX10_ofSlab_42 rfl (lv_at hl 0 rfl) ?_
  refine ge_10_2 hx hb hts (inU inW_X10) hown hK hP k_143 (hts _ (List.mem_cons_of_mem _ lw_456)) dX10_ofSlab_43 ?_
  obtain ⟨r4, z5, h3, h⟩ := bd_s h
  refine x_Vi (Rz := (r4, z5)) (As := [.ref (G.2.2 144)]) (rest := []) ⟨hx, hb, hml, hown, hts⟩ hK hP hS (kd_lt k_11 (by decide)) (cell_2 k_11) rfl (m_X2_outcome hG  k_11 k_144 h3) (cwV 1 hts (gV lw_982 lw_983 lw_984 lw_111 lw_985) rfl rfl rfl (by decide +kernel) (rmd_ok (by decide) (by decide))) rfl hl.1 rfl (Nat.le_of_ble_eq_true rfl) dX10_ofSlab_46 ⟨Nat.le_refl _, Nat.le_refl _⟩ (fun H locs hP hS => ?_)
  exact x_iret hx hb hr hlocks hK hP hS h dX10_ofSlab_49
def fn_X10_ofSlab (v1 : Int32) (p2 : Nat) (z : St) : Option (Int32 × St) := bv (fn_X10_measure  p2 z) (fun z2 => bd (fn_X7_isGuest  2 v1 z2) (fun r4 z5 => (if r4 = 0 then fn_X10_ofSlab_34   3 0 z5 else gd (ix v1 6) (fn_X10_ofSlab_34   3 (z5.1 9 (Int32.toNatClampNeg v1)) z5))))
set_option maxHeartbeats 4000000 in
set_option maxRecDepth 100000 in
theorem m_X10_ofSlab {l : Launch} {G : wG} (hG : Ok G) {v1 : Int32} {p2 : Nat} {z : St} {Rz : Int32 × St} (hk2 : kd p2 = 9) (h : fn_X10_ofSlab  v1 p2 z = some Rz) : Met l yX10_ofSlab (wsU yX10_ofSlab cX10_ofSlab 3 (some .int)) (rmd 4) (va_Pc [.ref (G.2.2 143), .int v1, .ref (G.2.2 p2)] (Pre G z)) (va_Qi (fun r u => (r, u) = Rz) (Pre G) (AW G)) 0 0 (AW G) := by
  refine Met.ofW (cc := cX10_ofSlab) (maxL := 3) (ret := (some .int)) (by decide) rfl ?_
  intro p e s m args below meth c s₁ B hml hv
  obtain ⟨rfl, hP, hK⟩ := hv
  have C : CX p s m ([.ref (G.2.2 143), .int v1, .ref (G.2.2 p2)] : List Value).toArray meth c cX10_ofSlab 3 (wsU yX10_ofSlab cX10_ofSlab 3 (some .int)) RX10 (some .int) G := ⟨B.exec, B.bytes, hml, findClass_of_methodNamed B.named, atoms_spec (ws := (wsU yX10_ofSlab cX10_ofSlab 3 (some .int))) B.pre, B.returns, B.notSynchronized, hK, hG⟩
  obtain ⟨hx, hb, -, hown, hts, hr, hlocks, -, -⟩ := id C
  have hS : va_S (AW G) s.heap s.heap [] := va_S.rf
  have hl := lv_entry [.ref (G.2.2 143), .int v1, .ref (G.2.2 p2)] (n := 3) (Nat.le_of_ble_eq_true rfl)
  rw [lg_entry_eq]
  generalize (lg_sl [.ref (G.2.2 143), .int v1, .ref (G.2.2 p2)] ++ List.replicate (3 - (lg_sl [.ref (G.2.2 143), .int v1, .ref (G.2.2 p2)]).length) Slot.unset).toArray = ls at hl ⊢
  have hl : lv_has ls 3 [(0, .ref (G.2.2 143)), (1, .int v1), (2, .ref (G.2.2 p2))] := hl
  unfold fn_X10_ofSlab at h
  refine lv_aload_n hx hb dX10_ofSlab_0 rfl (lv_at hl 0 rfl) ?_
  refine lv_aload_n hx hb dX10_ofSlab_1 rfl (lv_at hl 2 rfl) ?_
  obtain ⟨z2, h1, h⟩ := bv_s h
  refine x_Vv (Rz := z2) (As := [.ref (G.2.2 p2)]) (rest := []) ⟨hx, hb, hml, hown, hts⟩ hK hP hS (kd_lt k_143 (by decide)) (cell_10 k_143) rfl (m_X10_measure hG  hk2 h1) (cwV 1 hts (gV lw_975 lw_977 lw_27 lw_119 lw_978) rfl rfl rfl (by decide +kernel) (rmd_ok (by decide) (by decide))) rfl hl.1 rfl (Nat.le_of_ble_eq_true rfl) dX10_ofSlab_2 ⟨Nat.le_refl _, Nat.le_refl _⟩ (fun H locs hP hS => ?_)
  refine lv_aload_n hx hb dX10_ofSlab_5 rfl (lv_at hl 0 rfl) ?_
  refine ge_10_2 hx hb hts (inU inW_X10) hown hK hP k_143 (hts _ (List.mem_cons_of_mem _ lw_456)) dX10_ofSlab_6 ?_
  refine lv_iconst (v := 3) hx hb dX10_ofSlab_9 (by decide) ?_
  refine lv_aload_n hx hb dX10_ofSlab_10 rfl (lv_at hl 0 rfl) ?_
  refine ge_10_0 hx hb hts (inU inW_X10) hown hK hP k_143 (hts _ (List.mem_cons_of_mem _ lw_454)) dX10_ofSlab_11 ?_
  refine lv_iload_n hx hb dX10_ofSlab_14 rfl (lv_at hl 1 rfl) ?_
  obtain ⟨r4, z5, h3, h⟩ := bd_s h
  refine x_Vi (Rz := (r4, z5)) (As := [.int v1]) (rest := [.int 3, .ref (G.2.2 144)]) ⟨hx, hb, hml, hown, hts⟩ hK hP hS (kd_lt k_2 (by decide)) (cell_7 k_2) rfl (m_X7_isGuest hG  k_2 h3) (cwV 1 hts (gV lw_981 lw_963 lw_964 lw_110 lw_965) rfl rfl rfl (by decide +kernel) (rmd_ok (by decide) (by decide))) rfl hl.1 rfl (Nat.le_of_ble_eq_true rfl) dX10_ofSlab_15 ⟨Nat.le_refl _, Nat.le_refl _⟩ (fun H locs hP hS => ?_)
  refine lv_if_eq (tgt := 33) hx hb dX10_ofSlab_18 (by decide) (fun c6 => ?_) (fun c6 => ?_)
  · rw [if_pos c6] at h
    refine lv_iconst (v := 0) hx hb dX10_ofSlab_33 (by decide) ?_
    exact pf_X10_ofSlab_34 C   3 0 z5  hP hS (lv_sub hl [0] rfl) h
  · rw [if_neg c6] at h
    refine lv_aload_n hx hb dX10_ofSlab_21 rfl (lv_at hl 0 rfl) ?_
    refine ge_10_0 hx hb hts (inU inW_X10) hown hK hP k_143 (hts _ (List.mem_cons_of_mem _ lw_454)) dX10_ofSlab_22 ?_
    refine ge_7_8 hx hb hts (inU inW_X7) hown hK hP k_2 (hts _ (List.mem_cons_of_mem _ lw_206)) dX10_ofSlab_25 ?_
    refine lv_iload_n hx hb dX10_ofSlab_28 rfl (lv_at hl 1 rfl) ?_
    obtain ⟨g7, h⟩ := gd_s h
    refine xl_14 hx hb hK hP k_9 l_9 (ix_in g7) dX10_ofSlab_29 ?_
    refine lv_goto (tgt := 34) hx hb dX10_ofSlab_30 (by decide) ?_
    exact pf_X10_ofSlab_34 C   3 (z5.1 9 (Int32.toNatClampNeg v1)) z5  hP hS (lv_sub hl [0] rfl) h
def fn_X10_ofPiece (v1 : Int32) (v2 : Int32) (v3 : Int32) (z : St) : Option (Int32 × St) := bd (fn_X1_isPiece  34 v2 z) (fun r2 z3 => (if r2 = 0 then some (v3, z3) else gd (ix v2 24) (bd (fn_X10_ofSlab  v1 (35 + 1 + (Int32.toNatClampNeg v2)) z3) (fun r7 z8 => some (r7, z8)))))
set_option maxHeartbeats 4000000 in
set_option maxRecDepth 100000 in
theorem m_X10_ofPiece {l : Launch} {G : wG} (hG : Ok G) {v1 : Int32} {v2 : Int32} {v3 : Int32} {z : St} {Rz : Int32 × St}  (h : fn_X10_ofPiece  v1 v2 v3 z = some Rz) : Met l yX10_ofPiece (wsU yX10_ofPiece cX10_ofPiece 4 (some .int)) (rmd 5) (va_Pc [.ref (G.2.2 143), .int v1, .int v2, .int v3] (Pre G z)) (va_Qi (fun r u => (r, u) = Rz) (Pre G) (AW G)) 0 0 (AW G) := by
  refine Met.ofW (cc := cX10_ofPiece) (maxL := 4) (ret := (some .int)) (by decide) rfl ?_
  intro p e s m args below meth c s₁ B hml hv
  obtain ⟨rfl, hP, hK⟩ := hv
  have C : CX p s m ([.ref (G.2.2 143), .int v1, .int v2, .int v3] : List Value).toArray meth c cX10_ofPiece 4 (wsU yX10_ofPiece cX10_ofPiece 4 (some .int)) RX10 (some .int) G := ⟨B.exec, B.bytes, hml, findClass_of_methodNamed B.named, atoms_spec (ws := (wsU yX10_ofPiece cX10_ofPiece 4 (some .int))) B.pre, B.returns, B.notSynchronized, hK, hG⟩
  obtain ⟨hx, hb, -, hown, hts, hr, hlocks, -, -⟩ := id C
  have hS : va_S (AW G) s.heap s.heap [] := va_S.rf
  have hl := lv_entry [.ref (G.2.2 143), .int v1, .int v2, .int v3] (n := 4) (Nat.le_of_ble_eq_true rfl)
  rw [lg_entry_eq]
  generalize (lg_sl [.ref (G.2.2 143), .int v1, .int v2, .int v3] ++ List.replicate (4 - (lg_sl [.ref (G.2.2 143), .int v1, .int v2, .int v3]).length) Slot.unset).toArray = ls at hl ⊢
  have hl : lv_has ls 4 [(0, .ref (G.2.2 143)), (1, .int v1), (2, .int v2), (3, .int v3)] := hl
  unfold fn_X10_ofPiece at h
  refine lv_aload_n hx hb dX10_ofPiece_0 rfl (lv_at hl 0 rfl) ?_
  refine ge_10_1 hx hb hts (inU inW_X10) hown hK hP k_143 (hts _ (List.mem_cons_of_mem _ lw_455)) dX10_ofPiece_1 ?_
  refine lv_iload_n hx hb dX10_ofPiece_4 rfl (lv_at hl 2 rfl) ?_
  obtain ⟨r2, z3, h1, h⟩ := bd_s h
  refine x_Vi (Rz := (r2, z3)) (As := [.int v2]) (rest := []) ⟨hx, hb, hml, hown, hts⟩ hK hP hS (kd_lt k_34 (by decide)) (cell_1 k_34) rfl (m_X1_isPiece hG  k_34 h1) (cwV 1 hts (gV lw_970 lw_943 lw_944 lw_117 lw_945) rfl rfl rfl (by decide +kernel) (rmd_ok (by decide) (by decide))) rfl hl.1 rfl (Nat.le_of_ble_eq_true rfl) dX10_ofPiece_5 ⟨Nat.le_refl _, Nat.le_refl _⟩ (fun H locs hP hS => ?_)
  refine lv_if_eq (tgt := 28) hx hb dX10_ofPiece_8 (by decide) (fun c4 => ?_) (fun c4 => ?_)
  · rw [if_pos c4] at h
    refine lv_iload_n hx hb dX10_ofPiece_28 rfl (lv_at hl 3 rfl) ?_
    exact x_iret hx hb hr hlocks hK hP hS h dX10_ofPiece_29
  · rw [if_neg c4] at h
    refine lv_aload_n hx hb dX10_ofPiece_11 rfl (lv_at hl 0 rfl) ?_
    refine lv_iload_n hx hb dX10_ofPiece_12 rfl (lv_at hl 1 rfl) ?_
    refine lv_aload_n hx hb dX10_ofPiece_13 rfl (lv_at hl 0 rfl) ?_
    refine ge_10_1 hx hb hts (inU inW_X10) hown hK hP k_143 (hts _ (List.mem_cons_of_mem _ lw_455)) dX10_ofPiece_14 ?_
    refine ge_1_0 hx hb hts (inU inW_X1) hown hK hP k_34 (hts _ (List.mem_cons_of_mem _ lw_415)) dX10_ofPiece_17 ?_
    refine lv_iload_n hx hb dX10_ofPiece_20 rfl (lv_at hl 2 rfl) ?_
    obtain ⟨g5, h⟩ := gd_s h
    refine xl_18 hx hb hK hP k_35 l_35 (ix_in g5) dX10_ofPiece_21 ?_
    obtain ⟨r7, z8, h6, h⟩ := bd_s h
    refine x_Vi (Rz := (r7, z8)) (As := [.int v1, .ref (G.2.2 (35 + 1 + (Int32.toNatClampNeg v2)))]) (rest := []) ⟨hx, hb, hml, hown, hts⟩ hK hP hS (kd_lt k_143 (by decide)) (cell_10 k_143) rfl (m_X10_ofSlab hG  (ke_18 k_35 (ix_lt g5)) h6) (cwV 2 hts (gV lw_971 lw_972 lw_973 lw_119 lw_974) rfl rfl rfl (by decide +kernel) (rmd_ok (by decide) (by decide))) rfl hl.1 rfl (Nat.le_of_ble_eq_true rfl) dX10_ofPiece_22 ⟨Nat.le_refl _, Nat.le_refl _⟩ (fun H locs hP hS => ?_)
    refine lv_goto (tgt := 29) hx hb dX10_ofPiece_25 (by decide) ?_
    exact x_iret hx hb hr hlocks hK hP hS h dX10_ofPiece_29
def fn_X10_slipOf (v1 : Int32) (v2 : Int32) (z : St) : Option (Int32 × St) := bd (fn_X1_isPiece  34 v1 z) (fun r2 z3 => (if r2 = 0 then some (0, z3) else gd (ix v1 24) (bv (fn_X10_measure  (35 + 1 + (Int32.toNatClampNeg v1)) z3) (fun z7 => gd (ix v1 24) (bd (fn_X9_along  (35 + 1 + (Int32.toNatClampNeg v1)) v2 z7) (fun r10 z11 => nm (sI z11 144 (Int32.toNatClampNeg 5) r10) (fun z12 => bd (fn_X2_outcome  14 144 z12) (fun r14 z15 => some (r14, z15)))))))))
set_option maxHeartbeats 4000000 in
set_option maxRecDepth 100000 in
theorem m_X10_slipOf {l : Launch} {G : wG} (hG : Ok G) {v1 : Int32} {v2 : Int32} {z : St} {Rz : Int32 × St}  (h : fn_X10_slipOf  v1 v2 z = some Rz) : Met l yX10_slipOf (wsU yX10_slipOf cX10_slipOf 3 (some .int)) (rmd 4) (va_Pc [.ref (G.2.2 143), .int v1, .int v2] (Pre G z)) (va_Qi (fun r u => (r, u) = Rz) (Pre G) (AW G)) 0 0 (AW G) := by
  refine Met.ofW (cc := cX10_slipOf) (maxL := 3) (ret := (some .int)) (by decide) rfl ?_
  intro p e s m args below meth c s₁ B hml hv
  obtain ⟨rfl, hP, hK⟩ := hv
  have C : CX p s m ([.ref (G.2.2 143), .int v1, .int v2] : List Value).toArray meth c cX10_slipOf 3 (wsU yX10_slipOf cX10_slipOf 3 (some .int)) RX10 (some .int) G := ⟨B.exec, B.bytes, hml, findClass_of_methodNamed B.named, atoms_spec (ws := (wsU yX10_slipOf cX10_slipOf 3 (some .int))) B.pre, B.returns, B.notSynchronized, hK, hG⟩
  obtain ⟨hx, hb, -, hown, hts, hr, hlocks, -, -⟩ := id C
  have hS : va_S (AW G) s.heap s.heap [] := va_S.rf
  have hl := lv_entry [.ref (G.2.2 143), .int v1, .int v2] (n := 3) (Nat.le_of_ble_eq_true rfl)
  rw [lg_entry_eq]
  generalize (lg_sl [.ref (G.2.2 143), .int v1, .int v2] ++ List.replicate (3 - (lg_sl [.ref (G.2.2 143), .int v1, .int v2]).length) Slot.unset).toArray = ls at hl ⊢
  have hl : lv_has ls 3 [(0, .ref (G.2.2 143)), (1, .int v1), (2, .int v2)] := hl
  unfold fn_X10_slipOf at h
  refine lv_aload_n hx hb dX10_slipOf_0 rfl (lv_at hl 0 rfl) ?_
  refine ge_10_1 hx hb hts (inU inW_X10) hown hK hP k_143 (hts _ (List.mem_cons_of_mem _ lw_455)) dX10_slipOf_1 ?_
  refine lv_iload_n hx hb dX10_slipOf_4 rfl (lv_at hl 1 rfl) ?_
  obtain ⟨r2, z3, h1, h⟩ := bd_s h
  refine x_Vi (Rz := (r2, z3)) (As := [.int v1]) (rest := []) ⟨hx, hb, hml, hown, hts⟩ hK hP hS (kd_lt k_34 (by decide)) (cell_1 k_34) rfl (m_X1_isPiece hG  k_34 h1) (cwV 1 hts (gV lw_970 lw_943 lw_944 lw_117 lw_945) rfl rfl rfl (by decide +kernel) (rmd_ok (by decide) (by decide))) rfl hl.1 rfl (Nat.le_of_ble_eq_true rfl) dX10_slipOf_5 ⟨Nat.le_refl _, Nat.le_refl _⟩ (fun H locs hP hS => ?_)
  refine lv_if_ne (tgt := 13) hx hb dX10_slipOf_8 (by decide) (fun c4 => ?_) (fun c4 => ?_)
  · rw [if_neg c4] at h
    refine lv_aload_n hx hb dX10_slipOf_13 rfl (lv_at hl 0 rfl) ?_
    refine lv_aload_n hx hb dX10_slipOf_14 rfl (lv_at hl 0 rfl) ?_
    refine ge_10_1 hx hb hts (inU inW_X10) hown hK hP k_143 (hts _ (List.mem_cons_of_mem _ lw_455)) dX10_slipOf_15 ?_
    refine ge_1_0 hx hb hts (inU inW_X1) hown hK hP k_34 (hts _ (List.mem_cons_of_mem _ lw_415)) dX10_slipOf_18 ?_
    refine lv_iload_n hx hb dX10_slipOf_21 rfl (lv_at hl 1 rfl) ?_
    obtain ⟨g5, h⟩ := gd_s h
    refine xl_18 hx hb hK hP k_35 l_35 (ix_in g5) dX10_slipOf_22 ?_
    obtain ⟨z7, h6, h⟩ := bv_s h
    refine x_Vv (Rz := z7) (As := [.ref (G.2.2 (35 + 1 + (Int32.toNatClampNeg v1)))]) (rest := []) ⟨hx, hb, hml, hown, hts⟩ hK hP hS (kd_lt k_143 (by decide)) (cell_10 k_143) rfl (m_X10_measure hG  (ke_18 k_35 (ix_lt g5)) h6) (cwV 1 hts (gV lw_975 lw_977 lw_27 lw_119 lw_978) rfl rfl rfl (by decide +kernel) (rmd_ok (by decide) (by decide))) rfl hl.1 rfl (Nat.le_of_ble_eq_true rfl) dX10_slipOf_23 ⟨Nat.le_refl _, Nat.le_refl _⟩ (fun H locs hP hS => ?_)
    refine lv_aload_n hx hb dX10_slipOf_26 rfl (lv_at hl 0 rfl) ?_
    refine ge_10_2 hx hb hts (inU inW_X10) hown hK hP k_143 (hts _ (List.mem_cons_of_mem _ lw_456)) dX10_slipOf_27 ?_
    refine lv_iconst (v := 5) hx hb dX10_slipOf_30 (by decide) ?_
    refine lv_aload_n hx hb dX10_slipOf_31 rfl (lv_at hl 0 rfl) ?_
    refine ge_10_1 hx hb hts (inU inW_X10) hown hK hP k_143 (hts _ (List.mem_cons_of_mem _ lw_455)) dX10_slipOf_32 ?_
    refine ge_1_0 hx hb hts (inU inW_X1) hown hK hP k_34 (hts _ (List.mem_cons_of_mem _ lw_415)) dX10_slipOf_35 ?_
    refine lv_iload_n hx hb dX10_slipOf_38 rfl (lv_at hl 1 rfl) ?_
    obtain ⟨g8, h⟩ := gd_s h
    refine xl_18 hx hb hK hP k_35 l_35 (ix_in g8) dX10_slipOf_39 ?_
    refine lv_iload_n hx hb dX10_slipOf_40 rfl (lv_at hl 2 rfl) ?_
    obtain ⟨r10, z11, h9, h⟩ := bd_s h
    refine x_Vi (Rz := (r10, z11)) (As := [.int v2]) (rest := [.int 5, .ref (G.2.2 144)]) ⟨hx, hb, hml, hown, hts⟩ hK hP hS (kd_lt (ke_18 k_35 (ix_lt g8)) (by decide)) (cell_9 (ke_18 k_35 (ix_lt g8))) rfl (m_X9_along hG  (ke_18 k_35 (ix_lt g8)) h9) (cwV 1 hts (gV lw_1022 lw_1023 lw_1024 lw_118 lw_1025) rfl rfl rfl (by decide +kernel) (rmd_ok (by decide) (by decide))) rfl hl.1 rfl (Nat.le_of_ble_eq_true rfl) dX10_slipOf_41 ⟨Nat.le_refl _, Nat.le_refl _⟩ (fun H locs hP hS => ?_)
    obtain ⟨z12, e_z12, h⟩ := nm_s h
    refine xs_14 hx hb hK hG hP hS k_144 l_144 (ix_in (by decide)) dX10_slipOf_44 (fun H locs hP hS => ?_)
    rw [← e_z12] at hP
    refine lv_aload_n hx hb dX10_slipOf_45 rfl (lv_at hl 0 rfl) ?_
    refine ge_10_0 hx hb hts (inU inW_X10) hown hK hP k_143 (hts _ (List.mem_cons_of_mem _ lw_454)) dX10_slipOf_46 ?_
    refine ge_7_11 hx hb hts (inU inW_X7) hown hK hP k_2 (hts _ (List.mem_cons_of_mem _ lw_216)) dX10_slipOf_49 ?_
    refine lv_aload_n hx hb dX10_slipOf_52 rfl (lv_at hl 0 rfl) ?_
    refine ge_10_2 hx hb hts (inU inW_X10) hown hK hP k_143 (hts _ (List.mem_cons_of_mem _ lw_456)) dX10_slipOf_53 ?_
    obtain ⟨r14, z15, h13, h⟩ := bd_s h
    refine x_Vi (Rz := (r14, z15)) (As := [.ref (G.2.2 144)]) (rest := []) ⟨hx, hb, hml, hown, hts⟩ hK hP hS (kd_lt k_14 (by decide)) (cell_2 k_14) rfl (m_X2_outcome hG  k_14 k_144 h13) (cwV 1 hts (gV lw_982 lw_983 lw_984 lw_111 lw_985) rfl rfl rfl (by decide +kernel) (rmd_ok (by decide) (by decide))) rfl hl.1 rfl (Nat.le_of_ble_eq_true rfl) dX10_slipOf_56 ⟨Nat.le_refl _, Nat.le_refl _⟩ (fun H locs hP hS => ?_)
    exact x_iret hx hb hr hlocks hK hP hS h dX10_slipOf_59
  · rw [if_pos c4] at h
    refine lv_iconst (v := 0) hx hb dX10_slipOf_11 (by decide) ?_
    exact x_iret hx hb hr hlocks hK hP hS h dX10_slipOf_12
def fn_X10_enviedBy_105 (k34 : Int32 → Int32 → Int32 → Int32 → St → Option (Int32 × St)) (v1 : Int32) (v2 : Int32) (v3 : Int32) (v4 : Int32) (z : St) : Option (Int32 × St) := k34 v1 v2 v3 (v4 + 1) z
set_option maxHeartbeats 4000000 in
set_option maxRecDepth 100000 in
theorem pf_X10_enviedBy_105 {p : Program} {l : Launch} {e : Env} {s : State} {m : MethodId} {args : Array Value} {below : List Frame} {meth : Method} {c : Code} {G : wG} (C : CX p s m args meth c cX10_enviedBy 6 (wsU yX10_enviedBy cX10_enviedBy 6 (some .int)) RX10 (some .int) G) {Rz : Int32 × St} {k34 : Int32 → Int32 → Int32 → Int32 → St → Option (Int32 × St)} (hk_34 : ∀ (v1 : Int32) (v2 : Int32) (v3 : Int32) (v4 : Int32) (z : St)  (H : Heap) (locs : List Loc) (ls : Array Slot), WP G z H → va_S (AW G) s.heap H locs → lv_has ls 6 [(0, .ref (G.2.2 143)), (1, .int v1), (2, .int v2), (3, .int v3), (4, .int v4)] → k34 v1 v2 v3 v4 z = some Rz → W p l e (rmd 6) s m args below meth c H locs 0 0 (QI below args s G Rz) (F0 m 34 ls [])) (v1 : Int32) (v2 : Int32) (v3 : Int32) (v4 : Int32) (z : St)  {H : Heap} {locs : List Loc} {ls : Array Slot} (hP : WP G z H) (hS : va_S (AW G) s.heap H locs) (hl : lv_has ls 6 [(0, .ref (G.2.2 143)), (1, .int v1), (2, .int v2), (3, .int v3), (4, .int v4)]) (h : fn_X10_enviedBy_105  k34 v1 v2 v3 v4 z = some Rz) : W p l e (rmd 6) s m args below meth c H locs 0 0 (QI below args s G Rz) (F0 m 105 ls []) := by
  obtain ⟨hx, hb, hml, hown, hts, hr, hlocks, hK, hG⟩ := id C
  unfold fn_X10_enviedBy_105 at h
  refine lv_iinc (v := (v4 + 1)) (lv' := [(4, .int (v4 + 1)), (0, .ref (G.2.2 143)), (1, .int v1), (2, .int v2), (3, .int v3)]) hx hb dX10_enviedBy_105 hl (k := 4) rfl rfl (by decide) rfl (fun ls hl => ?_)
  refine lv_goto (tgt := 34) hx hb dX10_enviedBy_108 (by decide) ?_
  exact hk_34 v1 v2 v3 (v4 + 1) z  _ _ _ hP hS (lv_sub hl [1, 2, 3, 4, 0] rfl) h
def fn_X10_enviedBy_71 (k34 : Int32 → Int32 → Int32 → Int32 → St → Option (Int32 × St)) (v1 : Int32) (v2 : Int32) (v3 : Int32) (v4 : Int32) (tv0 : Int32) (z : St) : Option (Int32 × St) := (if tv0 = 0 then fn_X10_enviedBy_105  k34 v1 v2 v3 v4 z else gd (ix v4 6) (bd (fn_X10_ofPiece  v1 (z.1 60 (Int32.toNatClampNeg v4)) 0 z) (fun r4 z5 => (if r4 ≤ v2 then fn_X10_enviedBy_105  k34 v1 v2 v3 v4 z5 else nm (v3 ||| (1 <<< (v4 &&& 31))) (fun v3_7 => fn_X10_enviedBy_105  k34 v1 v2 v3_7 v4 z5)))))
set_option maxHeartbeats 4000000 in
set_option maxRecDepth 100000 in
theorem pf_X10_enviedBy_71 {p : Program} {l : Launch} {e : Env} {s : State} {m : MethodId} {args : Array Value} {below : List Frame} {meth : Method} {c : Code} {G : wG} (C : CX p s m args meth c cX10_enviedBy 6 (wsU yX10_enviedBy cX10_enviedBy 6 (some .int)) RX10 (some .int) G) {Rz : Int32 × St} {k34 : Int32 → Int32 → Int32 → Int32 → St → Option (Int32 × St)} (hk_34 : ∀ (v1 : Int32) (v2 : Int32) (v3 : Int32) (v4 : Int32) (z : St)  (H : Heap) (locs : List Loc) (ls : Array Slot), WP G z H → va_S (AW G) s.heap H locs → lv_has ls 6 [(0, .ref (G.2.2 143)), (1, .int v1), (2, .int v2), (3, .int v3), (4, .int v4)] → k34 v1 v2 v3 v4 z = some Rz → W p l e (rmd 6) s m args below meth c H locs 0 0 (QI below args s G Rz) (F0 m 34 ls [])) (v1 : Int32) (v2 : Int32) (v3 : Int32) (v4 : Int32) (tv0 : Int32) (z : St)  {H : Heap} {locs : List Loc} {ls : Array Slot} (hP : WP G z H) (hS : va_S (AW G) s.heap H locs) (hl : lv_has ls 6 [(0, .ref (G.2.2 143)), (1, .int v1), (2, .int v2), (3, .int v3), (4, .int v4)]) (h : fn_X10_enviedBy_71  k34 v1 v2 v3 v4 tv0 z = some Rz) : W p l e (rmd 6) s m args below meth c H locs 0 0 (QI below args s G Rz) (F0 m 71 ls [.int tv0]) := by
  obtain ⟨hx, hb, hml, hown, hts, hr, hlocks, hK, hG⟩ := id C
  unfold fn_X10_enviedBy_71 at h
  refine lv_istore (lv' := [(5, .int tv0), (0, .ref (G.2.2 143)), (1, .int v1), (2, .int v2), (3, .int v3), (4, .int v4)]) hx hb dX10_enviedBy_71 hl (by decide) rfl (fun ls hl => ?_)
  refine lv_iload hx hb dX10_enviedBy_73 (lv_at hl 0 rfl) ?_
  refine lv_if_eq (tgt := 105) hx hb dX10_enviedBy_75 (by decide) (fun c1 => ?_) (fun c1 => ?_)
  · rw [if_pos c1] at h
    exact pf_X10_enviedBy_105 C  hk_34 v1 v2 v3 v4 z  hP hS (lv_sub hl [1, 2, 3, 4, 5] rfl) h
  · rw [if_neg c1] at h
    refine lv_aload_n hx hb dX10_enviedBy_78 rfl (lv_at hl 1 rfl) ?_
    refine lv_iload_n hx hb dX10_enviedBy_79 rfl (lv_at hl 2 rfl) ?_
    refine lv_aload_n hx hb dX10_enviedBy_80 rfl (lv_at hl 1 rfl) ?_
    refine ge_10_1 hx hb hts (inU inW_X10) hown hK hP k_143 (hts _ (List.mem_cons_of_mem _ lw_455)) dX10_enviedBy_81 ?_
    refine ge_1_1 hx hb hts (inU inW_X1) hown hK hP k_34 (hts _ (List.mem_cons_of_mem _ lw_420)) dX10_enviedBy_84 ?_
    refine lv_iload hx hb dX10_enviedBy_87 (lv_at hl 5 rfl) ?_
    obtain ⟨g2, h⟩ := gd_s h
    refine xl_14 hx hb hK hP k_60 l_60 (ix_in g2) dX10_enviedBy_89 ?_
    refine lv_iconst (v := 0) hx hb dX10_enviedBy_90 (by decide) ?_
    obtain ⟨r4, z5, h3, h⟩ := bd_s h
    refine x_Vi (Rz := (r4, z5)) (As := [.int v1, .int (z.1 60 (Int32.toNatClampNeg v4)), .int 0]) (rest := []) ⟨hx, hb, hml, hown, hts⟩ hK hP hS (kd_lt k_143 (by decide)) (cell_10 k_143) rfl (m_X10_ofPiece hG   h3) (cwV 3 hts (gV lw_1201 lw_967 lw_968 lw_119 lw_969) rfl rfl rfl (by decide +kernel) (rmd_ok (by decide) (by decide))) rfl hl.1 rfl (Nat.le_of_ble_eq_true rfl) dX10_enviedBy_91 ⟨Nat.le_refl _, Nat.le_refl _⟩ (fun H locs hP hS => ?_)
    refine lv_iload_n hx hb dX10_enviedBy_94 rfl (lv_at hl 3 rfl) ?_
    refine lv_icmp_le (tgt := 105) hx hb dX10_enviedBy_95 (by decide) (fun c6 => ?_) (fun c6 => ?_)
    · rw [if_pos c6] at h
      exact pf_X10_enviedBy_105 C  hk_34 v1 v2 v3 v4 z5  hP hS (lv_sub hl [1, 2, 3, 4, 5] rfl) h
    · rw [if_neg c6] at h
      refine lv_iload_n hx hb dX10_enviedBy_98 rfl (lv_at hl 4 rfl) ?_
      refine lv_iconst (v := 1) hx hb dX10_enviedBy_99 (by decide) ?_
      refine lv_iload hx hb dX10_enviedBy_100 (lv_at hl 5 rfl) ?_
      refine lv_ishl hx hb dX10_enviedBy_102 ?_
      refine lv_ior hx hb dX10_enviedBy_103 ?_
      obtain ⟨v3_7, e_v3_7, h⟩ := nm_s h
      refine x_top e_v3_7 ?_
      refine lv_istore_n (lv' := [(3, .int v3_7), (5, .int tv0), (0, .ref (G.2.2 143)), (1, .int v1), (2, .int v2), (4, .int v4)]) hx hb dX10_enviedBy_104 rfl hl (by decide) rfl (fun ls hl => ?_)
      exact pf_X10_enviedBy_105 C  hk_34 v1 v2 v3_7 v4 z5  hP hS (lv_sub hl [2, 3, 4, 0, 5] rfl) h
def fn_X10_enviedBy_70 (k34 : Int32 → Int32 → Int32 → Int32 → St → Option (Int32 × St)) (v1 : Int32) (v2 : Int32) (v3 : Int32) (v4 : Int32) (z : St) : Option (Int32 × St) := fn_X10_enviedBy_71  k34 v1 v2 v3 v4 0 z
set_option maxHeartbeats 4000000 in
set_option maxRecDepth 100000 in
theorem pf_X10_enviedBy_70 {p : Program} {l : Launch} {e : Env} {s : State} {m : MethodId} {args : Array Value} {below : List Frame} {meth : Method} {c : Code} {G : wG} (C : CX p s m args meth c cX10_enviedBy 6 (wsU yX10_enviedBy cX10_enviedBy 6 (some .int)) RX10 (some .int) G) {Rz : Int32 × St} {k34 : Int32 → Int32 → Int32 → Int32 → St → Option (Int32 × St)} (hk_34 : ∀ (v1 : Int32) (v2 : Int32) (v3 : Int32) (v4 : Int32) (z : St)  (H : Heap) (locs : List Loc) (ls : Array Slot), WP G z H → va_S (AW G) s.heap H locs → lv_has ls 6 [(0, .ref (G.2.2 143)), (1, .int v1), (2, .int v2), (3, .int v3), (4, .int v4)] → k34 v1 v2 v3 v4 z = some Rz → W p l e (rmd 6) s m args below meth c H locs 0 0 (QI below args s G Rz) (F0 m 34 ls [])) (v1 : Int32) (v2 : Int32) (v3 : Int32) (v4 : Int32) (z : St)  {H : Heap} {locs : List Loc} {ls : Array Slot} (hP : WP G z H) (hS : va_S (AW G) s.heap H locs) (hl : lv_has ls 6 [(0, .ref (G.2.2 143)), (1, .int v1), (2, .int v2), (3, .int v3), (4, .int v4)]) (h : fn_X10_enviedBy_70  k34 v1 v2 v3 v4 z = some Rz) : W p l e (rmd 6) s m args below meth c H locs 0 0 (QI below args s G Rz) (F0 m 70 ls []) := by
  obtain ⟨hx, hb, hml, hown, hts, hr, hlocks, hK, hG⟩ := id C
  unfold fn_X10_enviedBy_70 at h
  refine lv_iconst (v := 0) hx hb dX10_enviedBy_70 (by decide) ?_
  exact pf_X10_enviedBy_71 C  hk_34 v1 v2 v3 v4 0 z  hP hS (lv_sub hl [0, 1, 2, 3, 4] rfl) h
def fn_X10_enviedBy_34 : Nat → Int32 → Int32 → Int32 → Int32 → St → Option (Int32 × St)
  | 0, _, _, _, _, _ => none
  | n + 1, v1, v2, v3, v4, z => (if (z.1 2 5) ≤ v4 then some (v3, z) else (if v4 = v1 then fn_X10_enviedBy_70  (fn_X10_enviedBy_34   n) v1 v2 v3 v4 z else gd (ix v4 6) ((if (z.1 60 (Int32.toNatClampNeg v4)) = (-1) then fn_X10_enviedBy_70  (fn_X10_enviedBy_34   n) v1 v2 v3 v4 z else fn_X10_enviedBy_71  (fn_X10_enviedBy_34   n) v1 v2 v3 v4 1 z))))
set_option maxHeartbeats 4000000 in
set_option maxRecDepth 100000 in
theorem pf_X10_enviedBy_34 {p : Program} {l : Launch} {e : Env} {s : State} {m : MethodId} {args : Array Value} {below : List Frame} {meth : Method} {c : Code} {G : wG} (C : CX p s m args meth c cX10_enviedBy 6 (wsU yX10_enviedBy cX10_enviedBy 6 (some .int)) RX10 (some .int) G) {Rz : Int32 × St} : ∀ (n : Nat) (v1 : Int32) (v2 : Int32) (v3 : Int32) (v4 : Int32) (z : St)  (H : Heap) (locs : List Loc) (ls : Array Slot), WP G z H → va_S (AW G) s.heap H locs → lv_has ls 6 [(0, .ref (G.2.2 143)), (1, .int v1), (2, .int v2), (3, .int v3), (4, .int v4)] → fn_X10_enviedBy_34   n v1 v2 v3 v4 z = some Rz → W p l e (rmd 6) s m args below meth c H locs 0 0 (QI below args s G Rz) (F0 m 34 ls []) := by
  obtain ⟨hx, hb, hml, hown, hts, hr, hlocks, hK, hG⟩ := id C
  intro n
  induction n with
  | zero => intro v1 v2 v3 v4 z  H locs ls hP hS hl h; cases h
  | succ n ih =>
    intro v1 v2 v3 v4 z  H locs ls hP hS hl h
    rw [fn_X10_enviedBy_34] at h
    refine lv_iload hx hb dX10_enviedBy_34 (lv_at hl 4 rfl) ?_
    refine lv_aload_n hx hb dX10_enviedBy_36 rfl (lv_at hl 0 rfl) ?_
    refine ge_10_0 hx hb hts (inU inW_X10) hown hK hP k_143 (hts _ (List.mem_cons_of_mem _ lw_454)) dX10_enviedBy_37 ?_
    refine ge_7_5 hx hb hts (inU inW_X7) hown hK hP k_2 (hts _ (List.mem_cons_of_mem _ lw_198)) dX10_enviedBy_40 ?_
    refine lv_icmp_ge (tgt := 111) hx hb dX10_enviedBy_43 (by decide) (fun c1 => ?_) (fun c1 => ?_)
    · rw [if_pos c1] at h
      refine lv_iload_n hx hb dX10_enviedBy_111 rfl (lv_at hl 3 rfl) ?_
      exact x_iret hx hb hr hlocks hK hP hS h dX10_enviedBy_112
    · rw [if_neg c1] at h
      refine lv_iload hx hb dX10_enviedBy_46 (lv_at hl 4 rfl) ?_
      refine lv_iload_n hx hb dX10_enviedBy_48 rfl (lv_at hl 1 rfl) ?_
      refine lv_icmp_eq (tgt := 70) hx hb dX10_enviedBy_49 (by decide) (fun c2 => ?_) (fun c2 => ?_)
      · rw [if_pos c2] at h
        exact pf_X10_enviedBy_70 C  ih v1 v2 v3 v4 z  hP hS (lv_sub hl [0, 1, 2, 3, 4] rfl) h
      · rw [if_neg c2] at h
        refine lv_aload_n hx hb dX10_enviedBy_52 rfl (lv_at hl 0 rfl) ?_
        refine ge_10_1 hx hb hts (inU inW_X10) hown hK hP k_143 (hts _ (List.mem_cons_of_mem _ lw_455)) dX10_enviedBy_53 ?_
        refine ge_1_1 hx hb hts (inU inW_X1) hown hK hP k_34 (hts _ (List.mem_cons_of_mem _ lw_420)) dX10_enviedBy_56 ?_
        refine lv_iload hx hb dX10_enviedBy_59 (lv_at hl 4 rfl) ?_
        obtain ⟨g3, h⟩ := gd_s h
        refine xl_14 hx hb hK hP k_60 l_60 (ix_in g3) dX10_enviedBy_61 ?_
        refine lv_iconst (v := (-1)) hx hb dX10_enviedBy_62 (by decide) ?_
        refine lv_icmp_eq (tgt := 70) hx hb dX10_enviedBy_63 (by decide) (fun c4 => ?_) (fun c4 => ?_)
        · rw [if_pos c4] at h
          exact pf_X10_enviedBy_70 C  ih v1 v2 v3 v4 z  hP hS (lv_sub hl [0, 1, 2, 3, 4] rfl) h
        · rw [if_neg c4] at h
          refine lv_iconst (v := 1) hx hb dX10_enviedBy_66 (by decide) ?_
          refine lv_goto (tgt := 71) hx hb dX10_enviedBy_67 (by decide) ?_
          exact pf_X10_enviedBy_71 C  ih v1 v2 v3 v4 1 z  hP hS (lv_sub hl [0, 1, 2, 3, 4] rfl) h
def fn_X10_enviedBy (v1 : Int32) (z : St) : Option (Int32 × St) := bd (fn_X7_isGuest  2 v1 z) (fun r2 z3 => (if r2 = 0 then some (0, z3) else gd (ix v1 6) (bd (fn_X10_ofPiece  v1 (z3.1 60 (Int32.toNatClampNeg v1)) 0 z3) (fun r7 z8 => fn_X10_enviedBy_34   fu v1 r7 0 0 z8))))
set_option maxHeartbeats 4000000 in
set_option maxRecDepth 100000 in
theorem m_X10_enviedBy {l : Launch} {G : wG} (hG : Ok G) {v1 : Int32} {z : St} {Rz : Int32 × St}  (h : fn_X10_enviedBy  v1 z = some Rz) : Met l yX10_enviedBy (wsU yX10_enviedBy cX10_enviedBy 6 (some .int)) (rmd 6) (va_Pc [.ref (G.2.2 143), .int v1] (Pre G z)) (va_Qi (fun r u => (r, u) = Rz) (Pre G) (AW G)) 0 0 (AW G) := by
  refine Met.ofW (cc := cX10_enviedBy) (maxL := 6) (ret := (some .int)) (by decide) rfl ?_
  intro p e s m args below meth c s₁ B hml hv
  obtain ⟨rfl, hP, hK⟩ := hv
  have C : CX p s m ([.ref (G.2.2 143), .int v1] : List Value).toArray meth c cX10_enviedBy 6 (wsU yX10_enviedBy cX10_enviedBy 6 (some .int)) RX10 (some .int) G := ⟨B.exec, B.bytes, hml, findClass_of_methodNamed B.named, atoms_spec (ws := (wsU yX10_enviedBy cX10_enviedBy 6 (some .int))) B.pre, B.returns, B.notSynchronized, hK, hG⟩
  obtain ⟨hx, hb, -, hown, hts, hr, hlocks, -, -⟩ := id C
  have hS : va_S (AW G) s.heap s.heap [] := va_S.rf
  have hl := lv_entry [.ref (G.2.2 143), .int v1] (n := 6) (Nat.le_of_ble_eq_true rfl)
  rw [lg_entry_eq]
  generalize (lg_sl [.ref (G.2.2 143), .int v1] ++ List.replicate (6 - (lg_sl [.ref (G.2.2 143), .int v1]).length) Slot.unset).toArray = ls at hl ⊢
  have hl : lv_has ls 6 [(0, .ref (G.2.2 143)), (1, .int v1)] := hl
  unfold fn_X10_enviedBy at h
  refine lv_aload_n hx hb dX10_enviedBy_0 rfl (lv_at hl 0 rfl) ?_
  refine ge_10_0 hx hb hts (inU inW_X10) hown hK hP k_143 (hts _ (List.mem_cons_of_mem _ lw_454)) dX10_enviedBy_1 ?_
  refine lv_iload_n hx hb dX10_enviedBy_4 rfl (lv_at hl 1 rfl) ?_
  obtain ⟨r2, z3, h1, h⟩ := bd_s h
  refine x_Vi (Rz := (r2, z3)) (As := [.int v1]) (rest := []) ⟨hx, hb, hml, hown, hts⟩ hK hP hS (kd_lt k_2 (by decide)) (cell_7 k_2) rfl (m_X7_isGuest hG  k_2 h1) (cwV 1 hts (gV lw_981 lw_963 lw_964 lw_110 lw_965) rfl rfl rfl (by decide +kernel) (rmd_ok (by decide) (by decide))) rfl hl.1 rfl (Nat.le_of_ble_eq_true rfl) dX10_enviedBy_5 ⟨Nat.le_refl _, Nat.le_refl _⟩ (fun H locs hP hS => ?_)
  refine lv_if_ne (tgt := 13) hx hb dX10_enviedBy_8 (by decide) (fun c4 => ?_) (fun c4 => ?_)
  · rw [if_neg c4] at h
    refine lv_aload_n hx hb dX10_enviedBy_13 rfl (lv_at hl 0 rfl) ?_
    refine lv_iload_n hx hb dX10_enviedBy_14 rfl (lv_at hl 1 rfl) ?_
    refine lv_aload_n hx hb dX10_enviedBy_15 rfl (lv_at hl 0 rfl) ?_
    refine ge_10_1 hx hb hts (inU inW_X10) hown hK hP k_143 (hts _ (List.mem_cons_of_mem _ lw_455)) dX10_enviedBy_16 ?_
    refine ge_1_1 hx hb hts (inU inW_X1) hown hK hP k_34 (hts _ (List.mem_cons_of_mem _ lw_420)) dX10_enviedBy_19 ?_
    refine lv_iload_n hx hb dX10_enviedBy_22 rfl (lv_at hl 1 rfl) ?_
    obtain ⟨g5, h⟩ := gd_s h
    refine xl_14 hx hb hK hP k_60 l_60 (ix_in g5) dX10_enviedBy_23 ?_
    refine lv_iconst (v := 0) hx hb dX10_enviedBy_24 (by decide) ?_
    obtain ⟨r7, z8, h6, h⟩ := bd_s h
    refine x_Vi (Rz := (r7, z8)) (As := [.int v1, .int (z3.1 60 (Int32.toNatClampNeg v1)), .int 0]) (rest := []) ⟨hx, hb, hml, hown, hts⟩ hK hP hS (kd_lt k_143 (by decide)) (cell_10 k_143) rfl (m_X10_ofPiece hG   h6) (cwV 3 hts (gV lw_1201 lw_967 lw_968 lw_119 lw_969) rfl rfl rfl (by decide +kernel) (rmd_ok (by decide) (by decide))) rfl hl.1 rfl (Nat.le_of_ble_eq_true rfl) dX10_enviedBy_25 ⟨Nat.le_refl _, Nat.le_refl _⟩ (fun H locs hP hS => ?_)
    refine lv_istore_n (lv' := [(2, .int r7), (0, .ref (G.2.2 143)), (1, .int v1)]) hx hb dX10_enviedBy_28 rfl hl (by decide) rfl (fun ls hl => ?_)
    refine lv_iconst (v := 0) hx hb dX10_enviedBy_29 (by decide) ?_
    refine lv_istore_n (lv' := [(3, .int 0), (2, .int r7), (0, .ref (G.2.2 143)), (1, .int v1)]) hx hb dX10_enviedBy_30 rfl hl (by decide) rfl (fun ls hl => ?_)
    refine lv_iconst (v := 0) hx hb dX10_enviedBy_31 (by decide) ?_
    refine lv_istore (lv' := [(4, .int 0), (3, .int 0), (2, .int r7), (0, .ref (G.2.2 143)), (1, .int v1)]) hx hb dX10_enviedBy_32 hl (by decide) rfl (fun ls hl => ?_)
    exact pf_X10_enviedBy_34 C   fu v1 r7 0 0 z8  _ _ _ hP hS (lv_sub hl [3, 4, 2, 1, 0] rfl) h
  · rw [if_pos c4] at h
    refine lv_iconst (v := 0) hx hb dX10_enviedBy_11 (by decide) ?_
    exact x_iret hx hb hr hlocks hK hP hS h dX10_enviedBy_12
def fn_X10_exchanged (v0 : Int32) (v1 : Int32) (v2 : Int32) (z : St) : Option (Int32 × St) := (if v0 = v1 then some (v2, z) else (if v0 = v2 then some (v1, z) else some (v0, z)))
set_option maxHeartbeats 4000000 in
set_option maxRecDepth 100000 in
theorem m_X10_exchanged {l : Launch} {G : wG} (hG : Ok G) {v0 : Int32} {v1 : Int32} {v2 : Int32} {z : St} {Rz : Int32 × St}  (h : fn_X10_exchanged  v0 v1 v2 z = some Rz) : Met l yX10_exchanged (wsU yX10_exchanged cX10_exchanged 3 (some .int)) (rmd 1) (va_Pc [.int v0, .int v1, .int v2] (Pre G z)) (va_Qi (fun r u => (r, u) = Rz) (Pre G) (AW G)) 0 0 (AW G) := by
  refine Met.ofW (cc := cX10_exchanged) (maxL := 3) (ret := (some .int)) (by decide) rfl ?_
  intro p e s m args below meth c s₁ B hml hv
  obtain ⟨rfl, hP, hK⟩ := hv
  have C : CX p s m ([.int v0, .int v1, .int v2] : List Value).toArray meth c cX10_exchanged 3 (wsU yX10_exchanged cX10_exchanged 3 (some .int)) RX10 (some .int) G := ⟨B.exec, B.bytes, hml, findClass_of_methodNamed B.named, atoms_spec (ws := (wsU yX10_exchanged cX10_exchanged 3 (some .int))) B.pre, B.returns, B.notSynchronized, hK, hG⟩
  obtain ⟨hx, hb, -, hown, hts, hr, hlocks, -, -⟩ := id C
  have hS : va_S (AW G) s.heap s.heap [] := va_S.rf
  have hl := lv_entry [.int v0, .int v1, .int v2] (n := 3) (Nat.le_of_ble_eq_true rfl)
  rw [lg_entry_eq]
  generalize (lg_sl [.int v0, .int v1, .int v2] ++ List.replicate (3 - (lg_sl [.int v0, .int v1, .int v2]).length) Slot.unset).toArray = ls at hl ⊢
  have hl : lv_has ls 3 [(0, .int v0), (1, .int v1), (2, .int v2)] := hl
  unfold fn_X10_exchanged at h
  refine lv_iload_n hx hb dX10_exchanged_0 rfl (lv_at hl 0 rfl) ?_
  refine lv_iload_n hx hb dX10_exchanged_1 rfl (lv_at hl 1 rfl) ?_
  refine lv_icmp_ne (tgt := 9) hx hb dX10_exchanged_2 (by decide) (fun c1 => ?_) (fun c1 => ?_)
  · rw [if_neg c1] at h
    refine lv_iload_n hx hb dX10_exchanged_9 rfl (lv_at hl 0 rfl) ?_
    refine lv_iload_n hx hb dX10_exchanged_10 rfl (lv_at hl 2 rfl) ?_
    refine lv_icmp_ne (tgt := 18) hx hb dX10_exchanged_11 (by decide) (fun c2 => ?_) (fun c2 => ?_)
    · rw [if_neg c2] at h
      refine lv_iload_n hx hb dX10_exchanged_18 rfl (lv_at hl 0 rfl) ?_
      exact x_iret hx hb hr hlocks hK hP hS h dX10_exchanged_19
    · rw [if_pos c2] at h
      refine lv_iload_n hx hb dX10_exchanged_14 rfl (lv_at hl 1 rfl) ?_
      refine lv_goto (tgt := 19) hx hb dX10_exchanged_15 (by decide) ?_
      exact x_iret hx hb hr hlocks hK hP hS h dX10_exchanged_19
  · rw [if_pos c1] at h
    refine lv_iload_n hx hb dX10_exchanged_5 rfl (lv_at hl 2 rfl) ?_
    refine lv_goto (tgt := 19) hx hb dX10_exchanged_6 (by decide) ?_
    exact x_iret hx hb hr hlocks hK hP hS h dX10_exchanged_19
def fn_X10_enviesAfter_112 (k5 : Int32 → Int32 → Int32 → Int32 → St → Option (Int32 × St)) (k44 : Int32 → Int32 → Int32 → Int32 → Int32 → Int32 → Int32 → St → Option (Int32 × St)) (v1 : Int32) (v2 : Int32) (v3 : Int32) (v4 : Int32) (v5 : Int32) (v6 : Int32) (v7 : Int32) (z : St) : Option (Int32 × St) := k44 v1 v2 v3 v4 v5 v6 (v7 + 1) z
set_option maxHeartbeats 4000000 in
set_option maxRecDepth 100000 in
theorem pf_X10_enviesAfter_112 {p : Program} {l : Launch} {e : Env} {s : State} {m : MethodId} {args : Array Value} {below : List Frame} {meth : Method} {c : Code} {G : wG} (C : CX p s m args meth c cX10_enviesAfter 9 (wsU yX10_enviesAfter cX10_enviesAfter 9 (some .int)) RX10 (some .int) G) {Rz : Int32 × St} {k5 : Int32 → Int32 → Int32 → Int32 → St → Option (Int32 × St)} {k44 : Int32 → Int32 → Int32 → Int32 → Int32 → Int32 → Int32 → St → Option (Int32 × St)} (hk_5 : ∀ (v1 : Int32) (v2 : Int32) (v3 : Int32) (v4 : Int32) (z : St)  (H : Heap) (locs : List Loc) (ls : Array Slot), WP G z H → va_S (AW G) s.heap H locs → lv_has ls 9 [(0, .ref (G.2.2 143)), (1, .int v1), (2, .int v2), (3, .int v3), (4, .int v4)] → k5 v1 v2 v3 v4 z = some Rz → W p l e (rmd 2) s m args below meth c H locs 0 0 (QI below args s G Rz) (F0 m 5 ls [])) (hk_44 : ∀ (v1 : Int32) (v2 : Int32) (v3 : Int32) (v4 : Int32) (v5 : Int32) (v6 : Int32) (v7 : Int32) (z : St)  (H : Heap) (locs : List Loc) (ls : Array Slot), WP G z H → va_S (AW G) s.heap H locs → lv_has ls 9 [(0, .ref (G.2.2 143)), (1, .int v1), (2, .int v2), (3, .int v3), (4, .int v4), (5, .int v5), (6, .int v6), (7, .int v7)] → k44 v1 v2 v3 v4 v5 v6 v7 z = some Rz → W p l e (rmd 2) s m args below meth c H locs 0 0 (QI below args s G Rz) (F0 m 44 ls [])) (v1 : Int32) (v2 : Int32) (v3 : Int32) (v4 : Int32) (v5 : Int32) (v6 : Int32) (v7 : Int32) (z : St)  {H : Heap} {locs : List Loc} {ls : Array Slot} (hP : WP G z H) (hS : va_S (AW G) s.heap H locs) (hl : lv_has ls 9 [(0, .ref (G.2.2 143)), (1, .int v1), (2, .int v2), (3, .int v3), (4, .int v4), (5, .int v5), (6, .int v6), (7, .int v7)]) (h : fn_X10_enviesAfter_112  k5 k44 v1 v2 v3 v4 v5 v6 v7 z = some Rz) : W p l e (rmd 2) s m args below meth c H locs 0 0 (QI below args s G Rz) (F0 m 112 ls []) := by
  obtain ⟨hx, hb, hml, hown, hts, hr, hlocks, hK, hG⟩ := id C
  unfold fn_X10_enviesAfter_112 at h
  refine lv_iinc (v := (v7 + 1)) (lv' := [(7, .int (v7 + 1)), (0, .ref (G.2.2 143)), (1, .int v1), (2, .int v2), (3, .int v3), (4, .int v4), (5, .int v5), (6, .int v6)]) hx hb dX10_enviesAfter_112 hl (k := 7) rfl rfl (by decide) rfl (fun ls hl => ?_)
  refine lv_goto (tgt := 44) hx hb dX10_enviesAfter_115 (by decide) ?_
  exact hk_44 v1 v2 v3 v4 v5 v6 (v7 + 1) z  _ _ _ hP hS (lv_sub hl [1, 2, 3, 4, 5, 6, 7, 0] rfl) h
def fn_X10_enviesAfter_82 (k5 : Int32 → Int32 → Int32 → Int32 → St → Option (Int32 × St)) (k44 : Int32 → Int32 → Int32 → Int32 → Int32 → Int32 → Int32 → St → Option (Int32 × St)) (v1 : Int32) (v2 : Int32) (v3 : Int32) (v4 : Int32) (v5 : Int32) (v6 : Int32) (v7 : Int32) (tv0 : Int32) (z : St) : Option (Int32 × St) := (if tv0 = 0 then fn_X10_enviesAfter_112  k5 k44 v1 v2 v3 v4 v5 v6 v7 z else bd (fn_X10_exchanged  v7 v1 v2 z) (fun r3 z4 => gd (ix (v5 + r3) 36) ((if (z4.1 145 (Int32.toNatClampNeg (v5 + r3))) ≤ v6 then fn_X10_enviesAfter_112  k5 k44 v1 v2 v3 v4 v5 v6 v7 z4 else fn_X10_enviesAfter_112  k5 k44 v1 v2 (v3 + 1) v4 v5 v6 v7 z4))))
set_option maxHeartbeats 4000000 in
set_option maxRecDepth 100000 in
theorem pf_X10_enviesAfter_82 {p : Program} {l : Launch} {e : Env} {s : State} {m : MethodId} {args : Array Value} {below : List Frame} {meth : Method} {c : Code} {G : wG} (C : CX p s m args meth c cX10_enviesAfter 9 (wsU yX10_enviesAfter cX10_enviesAfter 9 (some .int)) RX10 (some .int) G) {Rz : Int32 × St} {k5 : Int32 → Int32 → Int32 → Int32 → St → Option (Int32 × St)} {k44 : Int32 → Int32 → Int32 → Int32 → Int32 → Int32 → Int32 → St → Option (Int32 × St)} (hk_5 : ∀ (v1 : Int32) (v2 : Int32) (v3 : Int32) (v4 : Int32) (z : St)  (H : Heap) (locs : List Loc) (ls : Array Slot), WP G z H → va_S (AW G) s.heap H locs → lv_has ls 9 [(0, .ref (G.2.2 143)), (1, .int v1), (2, .int v2), (3, .int v3), (4, .int v4)] → k5 v1 v2 v3 v4 z = some Rz → W p l e (rmd 2) s m args below meth c H locs 0 0 (QI below args s G Rz) (F0 m 5 ls [])) (hk_44 : ∀ (v1 : Int32) (v2 : Int32) (v3 : Int32) (v4 : Int32) (v5 : Int32) (v6 : Int32) (v7 : Int32) (z : St)  (H : Heap) (locs : List Loc) (ls : Array Slot), WP G z H → va_S (AW G) s.heap H locs → lv_has ls 9 [(0, .ref (G.2.2 143)), (1, .int v1), (2, .int v2), (3, .int v3), (4, .int v4), (5, .int v5), (6, .int v6), (7, .int v7)] → k44 v1 v2 v3 v4 v5 v6 v7 z = some Rz → W p l e (rmd 2) s m args below meth c H locs 0 0 (QI below args s G Rz) (F0 m 44 ls [])) (v1 : Int32) (v2 : Int32) (v3 : Int32) (v4 : Int32) (v5 : Int32) (v6 : Int32) (v7 : Int32) (tv0 : Int32) (z : St)  {H : Heap} {locs : List Loc} {ls : Array Slot} (hP : WP G z H) (hS : va_S (AW G) s.heap H locs) (hl : lv_has ls 9 [(0, .ref (G.2.2 143)), (1, .int v1), (2, .int v2), (3, .int v3), (4, .int v4), (5, .int v5), (6, .int v6), (7, .int v7)]) (h : fn_X10_enviesAfter_82  k5 k44 v1 v2 v3 v4 v5 v6 v7 tv0 z = some Rz) : W p l e (rmd 2) s m args below meth c H locs 0 0 (QI below args s G Rz) (F0 m 82 ls [.int tv0]) := by
  obtain ⟨hx, hb, hml, hown, hts, hr, hlocks, hK, hG⟩ := id C
  unfold fn_X10_enviesAfter_82 at h
  refine lv_istore (lv' := [(8, .int tv0), (0, .ref (G.2.2 143)), (1, .int v1), (2, .int v2), (3, .int v3), (4, .int v4), (5, .int v5), (6, .int v6), (7, .int v7)]) hx hb dX10_enviesAfter_82 hl (by decide) rfl (fun ls hl => ?_)
  refine lv_iload hx hb dX10_enviesAfter_84 (lv_at hl 0 rfl) ?_
  refine lv_if_eq (tgt := 112) hx hb dX10_enviesAfter_86 (by decide) (fun c1 => ?_) (fun c1 => ?_)
  · rw [if_pos c1] at h
    exact pf_X10_enviesAfter_112 C  hk_5 hk_44 v1 v2 v3 v4 v5 v6 v7 z  hP hS (lv_sub hl [1, 2, 3, 4, 5, 6, 7, 8] rfl) h
  · rw [if_neg c1] at h
    refine lv_aload_n hx hb dX10_enviesAfter_89 rfl (lv_at hl 1 rfl) ?_
    refine ge_10_3 hx hb hts (inU inW_X10) hown hK hP k_143 (hts _ (List.mem_cons_of_mem _ lw_457)) dX10_enviesAfter_90 ?_
    refine lv_iload hx hb dX10_enviesAfter_93 (lv_at hl 6 rfl) ?_
    refine lv_iload hx hb dX10_enviesAfter_95 (lv_at hl 8 rfl) ?_
    refine lv_iload_n hx hb dX10_enviesAfter_97 rfl (lv_at hl 2 rfl) ?_
    refine lv_iload_n hx hb dX10_enviesAfter_98 rfl (lv_at hl 3 rfl) ?_
    obtain ⟨r3, z4, h2, h⟩ := bd_s h
    refine x_Si (Rz := (r3, z4)) (As := [.int v7, .int v1, .int v2]) (rest := [.int v5, .ref (G.2.2 145)]) ⟨hx, hb, hml, hown, hts⟩ hK hP hS (m_X10_exchanged hG   h2) (va_cwS 3 hts (gS lw_1224 lw_1225 lw_119 lw_1226) rfl rfl rfl (by decide +kernel) (rmd_ok (by decide) (by decide))) rfl hl.1 rfl (Nat.le_of_ble_eq_true rfl) dX10_enviesAfter_99 ⟨Nat.le_refl _, Nat.le_refl _⟩ (fun H locs hP hS => ?_)
    refine lv_iadd hx hb dX10_enviesAfter_102 ?_
    obtain ⟨g5, h⟩ := gd_s h
    refine xl_14 hx hb hK hP k_145 l_145 (ix_in g5) dX10_enviesAfter_103 ?_
    refine lv_iload hx hb dX10_enviesAfter_104 (lv_at hl 7 rfl) ?_
    refine lv_icmp_le (tgt := 112) hx hb dX10_enviesAfter_106 (by decide) (fun c6 => ?_) (fun c6 => ?_)
    · rw [if_pos c6] at h
      exact pf_X10_enviesAfter_112 C  hk_5 hk_44 v1 v2 v3 v4 v5 v6 v7 z4  hP hS (lv_sub hl [1, 2, 3, 4, 5, 6, 7, 8] rfl) h
    · rw [if_neg c6] at h
      refine lv_iinc (v := (v3 + 1)) (lv' := [(3, .int (v3 + 1)), (8, .int tv0), (0, .ref (G.2.2 143)), (1, .int v1), (2, .int v2), (4, .int v4), (5, .int v5), (6, .int v6), (7, .int v7)]) hx hb dX10_enviesAfter_109 hl (k := 4) rfl rfl (by decide) rfl (fun ls hl => ?_)
      exact pf_X10_enviesAfter_112 C  hk_5 hk_44 v1 v2 (v3 + 1) v4 v5 v6 v7 z4  hP hS (lv_sub hl [2, 3, 4, 0, 5, 6, 7, 8] rfl) h
def fn_X10_enviesAfter_81 (k5 : Int32 → Int32 → Int32 → Int32 → St → Option (Int32 × St)) (k44 : Int32 → Int32 → Int32 → Int32 → Int32 → Int32 → Int32 → St → Option (Int32 × St)) (v1 : Int32) (v2 : Int32) (v3 : Int32) (v4 : Int32) (v5 : Int32) (v6 : Int32) (v7 : Int32) (z : St) : Option (Int32 × St) := fn_X10_enviesAfter_82  k5 k44 v1 v2 v3 v4 v5 v6 v7 0 z
set_option maxHeartbeats 4000000 in
set_option maxRecDepth 100000 in
theorem pf_X10_enviesAfter_81 {p : Program} {l : Launch} {e : Env} {s : State} {m : MethodId} {args : Array Value} {below : List Frame} {meth : Method} {c : Code} {G : wG} (C : CX p s m args meth c cX10_enviesAfter 9 (wsU yX10_enviesAfter cX10_enviesAfter 9 (some .int)) RX10 (some .int) G) {Rz : Int32 × St} {k5 : Int32 → Int32 → Int32 → Int32 → St → Option (Int32 × St)} {k44 : Int32 → Int32 → Int32 → Int32 → Int32 → Int32 → Int32 → St → Option (Int32 × St)} (hk_5 : ∀ (v1 : Int32) (v2 : Int32) (v3 : Int32) (v4 : Int32) (z : St)  (H : Heap) (locs : List Loc) (ls : Array Slot), WP G z H → va_S (AW G) s.heap H locs → lv_has ls 9 [(0, .ref (G.2.2 143)), (1, .int v1), (2, .int v2), (3, .int v3), (4, .int v4)] → k5 v1 v2 v3 v4 z = some Rz → W p l e (rmd 2) s m args below meth c H locs 0 0 (QI below args s G Rz) (F0 m 5 ls [])) (hk_44 : ∀ (v1 : Int32) (v2 : Int32) (v3 : Int32) (v4 : Int32) (v5 : Int32) (v6 : Int32) (v7 : Int32) (z : St)  (H : Heap) (locs : List Loc) (ls : Array Slot), WP G z H → va_S (AW G) s.heap H locs → lv_has ls 9 [(0, .ref (G.2.2 143)), (1, .int v1), (2, .int v2), (3, .int v3), (4, .int v4), (5, .int v5), (6, .int v6), (7, .int v7)] → k44 v1 v2 v3 v4 v5 v6 v7 z = some Rz → W p l e (rmd 2) s m args below meth c H locs 0 0 (QI below args s G Rz) (F0 m 44 ls [])) (v1 : Int32) (v2 : Int32) (v3 : Int32) (v4 : Int32) (v5 : Int32) (v6 : Int32) (v7 : Int32) (z : St)  {H : Heap} {locs : List Loc} {ls : Array Slot} (hP : WP G z H) (hS : va_S (AW G) s.heap H locs) (hl : lv_has ls 9 [(0, .ref (G.2.2 143)), (1, .int v1), (2, .int v2), (3, .int v3), (4, .int v4), (5, .int v5), (6, .int v6), (7, .int v7)]) (h : fn_X10_enviesAfter_81  k5 k44 v1 v2 v3 v4 v5 v6 v7 z = some Rz) : W p l e (rmd 2) s m args below meth c H locs 0 0 (QI below args s G Rz) (F0 m 81 ls []) := by
  obtain ⟨hx, hb, hml, hown, hts, hr, hlocks, hK, hG⟩ := id C
  unfold fn_X10_enviesAfter_81 at h
  refine lv_iconst (v := 0) hx hb dX10_enviesAfter_81 (by decide) ?_
  exact pf_X10_enviesAfter_82 C  hk_5 hk_44 v1 v2 v3 v4 v5 v6 v7 0 z  hP hS (lv_sub hl [0, 1, 2, 3, 4, 5, 6, 7] rfl) h
def fn_X10_enviesAfter_44 (k5 : Int32 → Int32 → Int32 → Int32 → St → Option (Int32 × St)) : Nat → Int32 → Int32 → Int32 → Int32 → Int32 → Int32 → Int32 → St → Option (Int32 × St)
  | 0, _, _, _, _, _, _, _, _ => none
  | n + 1, v1, v2, v3, v4, v5, v6, v7, z => (if (z.1 2 5) ≤ v7 then k5 v1 v2 v3 (v4 + 1) z else (if v7 = v4 then fn_X10_enviesAfter_81  k5 (fn_X10_enviesAfter_44  k5 n) v1 v2 v3 v4 v5 v6 v7 z else gd (ix v7 6) ((if (z.1 60 (Int32.toNatClampNeg v7)) = (-1) then fn_X10_enviesAfter_81  k5 (fn_X10_enviesAfter_44  k5 n) v1 v2 v3 v4 v5 v6 v7 z else fn_X10_enviesAfter_82  k5 (fn_X10_enviesAfter_44  k5 n) v1 v2 v3 v4 v5 v6 v7 1 z))))
set_option maxHeartbeats 4000000 in
set_option maxRecDepth 100000 in
theorem pf_X10_enviesAfter_44 {p : Program} {l : Launch} {e : Env} {s : State} {m : MethodId} {args : Array Value} {below : List Frame} {meth : Method} {c : Code} {G : wG} (C : CX p s m args meth c cX10_enviesAfter 9 (wsU yX10_enviesAfter cX10_enviesAfter 9 (some .int)) RX10 (some .int) G) {Rz : Int32 × St} {k5 : Int32 → Int32 → Int32 → Int32 → St → Option (Int32 × St)} (hk_5 : ∀ (v1 : Int32) (v2 : Int32) (v3 : Int32) (v4 : Int32) (z : St)  (H : Heap) (locs : List Loc) (ls : Array Slot), WP G z H → va_S (AW G) s.heap H locs → lv_has ls 9 [(0, .ref (G.2.2 143)), (1, .int v1), (2, .int v2), (3, .int v3), (4, .int v4)] → k5 v1 v2 v3 v4 z = some Rz → W p l e (rmd 2) s m args below meth c H locs 0 0 (QI below args s G Rz) (F0 m 5 ls [])) : ∀ (n : Nat) (v1 : Int32) (v2 : Int32) (v3 : Int32) (v4 : Int32) (v5 : Int32) (v6 : Int32) (v7 : Int32) (z : St)  (H : Heap) (locs : List Loc) (ls : Array Slot), WP G z H → va_S (AW G) s.heap H locs → lv_has ls 9 [(0, .ref (G.2.2 143)), (1, .int v1), (2, .int v2), (3, .int v3), (4, .int v4), (5, .int v5), (6, .int v6), (7, .int v7)] → fn_X10_enviesAfter_44  k5 n v1 v2 v3 v4 v5 v6 v7 z = some Rz → W p l e (rmd 2) s m args below meth c H locs 0 0 (QI below args s G Rz) (F0 m 44 ls []) := by
  obtain ⟨hx, hb, hml, hown, hts, hr, hlocks, hK, hG⟩ := id C
  intro n
  induction n with
  | zero => intro v1 v2 v3 v4 v5 v6 v7 z  H locs ls hP hS hl h; cases h
  | succ n ih =>
    intro v1 v2 v3 v4 v5 v6 v7 z  H locs ls hP hS hl h
    rw [fn_X10_enviesAfter_44] at h
    refine lv_iload hx hb dX10_enviesAfter_44 (lv_at hl 7 rfl) ?_
    refine lv_aload_n hx hb dX10_enviesAfter_46 rfl (lv_at hl 0 rfl) ?_
    refine ge_10_0 hx hb hts (inU inW_X10) hown hK hP k_143 (hts _ (List.mem_cons_of_mem _ lw_454)) dX10_enviesAfter_47 ?_
    refine ge_7_5 hx hb hts (inU inW_X7) hown hK hP k_2 (hts _ (List.mem_cons_of_mem _ lw_198)) dX10_enviesAfter_50 ?_
    refine lv_icmp_ge (tgt := 118) hx hb dX10_enviesAfter_53 (by decide) (fun c1 => ?_) (fun c1 => ?_)
    · rw [if_pos c1] at h
      refine lv_iinc (v := (v4 + 1)) (lv' := [(4, .int (v4 + 1)), (0, .ref (G.2.2 143)), (1, .int v1), (2, .int v2), (3, .int v3), (5, .int v5), (6, .int v6), (7, .int v7)]) hx hb dX10_enviesAfter_118 hl (k := 4) rfl rfl (by decide) rfl (fun ls hl => ?_)
      refine lv_goto (tgt := 5) hx hb dX10_enviesAfter_121 (by decide) ?_
      exact hk_5 v1 v2 v3 (v4 + 1) z  _ _ _ hP hS (lv_sub hl [1, 2, 3, 4, 0] rfl) h
    · rw [if_neg c1] at h
      refine lv_iload hx hb dX10_enviesAfter_56 (lv_at hl 7 rfl) ?_
      refine lv_iload hx hb dX10_enviesAfter_58 (lv_at hl 4 rfl) ?_
      refine lv_icmp_eq (tgt := 81) hx hb dX10_enviesAfter_60 (by decide) (fun c2 => ?_) (fun c2 => ?_)
      · rw [if_pos c2] at h
        exact pf_X10_enviesAfter_81 C  hk_5 ih v1 v2 v3 v4 v5 v6 v7 z  hP hS (lv_sub hl [0, 1, 2, 3, 4, 5, 6, 7] rfl) h
      · rw [if_neg c2] at h
        refine lv_aload_n hx hb dX10_enviesAfter_63 rfl (lv_at hl 0 rfl) ?_
        refine ge_10_1 hx hb hts (inU inW_X10) hown hK hP k_143 (hts _ (List.mem_cons_of_mem _ lw_455)) dX10_enviesAfter_64 ?_
        refine ge_1_1 hx hb hts (inU inW_X1) hown hK hP k_34 (hts _ (List.mem_cons_of_mem _ lw_420)) dX10_enviesAfter_67 ?_
        refine lv_iload hx hb dX10_enviesAfter_70 (lv_at hl 7 rfl) ?_
        obtain ⟨g3, h⟩ := gd_s h
        refine xl_14 hx hb hK hP k_60 l_60 (ix_in g3) dX10_enviesAfter_72 ?_
        refine lv_iconst (v := (-1)) hx hb dX10_enviesAfter_73 (by decide) ?_
        refine lv_icmp_eq (tgt := 81) hx hb dX10_enviesAfter_74 (by decide) (fun c4 => ?_) (fun c4 => ?_)
        · rw [if_pos c4] at h
          exact pf_X10_enviesAfter_81 C  hk_5 ih v1 v2 v3 v4 v5 v6 v7 z  hP hS (lv_sub hl [0, 1, 2, 3, 4, 5, 6, 7] rfl) h
        · rw [if_neg c4] at h
          refine lv_iconst (v := 1) hx hb dX10_enviesAfter_77 (by decide) ?_
          refine lv_goto (tgt := 82) hx hb dX10_enviesAfter_78 (by decide) ?_
          exact pf_X10_enviesAfter_82 C  hk_5 ih v1 v2 v3 v4 v5 v6 v7 1 z  hP hS (lv_sub hl [0, 1, 2, 3, 4, 5, 6, 7] rfl) h
def fn_X10_enviesAfter_5 : Nat → Int32 → Int32 → Int32 → Int32 → St → Option (Int32 × St)
  | 0, _, _, _, _, _ => none
  | n + 1, v1, v2, v3, v4, z => (if (z.1 2 5) ≤ v4 then some (v3, z) else nm (v4 * 6) (fun v5_2 => bd (fn_X10_exchanged  v4 v1 v2 z) (fun r4 z5 => gd (ix (v5_2 + r4) 36) (nm (z5.1 145 (Int32.toNatClampNeg (v5_2 + r4))) (fun v6_7 => fn_X10_enviesAfter_44  (fn_X10_enviesAfter_5   n) fu v1 v2 v3 v4 v5_2 v6_7 0 z5)))))
set_option maxHeartbeats 4000000 in
set_option maxRecDepth 100000 in
theorem pf_X10_enviesAfter_5 {p : Program} {l : Launch} {e : Env} {s : State} {m : MethodId} {args : Array Value} {below : List Frame} {meth : Method} {c : Code} {G : wG} (C : CX p s m args meth c cX10_enviesAfter 9 (wsU yX10_enviesAfter cX10_enviesAfter 9 (some .int)) RX10 (some .int) G) {Rz : Int32 × St} : ∀ (n : Nat) (v1 : Int32) (v2 : Int32) (v3 : Int32) (v4 : Int32) (z : St)  (H : Heap) (locs : List Loc) (ls : Array Slot), WP G z H → va_S (AW G) s.heap H locs → lv_has ls 9 [(0, .ref (G.2.2 143)), (1, .int v1), (2, .int v2), (3, .int v3), (4, .int v4)] → fn_X10_enviesAfter_5   n v1 v2 v3 v4 z = some Rz → W p l e (rmd 2) s m args below meth c H locs 0 0 (QI below args s G Rz) (F0 m 5 ls []) := by
  obtain ⟨hx, hb, hml, hown, hts, hr, hlocks, hK, hG⟩ := id C
  intro n
  induction n with
  | zero => intro v1 v2 v3 v4 z  H locs ls hP hS hl h; cases h
  | succ n ih =>
    intro v1 v2 v3 v4 z  H locs ls hP hS hl h
    rw [fn_X10_enviesAfter_5] at h
    refine lv_iload hx hb dX10_enviesAfter_5 (lv_at hl 4 rfl) ?_
    refine lv_aload_n hx hb dX10_enviesAfter_7 rfl (lv_at hl 0 rfl) ?_
    refine ge_10_0 hx hb hts (inU inW_X10) hown hK hP k_143 (hts _ (List.mem_cons_of_mem _ lw_454)) dX10_enviesAfter_8 ?_
    refine ge_7_5 hx hb hts (inU inW_X7) hown hK hP k_2 (hts _ (List.mem_cons_of_mem _ lw_198)) dX10_enviesAfter_11 ?_
    refine lv_icmp_ge (tgt := 124) hx hb dX10_enviesAfter_14 (by decide) (fun c1 => ?_) (fun c1 => ?_)
    · rw [if_pos c1] at h
      refine lv_iload_n hx hb dX10_enviesAfter_124 rfl (lv_at hl 3 rfl) ?_
      exact x_iret hx hb hr hlocks hK hP hS h dX10_enviesAfter_125
    · rw [if_neg c1] at h
      refine lv_iload hx hb dX10_enviesAfter_17 (lv_at hl 4 rfl) ?_
      refine lv_bipush (v := 6) hx hb dX10_enviesAfter_19 (by decide) ?_
      refine lv_imul hx hb dX10_enviesAfter_21 ?_
      obtain ⟨v5_2, e_v5_2, h⟩ := nm_s h
      refine x_top e_v5_2 ?_
      refine lv_istore (lv' := [(5, .int v5_2), (0, .ref (G.2.2 143)), (1, .int v1), (2, .int v2), (3, .int v3), (4, .int v4)]) hx hb dX10_enviesAfter_22 hl (by decide) rfl (fun ls hl => ?_)
      refine lv_aload_n hx hb dX10_enviesAfter_24 rfl (lv_at hl 1 rfl) ?_
      refine ge_10_3 hx hb hts (inU inW_X10) hown hK hP k_143 (hts _ (List.mem_cons_of_mem _ lw_457)) dX10_enviesAfter_25 ?_
      refine lv_iload hx hb dX10_enviesAfter_28 (lv_at hl 0 rfl) ?_
      refine lv_iload hx hb dX10_enviesAfter_30 (lv_at hl 5 rfl) ?_
      refine lv_iload_n hx hb dX10_enviesAfter_32 rfl (lv_at hl 2 rfl) ?_
      refine lv_iload_n hx hb dX10_enviesAfter_33 rfl (lv_at hl 3 rfl) ?_
      obtain ⟨r4, z5, h3, h⟩ := bd_s h
      refine x_Si (Rz := (r4, z5)) (As := [.int v4, .int v1, .int v2]) (rest := [.int v5_2, .ref (G.2.2 145)]) ⟨hx, hb, hml, hown, hts⟩ hK hP hS (m_X10_exchanged hG   h3) (va_cwS 3 hts (gS lw_1224 lw_1225 lw_119 lw_1226) rfl rfl rfl (by decide +kernel) (rmd_ok (by decide) (by decide))) rfl hl.1 rfl (Nat.le_of_ble_eq_true rfl) dX10_enviesAfter_34 ⟨Nat.le_refl _, Nat.le_refl _⟩ (fun H locs hP hS => ?_)
      refine lv_iadd hx hb dX10_enviesAfter_37 ?_
      obtain ⟨g6, h⟩ := gd_s h
      refine xl_14 hx hb hK hP k_145 l_145 (ix_in g6) dX10_enviesAfter_38 ?_
      obtain ⟨v6_7, e_v6_7, h⟩ := nm_s h
      refine x_top e_v6_7 ?_
      refine lv_istore (lv' := [(6, .int v6_7), (5, .int v5_2), (0, .ref (G.2.2 143)), (1, .int v1), (2, .int v2), (3, .int v3), (4, .int v4)]) hx hb dX10_enviesAfter_39 hl (by decide) rfl (fun ls hl => ?_)
      refine lv_iconst (v := 0) hx hb dX10_enviesAfter_41 (by decide) ?_
      refine lv_istore (lv' := [(7, .int 0), (6, .int v6_7), (5, .int v5_2), (0, .ref (G.2.2 143)), (1, .int v1), (2, .int v2), (3, .int v3), (4, .int v4)]) hx hb dX10_enviesAfter_42 hl (by decide) rfl (fun ls hl => ?_)
      exact pf_X10_enviesAfter_44 C  ih fu v1 v2 v3 v4 v5_2 v6_7 0 z5  _ _ _ hP hS (lv_sub hl [3, 4, 5, 6, 7, 2, 1, 0] rfl) h
def fn_X10_enviesAfter (v1 : Int32) (v2 : Int32) (z : St) : Option (Int32 × St) := fn_X10_enviesAfter_5   fu v1 v2 0 0 z
set_option maxHeartbeats 4000000 in
set_option maxRecDepth 100000 in
theorem m_X10_enviesAfter {l : Launch} {G : wG} (hG : Ok G) {v1 : Int32} {v2 : Int32} {z : St} {Rz : Int32 × St}  (h : fn_X10_enviesAfter  v1 v2 z = some Rz) : Met l yX10_enviesAfter (wsU yX10_enviesAfter cX10_enviesAfter 9 (some .int)) (rmd 2) (va_Pc [.ref (G.2.2 143), .int v1, .int v2] (Pre G z)) (va_Qi (fun r u => (r, u) = Rz) (Pre G) (AW G)) 0 0 (AW G) := by
  refine Met.ofW (cc := cX10_enviesAfter) (maxL := 9) (ret := (some .int)) (by decide) rfl ?_
  intro p e s m args below meth c s₁ B hml hv
  obtain ⟨rfl, hP, hK⟩ := hv
  have C : CX p s m ([.ref (G.2.2 143), .int v1, .int v2] : List Value).toArray meth c cX10_enviesAfter 9 (wsU yX10_enviesAfter cX10_enviesAfter 9 (some .int)) RX10 (some .int) G := ⟨B.exec, B.bytes, hml, findClass_of_methodNamed B.named, atoms_spec (ws := (wsU yX10_enviesAfter cX10_enviesAfter 9 (some .int))) B.pre, B.returns, B.notSynchronized, hK, hG⟩
  obtain ⟨hx, hb, -, hown, hts, hr, hlocks, -, -⟩ := id C
  have hS : va_S (AW G) s.heap s.heap [] := va_S.rf
  have hl := lv_entry [.ref (G.2.2 143), .int v1, .int v2] (n := 9) (Nat.le_of_ble_eq_true rfl)
  rw [lg_entry_eq]
  generalize (lg_sl [.ref (G.2.2 143), .int v1, .int v2] ++ List.replicate (9 - (lg_sl [.ref (G.2.2 143), .int v1, .int v2]).length) Slot.unset).toArray = ls at hl ⊢
  have hl : lv_has ls 9 [(0, .ref (G.2.2 143)), (1, .int v1), (2, .int v2)] := hl
  unfold fn_X10_enviesAfter at h
  refine lv_iconst (v := 0) hx hb dX10_enviesAfter_0 (by decide) ?_
  refine lv_istore_n (lv' := [(3, .int 0), (0, .ref (G.2.2 143)), (1, .int v1), (2, .int v2)]) hx hb dX10_enviesAfter_1 rfl hl (by decide) rfl (fun ls hl => ?_)
  refine lv_iconst (v := 0) hx hb dX10_enviesAfter_2 (by decide) ?_
  refine lv_istore (lv' := [(4, .int 0), (3, .int 0), (0, .ref (G.2.2 143)), (1, .int v1), (2, .int v2)]) hx hb dX10_enviesAfter_3 hl (by decide) rfl (fun ls hl => ?_)
  exact pf_X10_enviesAfter_5 C   fu v1 v2 0 0 z  _ _ _ hP hS (lv_sub hl [2, 3, 4, 1, 0] rfl) h
def fn_X10_findCalm_15 (k2 : Int32 → St → Option (Int32 × St)) : Nat → Int32 → Int32 → St → Option (Int32 × St)
  | 0, _, _, _ => none
  | n + 1, v1, v2, z => (if (z.1 2 5) ≤ v2 then k2 (v1 + 1) z else gd (ix v2 6) (bd (fn_X10_ofPiece  v1 (z.1 60 (Int32.toNatClampNeg v2)) 0 z) (fun r4 z5 => gd (ix ((v1 * 6) + v2) 36) (nm (sI z5 145 (Int32.toNatClampNeg ((v1 * 6) + v2)) r4) (fun z7 => fn_X10_findCalm_15  k2 n v1 (v2 + 1) z7)))))
set_option maxHeartbeats 4000000 in
set_option maxRecDepth 100000 in
theorem pf_X10_findCalm_15 {p : Program} {l : Launch} {e : Env} {s : State} {m : MethodId} {args : Array Value} {below : List Frame} {meth : Method} {c : Code} {G : wG} (C : CX p s m args meth c cX10_findCalm 5 (wsU yX10_findCalm cX10_findCalm 5 (some .boolean)) RX10 (some .boolean) G) {Rz : Int32 × St} {k2 : Int32 → St → Option (Int32 × St)} (hk_2 : ∀ (v1 : Int32) (z : St)  (H : Heap) (locs : List Loc) (ls : Array Slot), WP G z H → va_S (AW G) s.heap H locs → lv_has ls 5 [(0, .ref (G.2.2 143)), (1, .int v1)] → k2 v1 z = some Rz → W p l e (rmd 6) s m args below meth c H locs 0 0 (QI below args s G Rz) (F0 m 2 ls [])) : ∀ (n : Nat) (v1 : Int32) (v2 : Int32) (z : St)  (H : Heap) (locs : List Loc) (ls : Array Slot), WP G z H → va_S (AW G) s.heap H locs → lv_has ls 5 [(0, .ref (G.2.2 143)), (1, .int v1), (2, .int v2)] → fn_X10_findCalm_15  k2 n v1 v2 z = some Rz → W p l e (rmd 6) s m args below meth c H locs 0 0 (QI below args s G Rz) (F0 m 15 ls []) := by
  obtain ⟨hx, hb, hml, hown, hts, hr, hlocks, hK, hG⟩ := id C
  intro n
  induction n with
  | zero => intro v1 v2 z  H locs ls hP hS hl h; cases h
  | succ n ih =>
    intro v1 v2 z  H locs ls hP hS hl h
    rw [fn_X10_findCalm_15] at h
    refine lv_iload_n hx hb dX10_findCalm_15 rfl (lv_at hl 2 rfl) ?_
    refine lv_aload_n hx hb dX10_findCalm_16 rfl (lv_at hl 0 rfl) ?_
    refine ge_10_0 hx hb hts (inU inW_X10) hown hK hP k_143 (hts _ (List.mem_cons_of_mem _ lw_454)) dX10_findCalm_17 ?_
    refine ge_7_5 hx hb hts (inU inW_X7) hown hK hP k_2 (hts _ (List.mem_cons_of_mem _ lw_198)) dX10_findCalm_20 ?_
    refine lv_icmp_ge (tgt := 58) hx hb dX10_findCalm_23 (by decide) (fun c1 => ?_) (fun c1 => ?_)
    · rw [if_pos c1] at h
      refine lv_iinc (v := (v1 + 1)) (lv' := [(1, .int (v1 + 1)), (0, .ref (G.2.2 143)), (2, .int v2)]) hx hb dX10_findCalm_58 hl (k := 1) rfl rfl (by decide) rfl (fun ls hl => ?_)
      refine lv_goto (tgt := 2) hx hb dX10_findCalm_61 (by decide) ?_
      exact hk_2 (v1 + 1) z  _ _ _ hP hS (lv_sub hl [1, 0] rfl) h
    · rw [if_neg c1] at h
      refine lv_aload_n hx hb dX10_findCalm_26 rfl (lv_at hl 0 rfl) ?_
      refine ge_10_3 hx hb hts (inU inW_X10) hown hK hP k_143 (hts _ (List.mem_cons_of_mem _ lw_457)) dX10_findCalm_27 ?_
      refine lv_iload_n hx hb dX10_findCalm_30 rfl (lv_at hl 1 rfl) ?_
      refine lv_bipush (v := 6) hx hb dX10_findCalm_31 (by decide) ?_
      refine lv_imul hx hb dX10_findCalm_33 ?_
      refine lv_iload_n hx hb dX10_findCalm_34 rfl (lv_at hl 2 rfl) ?_
      refine lv_iadd hx hb dX10_findCalm_35 ?_
      refine lv_aload_n hx hb dX10_findCalm_36 rfl (lv_at hl 0 rfl) ?_
      refine lv_iload_n hx hb dX10_findCalm_37 rfl (lv_at hl 1 rfl) ?_
      refine lv_aload_n hx hb dX10_findCalm_38 rfl (lv_at hl 0 rfl) ?_
      refine ge_10_1 hx hb hts (inU inW_X10) hown hK hP k_143 (hts _ (List.mem_cons_of_mem _ lw_455)) dX10_findCalm_39 ?_
      refine ge_1_1 hx hb hts (inU inW_X1) hown hK hP k_34 (hts _ (List.mem_cons_of_mem _ lw_420)) dX10_findCalm_42 ?_
      refine lv_iload_n hx hb dX10_findCalm_45 rfl (lv_at hl 2 rfl) ?_
      obtain ⟨g2, h⟩ := gd_s h
      refine xl_14 hx hb hK hP k_60 l_60 (ix_in g2) dX10_findCalm_46 ?_
      refine lv_iconst (v := 0) hx hb dX10_findCalm_47 (by decide) ?_
      obtain ⟨r4, z5, h3, h⟩ := bd_s h
      refine x_Vi (Rz := (r4, z5)) (As := [.int v1, .int (z.1 60 (Int32.toNatClampNeg v2)), .int 0]) (rest := [.int ((v1 * 6) + v2), .ref (G.2.2 145)]) ⟨hx, hb, hml, hown, hts⟩ hK hP hS (kd_lt k_143 (by decide)) (cell_10 k_143) rfl (m_X10_ofPiece hG   h3) (cwV 3 hts (gV lw_1201 lw_967 lw_968 lw_119 lw_969) rfl rfl rfl (by decide +kernel) (rmd_ok (by decide) (by decide))) rfl hl.1 rfl (Nat.le_of_ble_eq_true rfl) dX10_findCalm_48 ⟨Nat.le_refl _, Nat.le_refl _⟩ (fun H locs hP hS => ?_)
      obtain ⟨g6, h⟩ := gd_s h
      obtain ⟨z7, e_z7, h⟩ := nm_s h
      refine xs_14 hx hb hK hG hP hS k_145 l_145 (ix_in g6) dX10_findCalm_51 (fun H locs hP hS => ?_)
      rw [← e_z7] at hP
      refine lv_iinc (v := (v2 + 1)) (lv' := [(2, .int (v2 + 1)), (0, .ref (G.2.2 143)), (1, .int v1)]) hx hb dX10_findCalm_52 hl (k := 2) rfl rfl (by decide) rfl (fun ls hl => ?_)
      refine lv_goto (tgt := 15) hx hb dX10_findCalm_55 (by decide) ?_
      exact ih v1 (v2 + 1) z7  _ _ _ hP hS (lv_sub hl [1, 2, 0] rfl) h
def fn_X10_findCalm_165 (k78 : Int32 → Int32 → St → Option (Int32 × St)) (k93 : Int32 → Int32 → Int32 → St → Option (Int32 × St)) (v1 : Int32) (v2 : Int32) (v3 : Int32) (z : St) : Option (Int32 × St) := k93 v1 v2 (v3 + 1) z
set_option maxHeartbeats 4000000 in
set_option maxRecDepth 100000 in
theorem pf_X10_findCalm_165 {p : Program} {l : Launch} {e : Env} {s : State} {m : MethodId} {args : Array Value} {below : List Frame} {meth : Method} {c : Code} {G : wG} (C : CX p s m args meth c cX10_findCalm 5 (wsU yX10_findCalm cX10_findCalm 5 (some .boolean)) RX10 (some .boolean) G) {Rz : Int32 × St} {k78 : Int32 → Int32 → St → Option (Int32 × St)} {k93 : Int32 → Int32 → Int32 → St → Option (Int32 × St)} (hk_78 : ∀ (v1 : Int32) (v2 : Int32) (z : St)  (H : Heap) (locs : List Loc) (ls : Array Slot), WP G z H → va_S (AW G) s.heap H locs → lv_has ls 5 [(0, .ref (G.2.2 143)), (1, .int v1), (2, .int v2)] → k78 v1 v2 z = some Rz → W p l e (rmd 6) s m args below meth c H locs 0 0 (QI below args s G Rz) (F0 m 78 ls [])) (hk_93 : ∀ (v1 : Int32) (v2 : Int32) (v3 : Int32) (z : St)  (H : Heap) (locs : List Loc) (ls : Array Slot), WP G z H → va_S (AW G) s.heap H locs → lv_has ls 5 [(0, .ref (G.2.2 143)), (1, .int v1), (2, .int v2), (3, .int v3)] → k93 v1 v2 v3 z = some Rz → W p l e (rmd 6) s m args below meth c H locs 0 0 (QI below args s G Rz) (F0 m 93 ls [])) (v1 : Int32) (v2 : Int32) (v3 : Int32) (z : St)  {H : Heap} {locs : List Loc} {ls : Array Slot} (hP : WP G z H) (hS : va_S (AW G) s.heap H locs) (hl : lv_has ls 5 [(0, .ref (G.2.2 143)), (1, .int v1), (2, .int v2), (3, .int v3)]) (h : fn_X10_findCalm_165  k78 k93 v1 v2 v3 z = some Rz) : W p l e (rmd 6) s m args below meth c H locs 0 0 (QI below args s G Rz) (F0 m 165 ls []) := by
  obtain ⟨hx, hb, hml, hown, hts, hr, hlocks, hK, hG⟩ := id C
  unfold fn_X10_findCalm_165 at h
  refine lv_iinc (v := (v3 + 1)) (lv' := [(3, .int (v3 + 1)), (0, .ref (G.2.2 143)), (1, .int v1), (2, .int v2)]) hx hb dX10_findCalm_165 hl (k := 3) rfl rfl (by decide) rfl (fun ls hl => ?_)
  refine lv_goto (tgt := 93) hx hb dX10_findCalm_168 (by decide) ?_
  exact hk_93 v1 v2 (v3 + 1) z  _ _ _ hP hS (lv_sub hl [1, 2, 3, 0] rfl) h
def fn_X10_findCalm_93 (k78 : Int32 → Int32 → St → Option (Int32 × St)) : Nat → Int32 → Int32 → Int32 → St → Option (Int32 × St)
  | 0, _, _, _, _ => none
  | n + 1, v1, v2, v3, z => (if (z.1 2 5) ≤ v3 then k78 v1 (v2 + 1) z else gd (ix v2 6) ((if (z.1 60 (Int32.toNatClampNeg v2)) = (-1) then fn_X10_findCalm_165  k78 (fn_X10_findCalm_93  k78 n) v1 v2 v3 z else gd (ix v3 6) ((if (z.1 60 (Int32.toNatClampNeg v3)) = (-1) then fn_X10_findCalm_165  k78 (fn_X10_findCalm_93  k78 n) v1 v2 v3 z else bd (fn_X10_enviesAfter  v2 v3 z) (fun r7 z8 => (if (z8.1 143 6) ≤ r7 then fn_X10_findCalm_165  k78 (fn_X10_findCalm_93  k78 n) v1 v2 v3 z8 else nm (sI z8 143 4 v2) (fun z10 => nm (sI z10 143 5 v3) (fun z11 => nm (sI z11 143 6 r7) (fun z12 => fn_X10_findCalm_165  k78 (fn_X10_findCalm_93  k78 n) 1 v2 v3 z12))))))))))
set_option maxHeartbeats 4000000 in
set_option maxRecDepth 100000 in
theorem pf_X10_findCalm_93 {p : Program} {l : Launch} {e : Env} {s : State} {m : MethodId} {args : Array Value} {below : List Frame} {meth : Method} {c : Code} {G : wG} (C : CX p s m args meth c cX10_findCalm 5 (wsU yX10_findCalm cX10_findCalm 5 (some .boolean)) RX10 (some .boolean) G) {Rz : Int32 × St} {k78 : Int32 → Int32 → St → Option (Int32 × St)} (hk_78 : ∀ (v1 : Int32) (v2 : Int32) (z : St)  (H : Heap) (locs : List Loc) (ls : Array Slot), WP G z H → va_S (AW G) s.heap H locs → lv_has ls 5 [(0, .ref (G.2.2 143)), (1, .int v1), (2, .int v2)] → k78 v1 v2 z = some Rz → W p l e (rmd 6) s m args below meth c H locs 0 0 (QI below args s G Rz) (F0 m 78 ls [])) : ∀ (n : Nat) (v1 : Int32) (v2 : Int32) (v3 : Int32) (z : St)  (H : Heap) (locs : List Loc) (ls : Array Slot), WP G z H → va_S (AW G) s.heap H locs → lv_has ls 5 [(0, .ref (G.2.2 143)), (1, .int v1), (2, .int v2), (3, .int v3)] → fn_X10_findCalm_93  k78 n v1 v2 v3 z = some Rz → W p l e (rmd 6) s m args below meth c H locs 0 0 (QI below args s G Rz) (F0 m 93 ls []) := by
  obtain ⟨hx, hb, hml, hown, hts, hr, hlocks, hK, hG⟩ := id C
  intro n
  induction n with
  | zero => intro v1 v2 v3 z  H locs ls hP hS hl h; cases h
  | succ n ih =>
    intro v1 v2 v3 z  H locs ls hP hS hl h
    rw [fn_X10_findCalm_93] at h
    refine lv_iload_n hx hb dX10_findCalm_93 rfl (lv_at hl 3 rfl) ?_
    refine lv_aload_n hx hb dX10_findCalm_94 rfl (lv_at hl 0 rfl) ?_
    refine ge_10_0 hx hb hts (inU inW_X10) hown hK hP k_143 (hts _ (List.mem_cons_of_mem _ lw_454)) dX10_findCalm_95 ?_
    refine ge_7_5 hx hb hts (inU inW_X7) hown hK hP k_2 (hts _ (List.mem_cons_of_mem _ lw_198)) dX10_findCalm_98 ?_
    refine lv_icmp_ge (tgt := 171) hx hb dX10_findCalm_101 (by decide) (fun c1 => ?_) (fun c1 => ?_)
    · rw [if_pos c1] at h
      refine lv_iinc (v := (v2 + 1)) (lv' := [(2, .int (v2 + 1)), (0, .ref (G.2.2 143)), (1, .int v1), (3, .int v3)]) hx hb dX10_findCalm_171 hl (k := 2) rfl rfl (by decide) rfl (fun ls hl => ?_)
      refine lv_goto (tgt := 78) hx hb dX10_findCalm_174 (by decide) ?_
      exact hk_78 v1 (v2 + 1) z  _ _ _ hP hS (lv_sub hl [1, 2, 0] rfl) h
    · rw [if_neg c1] at h
      refine lv_aload_n hx hb dX10_findCalm_104 rfl (lv_at hl 0 rfl) ?_
      refine ge_10_1 hx hb hts (inU inW_X10) hown hK hP k_143 (hts _ (List.mem_cons_of_mem _ lw_455)) dX10_findCalm_105 ?_
      refine ge_1_1 hx hb hts (inU inW_X1) hown hK hP k_34 (hts _ (List.mem_cons_of_mem _ lw_420)) dX10_findCalm_108 ?_
      refine lv_iload_n hx hb dX10_findCalm_111 rfl (lv_at hl 2 rfl) ?_
      obtain ⟨g2, h⟩ := gd_s h
      refine xl_14 hx hb hK hP k_60 l_60 (ix_in g2) dX10_findCalm_112 ?_
      refine lv_iconst (v := (-1)) hx hb dX10_findCalm_113 (by decide) ?_
      refine lv_icmp_eq (tgt := 165) hx hb dX10_findCalm_114 (by decide) (fun c3 => ?_) (fun c3 => ?_)
      · rw [if_pos c3] at h
        exact pf_X10_findCalm_165 C  hk_78 ih v1 v2 v3 z  hP hS (lv_sub hl [0, 1, 2, 3] rfl) h
      · rw [if_neg c3] at h
        refine lv_aload_n hx hb dX10_findCalm_117 rfl (lv_at hl 0 rfl) ?_
        refine ge_10_1 hx hb hts (inU inW_X10) hown hK hP k_143 (hts _ (List.mem_cons_of_mem _ lw_455)) dX10_findCalm_118 ?_
        refine ge_1_1 hx hb hts (inU inW_X1) hown hK hP k_34 (hts _ (List.mem_cons_of_mem _ lw_420)) dX10_findCalm_121 ?_
        refine lv_iload_n hx hb dX10_findCalm_124 rfl (lv_at hl 3 rfl) ?_
        obtain ⟨g4, h⟩ := gd_s h
        refine xl_14 hx hb hK hP k_60 l_60 (ix_in g4) dX10_findCalm_125 ?_
        refine lv_iconst (v := (-1)) hx hb dX10_findCalm_126 (by decide) ?_
        refine lv_icmp_eq (tgt := 165) hx hb dX10_findCalm_127 (by decide) (fun c5 => ?_) (fun c5 => ?_)
        · rw [if_pos c5] at h
          exact pf_X10_findCalm_165 C  hk_78 ih v1 v2 v3 z  hP hS (lv_sub hl [0, 1, 2, 3] rfl) h
        · rw [if_neg c5] at h
          refine lv_aload_n hx hb dX10_findCalm_130 rfl (lv_at hl 0 rfl) ?_
          refine lv_iload_n hx hb dX10_findCalm_131 rfl (lv_at hl 2 rfl) ?_
          refine lv_iload_n hx hb dX10_findCalm_132 rfl (lv_at hl 3 rfl) ?_
          obtain ⟨r7, z8, h6, h⟩ := bd_s h
          refine x_Vi (Rz := (r7, z8)) (As := [.int v2, .int v3]) (rest := []) ⟨hx, hb, hml, hown, hts⟩ hK hP hS (kd_lt k_143 (by decide)) (cell_10 k_143) rfl (m_X10_enviesAfter hG   h6) (cwV 2 hts (gV lw_1220 lw_1222 lw_37 lw_119 lw_1223) rfl rfl rfl (by decide +kernel) (rmd_ok (by decide) (by decide))) rfl hl.1 rfl (Nat.le_of_ble_eq_true rfl) dX10_findCalm_133 ⟨Nat.le_refl _, Nat.le_refl _⟩ (fun H locs hP hS => ?_)
          refine lv_istore (lv' := [(4, .int r7), (0, .ref (G.2.2 143)), (1, .int v1), (2, .int v2), (3, .int v3)]) hx hb dX10_findCalm_136 hl (by decide) rfl (fun ls hl => ?_)
          refine lv_iload hx hb dX10_findCalm_138 (lv_at hl 0 rfl) ?_
          refine lv_aload_n hx hb dX10_findCalm_140 rfl (lv_at hl 1 rfl) ?_
          refine ge_10_6 hx hb hts (inU inW_X10) hown hK hP k_143 (hts _ (List.mem_cons_of_mem _ lw_462)) dX10_findCalm_141 ?_
          refine lv_icmp_ge (tgt := 165) hx hb dX10_findCalm_144 (by decide) (fun c9 => ?_) (fun c9 => ?_)
          · rw [if_pos c9] at h
            exact pf_X10_findCalm_165 C  hk_78 ih v1 v2 v3 z8  hP hS (lv_sub hl [1, 2, 3, 4] rfl) h
          · rw [if_neg c9] at h
            refine lv_iconst (v := 1) hx hb dX10_findCalm_147 (by decide) ?_
            refine lv_istore_n (lv' := [(1, .int 1), (4, .int r7), (0, .ref (G.2.2 143)), (2, .int v2), (3, .int v3)]) hx hb dX10_findCalm_148 rfl hl (by decide) rfl (fun ls hl => ?_)
            refine lv_aload_n hx hb dX10_findCalm_149 rfl (lv_at hl 2 rfl) ?_
            refine lv_iload_n hx hb dX10_findCalm_150 rfl (lv_at hl 3 rfl) ?_
            obtain ⟨z10, e_z10, h⟩ := nm_s h
            refine pu_10_4 hx hb hts (inU inW_X10) hown hK hG hP hS k_143 (hts _ (List.mem_cons_of_mem _ lw_458)) dX10_findCalm_151 (fun H locs hP hS => ?_)
            rw [← e_z10] at hP
            refine lv_aload_n hx hb dX10_findCalm_154 rfl (lv_at hl 2 rfl) ?_
            refine lv_iload_n hx hb dX10_findCalm_155 rfl (lv_at hl 4 rfl) ?_
            obtain ⟨z11, e_z11, h⟩ := nm_s h
            refine pu_10_5 hx hb hts (inU inW_X10) hown hK hG hP hS k_143 (hts _ (List.mem_cons_of_mem _ lw_460)) dX10_findCalm_156 (fun H locs hP hS => ?_)
            rw [← e_z11] at hP
            refine lv_aload_n hx hb dX10_findCalm_159 rfl (lv_at hl 2 rfl) ?_
            refine lv_iload hx hb dX10_findCalm_160 (lv_at hl 1 rfl) ?_
            obtain ⟨z12, e_z12, h⟩ := nm_s h
            refine pu_10_6 hx hb hts (inU inW_X10) hown hK hG hP hS k_143 (hts _ (List.mem_cons_of_mem _ lw_462)) dX10_findCalm_162 (fun H locs hP hS => ?_)
            rw [← e_z12] at hP
            exact pf_X10_findCalm_165 C  hk_78 ih 1 v2 v3 z12  hP hS (lv_sub hl [2, 0, 3, 4] rfl) h
def fn_X10_findCalm_78 : Nat → Int32 → Int32 → St → Option (Int32 × St)
  | 0, _, _, _ => none
  | n + 1, v1, v2, z => (if (z.1 2 5) ≤ v2 then gd (zok v1) (some (v1, z)) else nm (v2 + 1) (fun v3_3 => fn_X10_findCalm_93  (fn_X10_findCalm_78   n) fu v1 v2 v3_3 z))
set_option maxHeartbeats 4000000 in
set_option maxRecDepth 100000 in
theorem pf_X10_findCalm_78 {p : Program} {l : Launch} {e : Env} {s : State} {m : MethodId} {args : Array Value} {below : List Frame} {meth : Method} {c : Code} {G : wG} (C : CX p s m args meth c cX10_findCalm 5 (wsU yX10_findCalm cX10_findCalm 5 (some .boolean)) RX10 (some .boolean) G) {Rz : Int32 × St} : ∀ (n : Nat) (v1 : Int32) (v2 : Int32) (z : St)  (H : Heap) (locs : List Loc) (ls : Array Slot), WP G z H → va_S (AW G) s.heap H locs → lv_has ls 5 [(0, .ref (G.2.2 143)), (1, .int v1), (2, .int v2)] → fn_X10_findCalm_78   n v1 v2 z = some Rz → W p l e (rmd 6) s m args below meth c H locs 0 0 (QI below args s G Rz) (F0 m 78 ls []) := by
  obtain ⟨hx, hb, hml, hown, hts, hr, hlocks, hK, hG⟩ := id C
  intro n
  induction n with
  | zero => intro v1 v2 z  H locs ls hP hS hl h; cases h
  | succ n ih =>
    intro v1 v2 z  H locs ls hP hS hl h
    rw [fn_X10_findCalm_78] at h
    refine lv_iload_n hx hb dX10_findCalm_78 rfl (lv_at hl 2 rfl) ?_
    refine lv_aload_n hx hb dX10_findCalm_79 rfl (lv_at hl 0 rfl) ?_
    refine ge_10_0 hx hb hts (inU inW_X10) hown hK hP k_143 (hts _ (List.mem_cons_of_mem _ lw_454)) dX10_findCalm_80 ?_
    refine ge_7_5 hx hb hts (inU inW_X7) hown hK hP k_2 (hts _ (List.mem_cons_of_mem _ lw_198)) dX10_findCalm_83 ?_
    refine lv_icmp_ge (tgt := 177) hx hb dX10_findCalm_86 (by decide) (fun c1 => ?_) (fun c1 => ?_)
    · rw [if_pos c1] at h
      refine lv_iload_n hx hb dX10_findCalm_177 rfl (lv_at hl 1 rfl) ?_
      obtain ⟨g2, h⟩ := gd_s h
      exact x_zret hx hb hr hlocks hK hP hS g2 h dX10_findCalm_178
    · rw [if_neg c1] at h
      refine lv_iload_n hx hb dX10_findCalm_89 rfl (lv_at hl 2 rfl) ?_
      refine lv_iconst (v := 1) hx hb dX10_findCalm_90 (by decide) ?_
      refine lv_iadd hx hb dX10_findCalm_91 ?_
      obtain ⟨v3_3, e_v3_3, h⟩ := nm_s h
      refine x_top e_v3_3 ?_
      refine lv_istore_n (lv' := [(3, .int v3_3), (0, .ref (G.2.2 143)), (1, .int v1), (2, .int v2)]) hx hb dX10_findCalm_92 rfl hl (by decide) rfl (fun ls hl => ?_)
      exact pf_X10_findCalm_93 C  ih fu v1 v2 v3_3 z  _ _ _ hP hS (lv_sub hl [1, 2, 3, 0] rfl) h
def fn_X10_findCalm_2 : Nat → Int32 → St → Option (Int32 × St)
  | 0, _, _ => none
  | n + 1, v1, z => (if (z.1 2 5) ≤ v1 then bd (fn_X10_enviesAfter  0 0 z) (fun r3 z4 => nm (sI z4 143 6 r3) (fun z5 => fn_X10_findCalm_78   fu 0 0 z5)) else fn_X10_findCalm_15  (fn_X10_findCalm_2   n) fu v1 0 z)
set_option maxHeartbeats 4000000 in
set_option maxRecDepth 100000 in
theorem pf_X10_findCalm_2 {p : Program} {l : Launch} {e : Env} {s : State} {m : MethodId} {args : Array Value} {below : List Frame} {meth : Method} {c : Code} {G : wG} (C : CX p s m args meth c cX10_findCalm 5 (wsU yX10_findCalm cX10_findCalm 5 (some .boolean)) RX10 (some .boolean) G) {Rz : Int32 × St} : ∀ (n : Nat) (v1 : Int32) (z : St)  (H : Heap) (locs : List Loc) (ls : Array Slot), WP G z H → va_S (AW G) s.heap H locs → lv_has ls 5 [(0, .ref (G.2.2 143)), (1, .int v1)] → fn_X10_findCalm_2   n v1 z = some Rz → W p l e (rmd 6) s m args below meth c H locs 0 0 (QI below args s G Rz) (F0 m 2 ls []) := by
  obtain ⟨hx, hb, hml, hown, hts, hr, hlocks, hK, hG⟩ := id C
  intro n
  induction n with
  | zero => intro v1 z  H locs ls hP hS hl h; cases h
  | succ n ih =>
    intro v1 z  H locs ls hP hS hl h
    rw [fn_X10_findCalm_2] at h
    refine lv_iload_n hx hb dX10_findCalm_2 rfl (lv_at hl 1 rfl) ?_
    refine lv_aload_n hx hb dX10_findCalm_3 rfl (lv_at hl 0 rfl) ?_
    refine ge_10_0 hx hb hts (inU inW_X10) hown hK hP k_143 (hts _ (List.mem_cons_of_mem _ lw_454)) dX10_findCalm_4 ?_
    refine ge_7_5 hx hb hts (inU inW_X7) hown hK hP k_2 (hts _ (List.mem_cons_of_mem _ lw_198)) dX10_findCalm_7 ?_
    refine lv_icmp_ge (tgt := 64) hx hb dX10_findCalm_10 (by decide) (fun c1 => ?_) (fun c1 => ?_)
    · rw [if_pos c1] at h
      refine lv_aload_n hx hb dX10_findCalm_64 rfl (lv_at hl 0 rfl) ?_
      refine lv_aload_n hx hb dX10_findCalm_65 rfl (lv_at hl 0 rfl) ?_
      refine lv_iconst (v := 0) hx hb dX10_findCalm_66 (by decide) ?_
      refine lv_iconst (v := 0) hx hb dX10_findCalm_67 (by decide) ?_
      obtain ⟨r3, z4, h2, h⟩ := bd_s h
      refine x_Vi (Rz := (r3, z4)) (As := [.int 0, .int 0]) (rest := [.ref (G.2.2 143)]) ⟨hx, hb, hml, hown, hts⟩ hK hP hS (kd_lt k_143 (by decide)) (cell_10 k_143) rfl (m_X10_enviesAfter hG   h2) (cwV 2 hts (gV lw_1220 lw_1222 lw_37 lw_119 lw_1223) rfl rfl rfl (by decide +kernel) (rmd_ok (by decide) (by decide))) rfl hl.1 rfl (Nat.le_of_ble_eq_true rfl) dX10_findCalm_68 ⟨Nat.le_refl _, Nat.le_refl _⟩ (fun H locs hP hS => ?_)
      obtain ⟨z5, e_z5, h⟩ := nm_s h
      refine pu_10_6 hx hb hts (inU inW_X10) hown hK hG hP hS k_143 (hts _ (List.mem_cons_of_mem _ lw_462)) dX10_findCalm_71 (fun H locs hP hS => ?_)
      rw [← e_z5] at hP
      refine lv_iconst (v := 0) hx hb dX10_findCalm_74 (by decide) ?_
      refine lv_istore_n (lv' := [(1, .int 0), (0, .ref (G.2.2 143))]) hx hb dX10_findCalm_75 rfl hl (by decide) rfl (fun ls hl => ?_)
      refine lv_iconst (v := 0) hx hb dX10_findCalm_76 (by decide) ?_
      refine lv_istore_n (lv' := [(2, .int 0), (1, .int 0), (0, .ref (G.2.2 143))]) hx hb dX10_findCalm_77 rfl hl (by decide) rfl (fun ls hl => ?_)
      exact pf_X10_findCalm_78 C   fu 0 0 z5  _ _ _ hP hS (lv_sub hl [2, 1, 0] rfl) h
    · rw [if_neg c1] at h
      refine lv_iconst (v := 0) hx hb dX10_findCalm_13 (by decide) ?_
      refine lv_istore_n (lv' := [(2, .int 0), (0, .ref (G.2.2 143)), (1, .int v1)]) hx hb dX10_findCalm_14 rfl hl (by decide) rfl (fun ls hl => ?_)
      exact pf_X10_findCalm_15 C  ih fu v1 0 z  _ _ _ hP hS (lv_sub hl [1, 2, 0] rfl) h
def fn_X10_findCalm  (z : St) : Option (Int32 × St) := fn_X10_findCalm_2   fu 0 z
set_option maxHeartbeats 4000000 in
set_option maxRecDepth 100000 in
theorem m_X10_findCalm {l : Launch} {G : wG} (hG : Ok G)  {z : St} {Rz : Int32 × St}  (h : fn_X10_findCalm   z = some Rz) : Met l yX10_findCalm (wsU yX10_findCalm cX10_findCalm 5 (some .boolean)) (rmd 6) (va_Pc [.ref (G.2.2 143)] (Pre G z)) (va_Qi (fun r u => (r, u) = Rz) (Pre G) (AW G)) 0 0 (AW G) := by
  refine Met.ofW (cc := cX10_findCalm) (maxL := 5) (ret := (some .boolean)) (by decide) rfl ?_
  intro p e s m args below meth c s₁ B hml hv
  obtain ⟨rfl, hP, hK⟩ := hv
  have C : CX p s m ([.ref (G.2.2 143)] : List Value).toArray meth c cX10_findCalm 5 (wsU yX10_findCalm cX10_findCalm 5 (some .boolean)) RX10 (some .boolean) G := ⟨B.exec, B.bytes, hml, findClass_of_methodNamed B.named, atoms_spec (ws := (wsU yX10_findCalm cX10_findCalm 5 (some .boolean))) B.pre, B.returns, B.notSynchronized, hK, hG⟩
  obtain ⟨hx, hb, -, hown, hts, hr, hlocks, -, -⟩ := id C
  have hS : va_S (AW G) s.heap s.heap [] := va_S.rf
  have hl := lv_entry [.ref (G.2.2 143)] (n := 5) (Nat.le_of_ble_eq_true rfl)
  rw [lg_entry_eq]
  generalize (lg_sl [.ref (G.2.2 143)] ++ List.replicate (5 - (lg_sl [.ref (G.2.2 143)]).length) Slot.unset).toArray = ls at hl ⊢
  have hl : lv_has ls 5 [(0, .ref (G.2.2 143))] := hl
  unfold fn_X10_findCalm at h
  refine lv_iconst (v := 0) hx hb dX10_findCalm_0 (by decide) ?_
  refine lv_istore_n (lv' := [(1, .int 0), (0, .ref (G.2.2 143))]) hx hb dX10_findCalm_1 rfl hl (by decide) rfl (fun ls hl => ?_)
  exact pf_X10_findCalm_2 C   fu 0 z  _ _ _ hP hS (lv_sub hl [1, 0] rfl) h
