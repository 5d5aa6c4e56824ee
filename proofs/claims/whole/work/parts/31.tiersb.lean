def fn_X11_halve (v1 : Int32) (v2 : Int32) (v3 : Int32) (v4 : Int32) (z : St) : Option (Int32 × St) := bd (fn_X11_areTwoGuests  v2 v3 z) (fun r2 z3 => (if r2 = 0 then some ((-1), z3) else bd (fn_X5_findHalves  v1 v2 v3 z3) (fun r6 z7 => (if r6 = 0 then some ((-1), z7) else (if v4 = 0 then some ((z7.1 156 12), z7) else (if v4 = 1 then some ((z7.1 156 13), z7) else (if v4 = 2 then some ((z7.1 156 14), z7) else (some ((-1), z7)))))))))
set_option maxHeartbeats 4000000 in
set_option maxRecDepth 100000 in
theorem m_X11_halve {l : Launch} {G : wG} (hG : Ok G) {v1 : Int32} {v2 : Int32} {v3 : Int32} {v4 : Int32} {z : St} {Rz : Int32 × St}  (h : fn_X11_halve  v1 v2 v3 v4 z = some Rz) : Met l yX11_halve (wsU yX11_halve cX11_halve 5 (some .int)) (rmd 6) (va_Pc [.ref (G.2.2 0), .int v1, .int v2, .int v3, .int v4] (Pre G z)) (va_Qi (fun r u => (r, u) = Rz) (Pre G) (AW G)) 0 0 (AW G) := by
  refine Met.ofW (cc := cX11_halve) (maxL := 5) (ret := (some .int)) (by decide) rfl ?_
  intro p e s m args below meth c s₁ B hml hv
  obtain ⟨rfl, hP, hK⟩ := hv
  have C : CX p s m ([.ref (G.2.2 0), .int v1, .int v2, .int v3, .int v4] : List Value).toArray meth c cX11_halve 5 (wsU yX11_halve cX11_halve 5 (some .int)) RX11 (some .int) G := ⟨B.exec, B.bytes, hml, findClass_of_methodNamed B.named, atoms_spec (ws := (wsU yX11_halve cX11_halve 5 (some .int))) B.pre, B.returns, B.notSynchronized, hK, hG⟩
  obtain ⟨hx, hb, -, hown, hts, hr, hlocks, -, -⟩ := id C
  have hS : va_S (AW G) s.heap s.heap [] := va_S.rf
  have hl := lv_entry [.ref (G.2.2 0), .int v1, .int v2, .int v3, .int v4] (n := 5) (Nat.le_of_ble_eq_true rfl)
  rw [lg_entry_eq]
  generalize (lg_sl [.ref (G.2.2 0), .int v1, .int v2, .int v3, .int v4] ++ List.replicate (5 - (lg_sl [.ref (G.2.2 0), .int v1, .int v2, .int v3, .int v4]).length) Slot.unset).toArray = ls at hl ⊢
  have hl : lv_has ls 5 [(0, .ref (G.2.2 0)), (1, .int v1), (2, .int v2), (3, .int v3), (4, .int v4)] := hl
  unfold fn_X11_halve at h
  refine lv_aload_n hx hb dX11_halve_0 rfl (lv_at hl 0 rfl) ?_
  refine lv_iload_n hx hb dX11_halve_1 rfl (lv_at hl 2 rfl) ?_
  refine lv_iload_n hx hb dX11_halve_2 rfl (lv_at hl 3 rfl) ?_
  obtain ⟨r2, z3, h1, h⟩ := bd_s h
  refine x_Vi (Rz := (r2, z3)) (As := [.int v2, .int v3]) (rest := []) ⟨hx, hb, hml, hown, hts⟩ hK hP hS (kd_lt k_0 (by decide)) (cell_11 k_0) rfl (m_X11_areTwoGuests hG   h1) (cwV 2 hts (gV lw_1094 lw_1096 lw_30 lw_109 lw_1097) rfl rfl rfl (by decide +kernel) (rmd_ok (by decide) (by decide))) rfl hl.1 rfl (Nat.le_of_ble_eq_true rfl) dX11_halve_3 ⟨Nat.le_refl _, Nat.le_refl _⟩ (fun H locs hP hS => ?_)
  refine lv_if_eq (tgt := 22) hx hb dX11_halve_6 (by decide) (fun c4 => ?_) (fun c4 => ?_)
  · rw [if_pos c4] at h
    refine lv_iconst (v := (-1)) hx hb dX11_halve_22 (by decide) ?_
    exact x_iret hx hb hr hlocks hK hP hS h dX11_halve_23
  · rw [if_neg c4] at h
    refine lv_aload_n hx hb dX11_halve_9 rfl (lv_at hl 0 rfl) ?_
    refine ge_11_10 hx hb hts (inU inW_X11) hown hK hP k_0 (hts _ (List.mem_cons_of_mem _ lw_713)) dX11_halve_10 ?_
    refine lv_iload_n hx hb dX11_halve_13 rfl (lv_at hl 1 rfl) ?_
    refine lv_iload_n hx hb dX11_halve_14 rfl (lv_at hl 2 rfl) ?_
    refine lv_iload_n hx hb dX11_halve_15 rfl (lv_at hl 3 rfl) ?_
    obtain ⟨r6, z7, h5, h⟩ := bd_s h
    refine x_Vi (Rz := (r6, z7)) (As := [.int v1, .int v2, .int v3]) (rest := []) ⟨hx, hb, hml, hown, hts⟩ hK hP hS (kd_lt k_156 (by decide)) (cell_5 k_156) rfl (m_X5_findHalves hG   h5) (cwV 3 hts (gV lw_1231 lw_1232 lw_1233 lw_122 lw_1234) rfl rfl rfl (by decide +kernel) (rmd_ok (by decide) (by decide))) rfl hl.1 rfl (Nat.le_of_ble_eq_true rfl) dX11_halve_16 ⟨Nat.le_refl _, Nat.le_refl _⟩ (fun H locs hP hS => ?_)
    refine lv_if_ne (tgt := 24) hx hb dX11_halve_19 (by decide) (fun c8 => ?_) (fun c8 => ?_)
    · rw [if_neg c8] at h
      refine lv_iload hx hb dX11_halve_24 (lv_at hl 4 rfl) ?_
      by_cases c9 : v4 = 0
      · rw [if_pos c9] at h
        refine lv_tableIn (off := 26) (tgt := 52) hx hb dX11_halve_26 (by rw [c9]; decide) (by rw [c9]; decide) (by rw [c9]; rfl) (by decide) ?_
        refine lv_aload_n hx hb dX11_halve_52 rfl (lv_at hl 0 rfl) ?_
        refine ge_11_10 hx hb hts (inU inW_X11) hown hK hP k_0 (hts _ (List.mem_cons_of_mem _ lw_713)) dX11_halve_53 ?_
        refine ge_5_12 hx hb hts (inU inW_X5) hown hK hP k_156 (hts _ (List.mem_cons_of_mem _ lw_581)) dX11_halve_56 ?_
        exact x_iret hx hb hr hlocks hK hP hS h dX11_halve_59
      rw [if_neg c9] at h
      by_cases c10 : v4 = 1
      · rw [if_pos c10] at h
        refine lv_tableIn (off := 34) (tgt := 60) hx hb dX11_halve_26 (by rw [c10]; decide) (by rw [c10]; decide) (by rw [c10]; rfl) (by decide) ?_
        refine lv_aload_n hx hb dX11_halve_60 rfl (lv_at hl 0 rfl) ?_
        refine ge_11_10 hx hb hts (inU inW_X11) hown hK hP k_0 (hts _ (List.mem_cons_of_mem _ lw_713)) dX11_halve_61 ?_
        refine ge_5_13 hx hb hts (inU inW_X5) hown hK hP k_156 (hts _ (List.mem_cons_of_mem _ lw_583)) dX11_halve_64 ?_
        exact x_iret hx hb hr hlocks hK hP hS h dX11_halve_67
      rw [if_neg c10] at h
      by_cases c11 : v4 = 2
      · rw [if_pos c11] at h
        refine lv_tableIn (off := 42) (tgt := 68) hx hb dX11_halve_26 (by rw [c11]; decide) (by rw [c11]; decide) (by rw [c11]; rfl) (by decide) ?_
        refine lv_aload_n hx hb dX11_halve_68 rfl (lv_at hl 0 rfl) ?_
        refine ge_11_10 hx hb hts (inU inW_X11) hown hK hP k_0 (hts _ (List.mem_cons_of_mem _ lw_713)) dX11_halve_69 ?_
        refine ge_5_14 hx hb hts (inU inW_X5) hown hK hP k_156 (hts _ (List.mem_cons_of_mem _ lw_585)) dX11_halve_72 ?_
        exact x_iret hx hb hr hlocks hK hP hS h dX11_halve_75
      rw [if_neg c11] at h
      have n12 : (v4 : Int32).toInt < 0 ∨ 2 < (v4 : Int32).toInt := by
        have c9_n := lv_neT (a := 0) c9 (by decide)
        have c10_n := lv_neT (a := 1) c10 (by decide)
        have c11_n := lv_neT (a := 2) c11 (by decide)
        omega
      refine lv_tableOut (tgt := 76) hx hb dX11_halve_26 n12 (by decide) ?_
      refine lv_iconst (v := (-1)) hx hb dX11_halve_76 (by decide) ?_
      exact x_iret hx hb hr hlocks hK hP hS h dX11_halve_77
    · rw [if_pos c8] at h
      refine lv_iconst (v := (-1)) hx hb dX11_halve_22 (by decide) ?_
      exact x_iret hx hb hr hlocks hK hP hS h dX11_halve_23
def fn_X11_share (v1 : Int32) (v2 : Int32) (v3 : Int32) (z : St) : Option (Int32 × St) := bd (fn_X11_areTwoGuests  v2 v3 z) (fun r2 z3 => (if r2 = 0 then some ((-1000000000), z3) else bd (fn_X5_findHalves  v1 v2 v3 z3) (fun r6 z7 => (if r6 = 0 then some ((-1000000000), z7) else some ((z7.1 156 15), z7)))))
set_option maxHeartbeats 4000000 in
set_option maxRecDepth 100000 in
theorem m_X11_share {l : Launch} {G : wG} (hG : Ok G) {v1 : Int32} {v2 : Int32} {v3 : Int32} {z : St} {Rz : Int32 × St}  (h : fn_X11_share  v1 v2 v3 z = some Rz) : Met l yX11_share (wsU yX11_share cX11_share 4 (some .int)) (rmd 6) (va_Pc [.ref (G.2.2 0), .int v1, .int v2, .int v3] (Pre G z)) (va_Qi (fun r u => (r, u) = Rz) (Pre G) (AW G)) 0 0 (AW G) := by
  refine Met.ofW (cc := cX11_share) (maxL := 4) (ret := (some .int)) (by decide) rfl ?_
  intro p e s m args below meth c s₁ B hml hv
  obtain ⟨rfl, hP, hK⟩ := hv
  have C : CX p s m ([.ref (G.2.2 0), .int v1, .int v2, .int v3] : List Value).toArray meth c cX11_share 4 (wsU yX11_share cX11_share 4 (some .int)) RX11 (some .int) G := ⟨B.exec, B.bytes, hml, findClass_of_methodNamed B.named, atoms_spec (ws := (wsU yX11_share cX11_share 4 (some .int))) B.pre, B.returns, B.notSynchronized, hK, hG⟩
  obtain ⟨hx, hb, -, hown, hts, hr, hlocks, -, -⟩ := id C
  have hS : va_S (AW G) s.heap s.heap [] := va_S.rf
  have hl := lv_entry [.ref (G.2.2 0), .int v1, .int v2, .int v3] (n := 4) (Nat.le_of_ble_eq_true rfl)
  rw [lg_entry_eq]
  generalize (lg_sl [.ref (G.2.2 0), .int v1, .int v2, .int v3] ++ List.replicate (4 - (lg_sl [.ref (G.2.2 0), .int v1, .int v2, .int v3]).length) Slot.unset).toArray = ls at hl ⊢
  have hl : lv_has ls 4 [(0, .ref (G.2.2 0)), (1, .int v1), (2, .int v2), (3, .int v3)] := hl
  unfold fn_X11_share at h
  refine lv_aload_n hx hb dX11_share_0 rfl (lv_at hl 0 rfl) ?_
  refine lv_iload_n hx hb dX11_share_1 rfl (lv_at hl 2 rfl) ?_
  refine lv_iload_n hx hb dX11_share_2 rfl (lv_at hl 3 rfl) ?_
  obtain ⟨r2, z3, h1, h⟩ := bd_s h
  refine x_Vi (Rz := (r2, z3)) (As := [.int v2, .int v3]) (rest := []) ⟨hx, hb, hml, hown, hts⟩ hK hP hS (kd_lt k_0 (by decide)) (cell_11 k_0) rfl (m_X11_areTwoGuests hG   h1) (cwV 2 hts (gV lw_1094 lw_1096 lw_30 lw_109 lw_1097) rfl rfl rfl (by decide +kernel) (rmd_ok (by decide) (by decide))) rfl hl.1 rfl (Nat.le_of_ble_eq_true rfl) dX11_share_3 ⟨Nat.le_refl _, Nat.le_refl _⟩ (fun H locs hP hS => ?_)
  refine lv_if_eq (tgt := 22) hx hb dX11_share_6 (by decide) (fun c4 => ?_) (fun c4 => ?_)
  · rw [if_pos c4] at h
    refine lv_ldc (v := (-1000000000)) hx hb hown (hts _ (List.mem_cons_of_mem _ lw_996)) dX11_share_22 ?_
    exact x_iret hx hb hr hlocks hK hP hS h dX11_share_24
  · rw [if_neg c4] at h
    refine lv_aload_n hx hb dX11_share_9 rfl (lv_at hl 0 rfl) ?_
    refine ge_11_10 hx hb hts (inU inW_X11) hown hK hP k_0 (hts _ (List.mem_cons_of_mem _ lw_713)) dX11_share_10 ?_
    refine lv_iload_n hx hb dX11_share_13 rfl (lv_at hl 1 rfl) ?_
    refine lv_iload_n hx hb dX11_share_14 rfl (lv_at hl 2 rfl) ?_
    refine lv_iload_n hx hb dX11_share_15 rfl (lv_at hl 3 rfl) ?_
    obtain ⟨r6, z7, h5, h⟩ := bd_s h
    refine x_Vi (Rz := (r6, z7)) (As := [.int v1, .int v2, .int v3]) (rest := []) ⟨hx, hb, hml, hown, hts⟩ hK hP hS (kd_lt k_156 (by decide)) (cell_5 k_156) rfl (m_X5_findHalves hG   h5) (cwV 3 hts (gV lw_1231 lw_1232 lw_1233 lw_122 lw_1234) rfl rfl rfl (by decide +kernel) (rmd_ok (by decide) (by decide))) rfl hl.1 rfl (Nat.le_of_ble_eq_true rfl) dX11_share_16 ⟨Nat.le_refl _, Nat.le_refl _⟩ (fun H locs hP hS => ?_)
    refine lv_if_ne (tgt := 25) hx hb dX11_share_19 (by decide) (fun c8 => ?_) (fun c8 => ?_)
    · rw [if_neg c8] at h
      refine lv_aload_n hx hb dX11_share_25 rfl (lv_at hl 0 rfl) ?_
      refine ge_11_10 hx hb hts (inU inW_X11) hown hK hP k_0 (hts _ (List.mem_cons_of_mem _ lw_713)) dX11_share_26 ?_
      refine ge_5_15 hx hb hts (inU inW_X5) hown hK hP k_156 (hts _ (List.mem_cons_of_mem _ lw_587)) dX11_share_29 ?_
      exact x_iret hx hb hr hlocks hK hP hS h dX11_share_32
    · rw [if_pos c8] at h
      refine lv_ldc (v := (-1000000000)) hx hb hown (hts _ (List.mem_cons_of_mem _ lw_996)) dX11_share_22 ?_
      exact x_iret hx hb hr hlocks hK hP hS h dX11_share_24
def fn_X11_picks  (z : St) : Option (Int32 × St) := nm (sI z 0 14 (z.1 2 5)) (fun z1 => bd (fn_X5_pickByNumber  171 z1) (fun r3 z4 => some (r3, z4)))
set_option maxHeartbeats 4000000 in
set_option maxRecDepth 100000 in
theorem m_X11_picks {l : Launch} {G : wG} (hG : Ok G)  {z : St} {Rz : Int32 × St}  (h : fn_X11_picks   z = some Rz) : Met l yX11_picks (wsU yX11_picks cX11_picks 1 (some .int)) (rmd 8) (va_Pc [.ref (G.2.2 0)] (Pre G z)) (va_Qi (fun r u => (r, u) = Rz) (Pre G) (AW G)) 0 0 (AW G) := by
  refine Met.ofW (cc := cX11_picks) (maxL := 1) (ret := (some .int)) (by decide) rfl ?_
  intro p e s m args below meth c s₁ B hml hv
  obtain ⟨rfl, hP, hK⟩ := hv
  have C : CX p s m ([.ref (G.2.2 0)] : List Value).toArray meth c cX11_picks 1 (wsU yX11_picks cX11_picks 1 (some .int)) RX11 (some .int) G := ⟨B.exec, B.bytes, hml, findClass_of_methodNamed B.named, atoms_spec (ws := (wsU yX11_picks cX11_picks 1 (some .int))) B.pre, B.returns, B.notSynchronized, hK, hG⟩
  obtain ⟨hx, hb, -, hown, hts, hr, hlocks, -, -⟩ := id C
  have hS : va_S (AW G) s.heap s.heap [] := va_S.rf
  have hl := lv_entry [.ref (G.2.2 0)] (n := 1) (Nat.le_of_ble_eq_true rfl)
  rw [lg_entry_eq]
  generalize (lg_sl [.ref (G.2.2 0)] ++ List.replicate (1 - (lg_sl [.ref (G.2.2 0)]).length) Slot.unset).toArray = ls at hl ⊢
  have hl : lv_has ls 1 [(0, .ref (G.2.2 0))] := hl
  unfold fn_X11_picks at h
  refine lv_aload_n hx hb dX11_picks_0 rfl (lv_at hl 0 rfl) ?_
  refine lv_aload_n hx hb dX11_picks_1 rfl (lv_at hl 0 rfl) ?_
  refine ge_11_2 hx hb hts (inU inW_X11) hown hK hP k_0 (hts _ (List.mem_cons_of_mem _ lw_705)) dX11_picks_2 ?_
  refine ge_7_5 hx hb hts (inU inW_X7) hown hK hP k_2 (hts _ (List.mem_cons_of_mem _ lw_199)) dX11_picks_5 ?_
  obtain ⟨z1, e_z1, h⟩ := nm_s h
  refine pu_11_14 hx hb hts (inU inW_X11) hown hK hG hP hS k_0 (hts _ (List.mem_cons_of_mem _ lw_717)) dX11_picks_8 (fun H locs hP hS => ?_)
  rw [← e_z1] at hP
  refine lv_aload_n hx hb dX11_picks_11 rfl (lv_at hl 0 rfl) ?_
  refine ge_11_10 hx hb hts (inU inW_X11) hown hK hP k_0 (hts _ (List.mem_cons_of_mem _ lw_713)) dX11_picks_12 ?_
  refine lv_aload_n hx hb dX11_picks_15 rfl (lv_at hl 0 rfl) ?_
  refine ge_11_13 hx hb hts (inU inW_X11) hown hK hP k_0 (hts _ (List.mem_cons_of_mem _ lw_716)) dX11_picks_16 ?_
  obtain ⟨r3, z4, h2, h⟩ := bd_s h
  refine x_Vi (Rz := (r3, z4)) (As := [.ref (G.2.2 171)]) (rest := []) ⟨hx, hb, hml, hown, hts⟩ hK hP hS (kd_lt k_156 (by decide)) (cell_5 k_156) rfl (m_X5_pickByNumber hG  k_171 h2) (cwV 1 hts (gV lw_1249 lw_1250 lw_1251 lw_122 lw_1252) rfl rfl rfl (by decide +kernel) (rmd_ok (by decide) (by decide))) rfl hl.1 rfl (Nat.le_of_ble_eq_true rfl) dX11_picks_19 ⟨Nat.le_refl _, Nat.le_refl _⟩ (fun H locs hP hS => ?_)
  exact x_iret hx hb hr hlocks hK hP hS h dX11_picks_22
def fn_X11_order  (z : St) : Option (Int32 × St) := bd (fn_X5_findOrder  171 z) (fun r2 z3 => nm (sI z3 0 14 r2) (fun z4 => (if (z4.1 0 14) = 0 then some ((-1000000000), z4) else some ((z4.1 156 11), z4))))
set_option maxHeartbeats 4000000 in
set_option maxRecDepth 100000 in
theorem m_X11_order {l : Launch} {G : wG} (hG : Ok G)  {z : St} {Rz : Int32 × St}  (h : fn_X11_order   z = some Rz) : Met l yX11_order (wsU yX11_order cX11_order 1 (some .int)) (rmd 30) (va_Pc [.ref (G.2.2 0)] (Pre G z)) (va_Qi (fun r u => (r, u) = Rz) (Pre G) (AW G)) 0 0 (AW G) := by
  refine Met.ofW (cc := cX11_order) (maxL := 1) (ret := (some .int)) (by decide) rfl ?_
  intro p e s m args below meth c s₁ B hml hv
  obtain ⟨rfl, hP, hK⟩ := hv
  have C : CX p s m ([.ref (G.2.2 0)] : List Value).toArray meth c cX11_order 1 (wsU yX11_order cX11_order 1 (some .int)) RX11 (some .int) G := ⟨B.exec, B.bytes, hml, findClass_of_methodNamed B.named, atoms_spec (ws := (wsU yX11_order cX11_order 1 (some .int))) B.pre, B.returns, B.notSynchronized, hK, hG⟩
  obtain ⟨hx, hb, -, hown, hts, hr, hlocks, -, -⟩ := id C
  have hS : va_S (AW G) s.heap s.heap [] := va_S.rf
  have hl := lv_entry [.ref (G.2.2 0)] (n := 1) (Nat.le_of_ble_eq_true rfl)
  rw [lg_entry_eq]
  generalize (lg_sl [.ref (G.2.2 0)] ++ List.replicate (1 - (lg_sl [.ref (G.2.2 0)]).length) Slot.unset).toArray = ls at hl ⊢
  have hl : lv_has ls 1 [(0, .ref (G.2.2 0))] := hl
  unfold fn_X11_order at h
  refine lv_aload_n hx hb dX11_order_0 rfl (lv_at hl 0 rfl) ?_
  refine lv_aload_n hx hb dX11_order_1 rfl (lv_at hl 0 rfl) ?_
  refine ge_11_10 hx hb hts (inU inW_X11) hown hK hP k_0 (hts _ (List.mem_cons_of_mem _ lw_713)) dX11_order_2 ?_
  refine lv_aload_n hx hb dX11_order_5 rfl (lv_at hl 0 rfl) ?_
  refine ge_11_13 hx hb hts (inU inW_X11) hown hK hP k_0 (hts _ (List.mem_cons_of_mem _ lw_716)) dX11_order_6 ?_
  obtain ⟨r2, z3, h1, h⟩ := bd_s h
  refine x_Vi (Rz := (r2, z3)) (As := [.ref (G.2.2 171)]) (rest := [.ref (G.2.2 0)]) ⟨hx, hb, hml, hown, hts⟩ hK hP hS (kd_lt k_156 (by decide)) (cell_5 k_156) rfl (m_X5_findOrder hG  k_171 h1) (cwV 1 hts (gV lw_1271 lw_1272 lw_1273 lw_122 lw_1274) rfl rfl rfl (by decide +kernel) (rmd_ok (by decide) (by decide))) rfl hl.1 rfl (Nat.le_of_ble_eq_true rfl) dX11_order_9 ⟨Nat.le_refl _, Nat.le_refl _⟩ (fun H locs hP hS => ?_)
  obtain ⟨z4, e_z4, h⟩ := nm_s h
  refine pu_11_14 hx hb hts (inU inW_X11) hown hK hG hP hS k_0 (hts _ (List.mem_cons_of_mem _ lw_717)) dX11_order_12 (fun H locs hP hS => ?_)
  rw [← e_z4] at hP
  refine lv_aload_n hx hb dX11_order_15 rfl (lv_at hl 0 rfl) ?_
  refine ge_11_14 hx hb hts (inU inW_X11) hown hK hP k_0 (hts _ (List.mem_cons_of_mem _ lw_717)) dX11_order_16 ?_
  refine lv_if_ne (tgt := 27) hx hb dX11_order_19 (by decide) (fun c5 => ?_) (fun c5 => ?_)
  · rw [if_neg c5] at h
    refine lv_aload_n hx hb dX11_order_27 rfl (lv_at hl 0 rfl) ?_
    refine ge_11_10 hx hb hts (inU inW_X11) hown hK hP k_0 (hts _ (List.mem_cons_of_mem _ lw_713)) dX11_order_28 ?_
    refine ge_5_11 hx hb hts (inU inW_X5) hown hK hP k_156 (hts _ (List.mem_cons_of_mem _ lw_579)) dX11_order_31 ?_
    exact x_iret hx hb hr hlocks hK hP hS h dX11_order_34
  · rw [if_pos c5] at h
    refine lv_ldc (v := (-1000000000)) hx hb hown (hts _ (List.mem_cons_of_mem _ lw_996)) dX11_order_22 ?_
    refine lv_goto (tgt := 34) hx hb dX11_order_24 (by decide) ?_
    exact x_iret hx hb hr hlocks hK hP hS h dX11_order_34
def fn_X11_best_74 (k20 : Int32 → Int32 → Int32 → Int32 → St → Option (Int32 × St)) (v1 : Int32) (v2 : Int32) (v3 : Int32) (v4 : Int32) (z : St) : Option (Int32 × St) := k20 v1 v2 v3 (v4 + 1) z
set_option maxHeartbeats 4000000 in
set_option maxRecDepth 100000 in
theorem pf_X11_best_74 {p : Program} {l : Launch} {e : Env} {s : State} {m : MethodId} {args : Array Value} {below : List Frame} {meth : Method} {c : Code} {G : wG} (C : CX p s m args meth c cX11_best 6 (wsU yX11_best cX11_best 6 (some .int)) RX11 (some .int) G) {Rz : Int32 × St} {k20 : Int32 → Int32 → Int32 → Int32 → St → Option (Int32 × St)} (hk_20 : ∀ (v1 : Int32) (v2 : Int32) (v3 : Int32) (v4 : Int32) (z : St)  (H : Heap) (locs : List Loc) (ls : Array Slot), WP G z H → va_S (AW G) s.heap H locs → lv_has ls 6 [(0, .ref (G.2.2 0)), (1, .int v1), (2, .int v2), (3, .int v3), (4, .int v4)] → k20 v1 v2 v3 v4 z = some Rz → W p l e (rmd 6) s m args below meth c H locs 0 0 (QI below args s G Rz) (F0 m 20 ls [])) (v1 : Int32) (v2 : Int32) (v3 : Int32) (v4 : Int32) (z : St)  {H : Heap} {locs : List Loc} {ls : Array Slot} (hP : WP G z H) (hS : va_S (AW G) s.heap H locs) (hl : lv_has ls 6 [(0, .ref (G.2.2 0)), (1, .int v1), (2, .int v2), (3, .int v3), (4, .int v4)]) (h : fn_X11_best_74  k20 v1 v2 v3 v4 z = some Rz) : W p l e (rmd 6) s m args below meth c H locs 0 0 (QI below args s G Rz) (F0 m 74 ls []) := by
  obtain ⟨hx, hb, hml, hown, hts, hr, hlocks, hK, hG⟩ := id C
  unfold fn_X11_best_74 at h
  refine lv_iinc (v := (v4 + 1)) (lv' := [(4, .int (v4 + 1)), (0, .ref (G.2.2 0)), (1, .int v1), (2, .int v2), (3, .int v3)]) hx hb dX11_best_74 hl (k := 4) rfl rfl (by decide) rfl (fun ls hl => ?_)
  refine lv_goto (tgt := 20) hx hb dX11_best_77 (by decide) ?_
  exact hk_20 v1 v2 v3 (v4 + 1) z  _ _ _ hP hS (lv_sub hl [1, 2, 3, 4, 0] rfl) h
def fn_X11_best_68 (k20 : Int32 → Int32 → Int32 → Int32 → St → Option (Int32 × St)) (v1 : Int32) (v4 : Int32) (v5 : Int32) (z : St) : Option (Int32 × St) := fn_X11_best_74  k20 v1 v4 v5 v4 z
set_option maxHeartbeats 4000000 in
set_option maxRecDepth 100000 in
theorem pf_X11_best_68 {p : Program} {l : Launch} {e : Env} {s : State} {m : MethodId} {args : Array Value} {below : List Frame} {meth : Method} {c : Code} {G : wG} (C : CX p s m args meth c cX11_best 6 (wsU yX11_best cX11_best 6 (some .int)) RX11 (some .int) G) {Rz : Int32 × St} {k20 : Int32 → Int32 → Int32 → Int32 → St → Option (Int32 × St)} (hk_20 : ∀ (v1 : Int32) (v2 : Int32) (v3 : Int32) (v4 : Int32) (z : St)  (H : Heap) (locs : List Loc) (ls : Array Slot), WP G z H → va_S (AW G) s.heap H locs → lv_has ls 6 [(0, .ref (G.2.2 0)), (1, .int v1), (2, .int v2), (3, .int v3), (4, .int v4)] → k20 v1 v2 v3 v4 z = some Rz → W p l e (rmd 6) s m args below meth c H locs 0 0 (QI below args s G Rz) (F0 m 20 ls [])) (v1 : Int32) (v4 : Int32) (v5 : Int32) (z : St)  {H : Heap} {locs : List Loc} {ls : Array Slot} (hP : WP G z H) (hS : va_S (AW G) s.heap H locs) (hl : lv_has ls 6 [(0, .ref (G.2.2 0)), (1, .int v1), (4, .int v4), (5, .int v5)]) (h : fn_X11_best_68  k20 v1 v4 v5 z = some Rz) : W p l e (rmd 6) s m args below meth c H locs 0 0 (QI below args s G Rz) (F0 m 68 ls []) := by
  obtain ⟨hx, hb, hml, hown, hts, hr, hlocks, hK, hG⟩ := id C
  unfold fn_X11_best_68 at h
  refine lv_iload hx hb dX11_best_68 (lv_at hl 2 rfl) ?_
  refine lv_istore_n (lv' := [(2, .int v4), (0, .ref (G.2.2 0)), (1, .int v1), (4, .int v4), (5, .int v5)]) hx hb dX11_best_70 rfl hl (by decide) rfl (fun ls hl => ?_)
  refine lv_iload hx hb dX11_best_71 (lv_at hl 4 rfl) ?_
  refine lv_istore_n (lv' := [(3, .int v5), (2, .int v4), (0, .ref (G.2.2 0)), (1, .int v1), (4, .int v4), (5, .int v5)]) hx hb dX11_best_73 rfl hl (by decide) rfl (fun ls hl => ?_)
  exact pf_X11_best_74 C  hk_20 v1 v4 v5 v4 z  hP hS (lv_sub hl [2, 3, 1, 0, 4] rfl) h
def fn_X11_best_20 : Nat → Int32 → Int32 → Int32 → Int32 → St → Option (Int32 × St)
  | 0, _, _, _, _, _ => none
  | n + 1, v1, v2, v3, v4, z => (if (z.1 34 2) ≤ v4 then some (v2, z) else bd (fn_X1_isFree  34 v4 z) (fun r3 z4 => (if r3 = 0 then fn_X11_best_74  (fn_X11_best_20   n) v1 v2 v3 v4 z4 else bd (fn_X10_ofPiece  v1 v4 0 z4) (fun r7 z8 => (if v2 = (-1) then fn_X11_best_68  (fn_X11_best_20   n) v1 v4 r7 z8 else (if r7 ≤ v3 then fn_X11_best_74  (fn_X11_best_20   n) v1 v2 v3 v4 z8 else fn_X11_best_68  (fn_X11_best_20   n) v1 v4 r7 z8))))))
set_option maxHeartbeats 4000000 in
set_option maxRecDepth 100000 in
theorem pf_X11_best_20 {p : Program} {l : Launch} {e : Env} {s : State} {m : MethodId} {args : Array Value} {below : List Frame} {meth : Method} {c : Code} {G : wG} (C : CX p s m args meth c cX11_best 6 (wsU yX11_best cX11_best 6 (some .int)) RX11 (some .int) G) {Rz : Int32 × St} : ∀ (n : Nat) (v1 : Int32) (v2 : Int32) (v3 : Int32) (v4 : Int32) (z : St)  (H : Heap) (locs : List Loc) (ls : Array Slot), WP G z H → va_S (AW G) s.heap H locs → lv_has ls 6 [(0, .ref (G.2.2 0)), (1, .int v1), (2, .int v2), (3, .int v3), (4, .int v4)] → fn_X11_best_20   n v1 v2 v3 v4 z = some Rz → W p l e (rmd 6) s m args below meth c H locs 0 0 (QI below args s G Rz) (F0 m 20 ls []) := by
  obtain ⟨hx, hb, hml, hown, hts, hr, hlocks, hK, hG⟩ := id C
  intro n
  induction n with
  | zero => intro v1 v2 v3 v4 z  H locs ls hP hS hl h; cases h
  | succ n ih =>
    intro v1 v2 v3 v4 z  H locs ls hP hS hl h
    rw [fn_X11_best_20] at h
    refine lv_iload hx hb dX11_best_20 (lv_at hl 4 rfl) ?_
    refine lv_aload_n hx hb dX11_best_22 rfl (lv_at hl 0 rfl) ?_
    refine ge_11_5 hx hb hts (inU inW_X11) hown hK hP k_0 (hts _ (List.mem_cons_of_mem _ lw_708)) dX11_best_23 ?_
    refine ge_1_2 hx hb hts (inU inW_X1) hown hK hP k_34 (hts _ (List.mem_cons_of_mem _ lw_425)) dX11_best_26 ?_
    refine lv_icmp_ge (tgt := 80) hx hb dX11_best_29 (by decide) (fun c1 => ?_) (fun c1 => ?_)
    · rw [if_pos c1] at h
      refine lv_iload_n hx hb dX11_best_80 rfl (lv_at hl 2 rfl) ?_
      exact x_iret hx hb hr hlocks hK hP hS h dX11_best_81
    · rw [if_neg c1] at h
      refine lv_aload_n hx hb dX11_best_32 rfl (lv_at hl 0 rfl) ?_
      refine ge_11_5 hx hb hts (inU inW_X11) hown hK hP k_0 (hts _ (List.mem_cons_of_mem _ lw_708)) dX11_best_33 ?_
      refine lv_iload hx hb dX11_best_36 (lv_at hl 4 rfl) ?_
      obtain ⟨r3, z4, h2, h⟩ := bd_s h
      refine x_Vi (Rz := (r3, z4)) (As := [.int v4]) (rest := []) ⟨hx, hb, hml, hown, hts⟩ hK hP hS (kd_lt k_34 (by decide)) (cell_1 k_34) rfl (m_X1_isFree hG  k_34 h2) (cwV 1 hts (gV lw_1081 lw_1010 lw_1011 lw_117 lw_1012) rfl rfl rfl (by decide +kernel) (rmd_ok (by decide) (by decide))) rfl hl.1 rfl (Nat.le_of_ble_eq_true rfl) dX11_best_38 ⟨Nat.le_refl _, Nat.le_refl _⟩ (fun H locs hP hS => ?_)
      refine lv_if_eq (tgt := 74) hx hb dX11_best_41 (by decide) (fun c5 => ?_) (fun c5 => ?_)
      · rw [if_pos c5] at h
        exact pf_X11_best_74 C  ih v1 v2 v3 v4 z4  hP hS (lv_sub hl [0, 1, 2, 3, 4] rfl) h
      · rw [if_neg c5] at h
        refine lv_aload_n hx hb dX11_best_44 rfl (lv_at hl 0 rfl) ?_
        refine ge_11_7 hx hb hts (inU inW_X11) hown hK hP k_0 (hts _ (List.mem_cons_of_mem _ lw_710)) dX11_best_45 ?_
        refine lv_iload_n hx hb dX11_best_48 rfl (lv_at hl 1 rfl) ?_
        refine lv_iload hx hb dX11_best_49 (lv_at hl 4 rfl) ?_
        refine lv_iconst (v := 0) hx hb dX11_best_51 (by decide) ?_
        obtain ⟨r7, z8, h6, h⟩ := bd_s h
        refine x_Vi (Rz := (r7, z8)) (As := [.int v1, .int v4, .int 0]) (rest := []) ⟨hx, hb, hml, hown, hts⟩ hK hP hS (kd_lt k_143 (by decide)) (cell_10 k_143) rfl (m_X10_ofPiece hG   h6) (cwV 3 hts (gV lw_966 lw_967 lw_968 lw_119 lw_969) rfl rfl rfl (by decide +kernel) (rmd_ok (by decide) (by decide))) rfl hl.1 rfl (Nat.le_of_ble_eq_true rfl) dX11_best_52 ⟨Nat.le_refl _, Nat.le_refl _⟩ (fun H locs hP hS => ?_)
        refine lv_istore (lv' := [(5, .int r7), (0, .ref (G.2.2 0)), (1, .int v1), (2, .int v2), (3, .int v3), (4, .int v4)]) hx hb dX11_best_55 hl (by decide) rfl (fun ls hl => ?_)
        refine lv_iload_n hx hb dX11_best_57 rfl (lv_at hl 3 rfl) ?_
        refine lv_iconst (v := (-1)) hx hb dX11_best_58 (by decide) ?_
        refine lv_icmp_eq (tgt := 68) hx hb dX11_best_59 (by decide) (fun c9 => ?_) (fun c9 => ?_)
        · rw [if_pos c9] at h
          exact pf_X11_best_68 C  ih v1 v4 r7 z8  hP hS (lv_sub hl [1, 2, 5, 0] rfl) h
        · rw [if_neg c9] at h
          refine lv_iload hx hb dX11_best_62 (lv_at hl 0 rfl) ?_
          refine lv_iload_n hx hb dX11_best_64 rfl (lv_at hl 4 rfl) ?_
          refine lv_icmp_le (tgt := 74) hx hb dX11_best_65 (by decide) (fun c10 => ?_) (fun c10 => ?_)
          · rw [if_pos c10] at h
            exact pf_X11_best_74 C  ih v1 v2 v3 v4 z8  hP hS (lv_sub hl [1, 2, 3, 4, 5] rfl) h
          · rw [if_neg c10] at h
            exact pf_X11_best_68 C  ih v1 v4 r7 z8  hP hS (lv_sub hl [1, 2, 5, 0] rfl) h
def fn_X11_best (v1 : Int32) (z : St) : Option (Int32 × St) := bd (fn_X7_isGuest  2 v1 z) (fun r2 z3 => (if r2 = 0 then some ((-1), z3) else fn_X11_best_20   fu v1 (-1) 0 0 z3))
set_option maxHeartbeats 4000000 in
set_option maxRecDepth 100000 in
theorem m_X11_best {l : Launch} {G : wG} (hG : Ok G) {v1 : Int32} {z : St} {Rz : Int32 × St}  (h : fn_X11_best  v1 z = some Rz) : Met l yX11_best (wsU yX11_best cX11_best 6 (some .int)) (rmd 6) (va_Pc [.ref (G.2.2 0), .int v1] (Pre G z)) (va_Qi (fun r u => (r, u) = Rz) (Pre G) (AW G)) 0 0 (AW G) := by
  refine Met.ofW (cc := cX11_best) (maxL := 6) (ret := (some .int)) (by decide) rfl ?_
  intro p e s m args below meth c s₁ B hml hv
  obtain ⟨rfl, hP, hK⟩ := hv
  have C : CX p s m ([.ref (G.2.2 0), .int v1] : List Value).toArray meth c cX11_best 6 (wsU yX11_best cX11_best 6 (some .int)) RX11 (some .int) G := ⟨B.exec, B.bytes, hml, findClass_of_methodNamed B.named, atoms_spec (ws := (wsU yX11_best cX11_best 6 (some .int))) B.pre, B.returns, B.notSynchronized, hK, hG⟩
  obtain ⟨hx, hb, -, hown, hts, hr, hlocks, -, -⟩ := id C
  have hS : va_S (AW G) s.heap s.heap [] := va_S.rf
  have hl := lv_entry [.ref (G.2.2 0), .int v1] (n := 6) (Nat.le_of_ble_eq_true rfl)
  rw [lg_entry_eq]
  generalize (lg_sl [.ref (G.2.2 0), .int v1] ++ List.replicate (6 - (lg_sl [.ref (G.2.2 0), .int v1]).length) Slot.unset).toArray = ls at hl ⊢
  have hl : lv_has ls 6 [(0, .ref (G.2.2 0)), (1, .int v1)] := hl
  unfold fn_X11_best at h
  refine lv_aload_n hx hb dX11_best_0 rfl (lv_at hl 0 rfl) ?_
  refine ge_11_2 hx hb hts (inU inW_X11) hown hK hP k_0 (hts _ (List.mem_cons_of_mem _ lw_705)) dX11_best_1 ?_
  refine lv_iload_n hx hb dX11_best_4 rfl (lv_at hl 1 rfl) ?_
  obtain ⟨r2, z3, h1, h⟩ := bd_s h
  refine x_Vi (Rz := (r2, z3)) (As := [.int v1]) (rest := []) ⟨hx, hb, hml, hown, hts⟩ hK hP hS (kd_lt k_2 (by decide)) (cell_7 k_2) rfl (m_X7_isGuest hG  k_2 h1) (cwV 1 hts (gV lw_962 lw_963 lw_964 lw_110 lw_965) rfl rfl rfl (by decide +kernel) (rmd_ok (by decide) (by decide))) rfl hl.1 rfl (Nat.le_of_ble_eq_true rfl) dX11_best_5 ⟨Nat.le_refl _, Nat.le_refl _⟩ (fun H locs hP hS => ?_)
  refine lv_if_ne (tgt := 13) hx hb dX11_best_8 (by decide) (fun c4 => ?_) (fun c4 => ?_)
  · rw [if_neg c4] at h
    refine lv_iconst (v := (-1)) hx hb dX11_best_13 (by decide) ?_
    refine lv_istore_n (lv' := [(2, .int (-1)), (0, .ref (G.2.2 0)), (1, .int v1)]) hx hb dX11_best_14 rfl hl (by decide) rfl (fun ls hl => ?_)
    refine lv_iconst (v := 0) hx hb dX11_best_15 (by decide) ?_
    refine lv_istore_n (lv' := [(3, .int 0), (2, .int (-1)), (0, .ref (G.2.2 0)), (1, .int v1)]) hx hb dX11_best_16 rfl hl (by decide) rfl (fun ls hl => ?_)
    refine lv_iconst (v := 0) hx hb dX11_best_17 (by decide) ?_
    refine lv_istore (lv' := [(4, .int 0), (3, .int 0), (2, .int (-1)), (0, .ref (G.2.2 0)), (1, .int v1)]) hx hb dX11_best_18 hl (by decide) rfl (fun ls hl => ?_)
    exact pf_X11_best_20 C   fu v1 (-1) 0 0 z3  _ _ _ hP hS (lv_sub hl [3, 4, 2, 1, 0] rfl) h
  · rw [if_pos c4] at h
    refine lv_iconst (v := (-1)) hx hb dX11_best_11 (by decide) ?_
    exact x_iret hx hb hr hlocks hK hP hS h dX11_best_12
def fn_X11_lies (v1 : Int32) (z : St) : Option (Int32 × St) := (if v1 < 0 then some ((-2), z) else (if (z.1 0 14) ≤ v1 then some ((-2), z) else (if v1 < 6 then gd (ix v1 6) (some ((z.1 171 (Int32.toNatClampNeg v1)), z)) else some ((-2), z))))
set_option maxHeartbeats 4000000 in
set_option maxRecDepth 100000 in
theorem m_X11_lies {l : Launch} {G : wG} (hG : Ok G) {v1 : Int32} {z : St} {Rz : Int32 × St}  (h : fn_X11_lies  v1 z = some Rz) : Met l yX11_lies (wsU yX11_lies cX11_lies 2 (some .int)) (rmd 1) (va_Pc [.ref (G.2.2 0), .int v1] (Pre G z)) (va_Qi (fun r u => (r, u) = Rz) (Pre G) (AW G)) 0 0 (AW G) := by
  refine Met.ofW (cc := cX11_lies) (maxL := 2) (ret := (some .int)) (by decide) rfl ?_
  intro p e s m args below meth c s₁ B hml hv
  obtain ⟨rfl, hP, hK⟩ := hv
  have C : CX p s m ([.ref (G.2.2 0), .int v1] : List Value).toArray meth c cX11_lies 2 (wsU yX11_lies cX11_lies 2 (some .int)) RX11 (some .int) G := ⟨B.exec, B.bytes, hml, findClass_of_methodNamed B.named, atoms_spec (ws := (wsU yX11_lies cX11_lies 2 (some .int))) B.pre, B.returns, B.notSynchronized, hK, hG⟩
  obtain ⟨hx, hb, -, hown, hts, hr, hlocks, -, -⟩ := id C
  have hS : va_S (AW G) s.heap s.heap [] := va_S.rf
  have hl := lv_entry [.ref (G.2.2 0), .int v1] (n := 2) (Nat.le_of_ble_eq_true rfl)
  rw [lg_entry_eq]
  generalize (lg_sl [.ref (G.2.2 0), .int v1] ++ List.replicate (2 - (lg_sl [.ref (G.2.2 0), .int v1]).length) Slot.unset).toArray = ls at hl ⊢
  have hl : lv_has ls 2 [(0, .ref (G.2.2 0)), (1, .int v1)] := hl
  unfold fn_X11_lies at h
  refine lv_iload_n hx hb dX11_lies_0 rfl (lv_at hl 1 rfl) ?_
  refine lv_if_lt (tgt := 21) hx hb dX11_lies_1 (by decide) (fun c1 => ?_) (fun c1 => ?_)
  · rw [if_pos c1] at h
    refine lv_bipush (v := (-2)) hx hb dX11_lies_21 (by decide) ?_
    exact x_iret hx hb hr hlocks hK hP hS h dX11_lies_23
  · rw [if_neg c1] at h
    refine lv_iload_n hx hb dX11_lies_4 rfl (lv_at hl 1 rfl) ?_
    refine lv_aload_n hx hb dX11_lies_5 rfl (lv_at hl 0 rfl) ?_
    refine ge_11_14 hx hb hts (inU inW_X11) hown hK hP k_0 (hts _ (List.mem_cons_of_mem _ lw_717)) dX11_lies_6 ?_
    refine lv_icmp_ge (tgt := 21) hx hb dX11_lies_9 (by decide) (fun c2 => ?_) (fun c2 => ?_)
    · rw [if_pos c2] at h
      refine lv_bipush (v := (-2)) hx hb dX11_lies_21 (by decide) ?_
      exact x_iret hx hb hr hlocks hK hP hS h dX11_lies_23
    · rw [if_neg c2] at h
      refine lv_iload_n hx hb dX11_lies_12 rfl (lv_at hl 1 rfl) ?_
      refine lv_aload_n hx hb dX11_lies_13 rfl (lv_at hl 0 rfl) ?_
      refine ge_11_13 hx hb hts (inU inW_X11) hown hK hP k_0 (hts _ (List.mem_cons_of_mem _ lw_716)) dX11_lies_14 ?_
      refine xn_14 (v := 6) hx hb hK hP k_171 l_171 rfl dX11_lies_17 ?_
      refine lv_icmp_lt (tgt := 24) hx hb dX11_lies_18 (by decide) (fun c3 => ?_) (fun c3 => ?_)
      · rw [if_pos c3] at h
        refine lv_aload_n hx hb dX11_lies_24 rfl (lv_at hl 0 rfl) ?_
        refine ge_11_13 hx hb hts (inU inW_X11) hown hK hP k_0 (hts _ (List.mem_cons_of_mem _ lw_716)) dX11_lies_25 ?_
        refine lv_iload_n hx hb dX11_lies_28 rfl (lv_at hl 1 rfl) ?_
        obtain ⟨g4, h⟩ := gd_s h
        refine xl_14 hx hb hK hP k_171 l_171 (ix_in g4) dX11_lies_29 ?_
        exact x_iret hx hb hr hlocks hK hP hS h dX11_lies_30
      · rw [if_neg c3] at h
        refine lv_bipush (v := (-2)) hx hb dX11_lies_21 (by decide) ?_
        exact x_iret hx hb hr hlocks hK hP hS h dX11_lies_23
def fn_X11_canBeAlike (v1 : Int32) (v2 : Int32) (z : St) : Option (Int32 × St) := bd (fn_X7_isTier  2 v1 z) (fun r2 z3 => (if r2 = 0 then some (0, z3) else (if v2 < 1 then some (0, z3) else (if 64 < v2 then some (0, z3) else some (1, z3)))))
set_option maxHeartbeats 4000000 in
set_option maxRecDepth 100000 in
theorem m_X11_canBeAlike {l : Launch} {G : wG} (hG : Ok G) {v1 : Int32} {v2 : Int32} {z : St} {Rz : Int32 × St}  (h : fn_X11_canBeAlike  v1 v2 z = some Rz) : Met l yX11_canBeAlike (wsU yX11_canBeAlike cX11_canBeAlike 3 (some .boolean)) (rmd 2) (va_Pc [.ref (G.2.2 0), .int v1, .int v2] (Pre G z)) (va_Qi (fun r u => (r, u) = Rz) (Pre G) (AW G)) 0 0 (AW G) := by
  refine Met.ofW (cc := cX11_canBeAlike) (maxL := 3) (ret := (some .boolean)) (by decide) rfl ?_
  intro p e s m args below meth c s₁ B hml hv
  obtain ⟨rfl, hP, hK⟩ := hv
  have C : CX p s m ([.ref (G.2.2 0), .int v1, .int v2] : List Value).toArray meth c cX11_canBeAlike 3 (wsU yX11_canBeAlike cX11_canBeAlike 3 (some .boolean)) RX11 (some .boolean) G := ⟨B.exec, B.bytes, hml, findClass_of_methodNamed B.named, atoms_spec (ws := (wsU yX11_canBeAlike cX11_canBeAlike 3 (some .boolean))) B.pre, B.returns, B.notSynchronized, hK, hG⟩
  obtain ⟨hx, hb, -, hown, hts, hr, hlocks, -, -⟩ := id C
  have hS : va_S (AW G) s.heap s.heap [] := va_S.rf
  have hl := lv_entry [.ref (G.2.2 0), .int v1, .int v2] (n := 3) (Nat.le_of_ble_eq_true rfl)
  rw [lg_entry_eq]
  generalize (lg_sl [.ref (G.2.2 0), .int v1, .int v2] ++ List.replicate (3 - (lg_sl [.ref (G.2.2 0), .int v1, .int v2]).length) Slot.unset).toArray = ls at hl ⊢
  have hl : lv_has ls 3 [(0, .ref (G.2.2 0)), (1, .int v1), (2, .int v2)] := hl
  unfold fn_X11_canBeAlike at h
  refine lv_aload_n hx hb dX11_canBeAlike_0 rfl (lv_at hl 0 rfl) ?_
  refine ge_11_2 hx hb hts (inU inW_X11) hown hK hP k_0 (hts _ (List.mem_cons_of_mem _ lw_705)) dX11_canBeAlike_1 ?_
  refine lv_iload_n hx hb dX11_canBeAlike_4 rfl (lv_at hl 1 rfl) ?_
  obtain ⟨r2, z3, h1, h⟩ := bd_s h
  refine x_Vi (Rz := (r2, z3)) (As := [.int v1]) (rest := []) ⟨hx, hb, hml, hown, hts⟩ hK hP hS (kd_lt k_2 (by decide)) (cell_7 k_2) rfl (m_X7_isTier hG  k_2 h1) (cwV 1 hts (gV lw_1297 lw_951 lw_952 lw_110 lw_953) rfl rfl rfl (by decide +kernel) (rmd_ok (by decide) (by decide))) rfl hl.1 rfl (Nat.le_of_ble_eq_true rfl) dX11_canBeAlike_5 ⟨Nat.le_refl _, Nat.le_refl _⟩ (fun H locs hP hS => ?_)
  refine lv_if_eq (tgt := 26) hx hb dX11_canBeAlike_8 (by decide) (fun c4 => ?_) (fun c4 => ?_)
  · rw [if_pos c4] at h
    refine lv_iconst (v := 0) hx hb dX11_canBeAlike_26 (by decide) ?_
    exact x_zret hx hb hr hlocks hK hP hS rfl h dX11_canBeAlike_27
  · rw [if_neg c4] at h
    refine lv_iload_n hx hb dX11_canBeAlike_11 rfl (lv_at hl 2 rfl) ?_
    refine lv_iconst (v := 1) hx hb dX11_canBeAlike_12 (by decide) ?_
    refine lv_icmp_lt (tgt := 26) hx hb dX11_canBeAlike_13 (by decide) (fun c5 => ?_) (fun c5 => ?_)
    · rw [if_pos c5] at h
      refine lv_iconst (v := 0) hx hb dX11_canBeAlike_26 (by decide) ?_
      exact x_zret hx hb hr hlocks hK hP hS rfl h dX11_canBeAlike_27
    · rw [if_neg c5] at h
      refine lv_iload_n hx hb dX11_canBeAlike_16 rfl (lv_at hl 2 rfl) ?_
      refine lv_bipush (v := 64) hx hb dX11_canBeAlike_17 (by decide) ?_
      refine lv_icmp_gt (tgt := 26) hx hb dX11_canBeAlike_19 (by decide) (fun c6 => ?_) (fun c6 => ?_)
      · rw [if_pos c6] at h
        refine lv_iconst (v := 0) hx hb dX11_canBeAlike_26 (by decide) ?_
        exact x_zret hx hb hr hlocks hK hP hS rfl h dX11_canBeAlike_27
      · rw [if_neg c6] at h
        refine lv_iconst (v := 1) hx hb dX11_canBeAlike_22 (by decide) ?_
        refine lv_goto (tgt := 27) hx hb dX11_canBeAlike_23 (by decide) ?_
        exact x_zret hx hb hr hlocks hK hP hS rfl h dX11_canBeAlike_27
def fn_X11_grid (v1 : Int32) (v2 : Int32) (v3 : Int32) (z : St) : Option (Int32 × St) := bd (fn_X11_canBeAlike  v1 v2 z) (fun r2 z3 => (if r2 = 0 then some ((-1), z3) else gd (ix v1 3) (gd (ix v1 3) (bd (fn_X3_search  (z3.1 4 (Int32.toNatClampNeg v1)) (z3.1 5 (Int32.toNatClampNeg v1)) v2 z3) (fun r8 z9 => (if r8 = 0 then some ((-1), z9) else (if v3 = 0 then some ((z9.1 161 0), z9) else (if v3 = 1 then some ((z9.1 161 1), z9) else (if v3 = 2 then some ((z9.1 161 2), z9) else (if v3 = 3 then some ((z9.1 161 3), z9) else (some ((-1), z9))))))))))))
set_option maxHeartbeats 4000000 in
set_option maxRecDepth 100000 in
theorem m_X11_grid {l : Launch} {G : wG} (hG : Ok G) {v1 : Int32} {v2 : Int32} {v3 : Int32} {z : St} {Rz : Int32 × St}  (h : fn_X11_grid  v1 v2 v3 z = some Rz) : Met l yX11_grid (wsU yX11_grid cX11_grid 4 (some .int)) (rmd 4) (va_Pc [.ref (G.2.2 0), .int v1, .int v2, .int v3] (Pre G z)) (va_Qi (fun r u => (r, u) = Rz) (Pre G) (AW G)) 0 0 (AW G) := by
  refine Met.ofW (cc := cX11_grid) (maxL := 4) (ret := (some .int)) (by decide) rfl ?_
  intro p e s m args below meth c s₁ B hml hv
  obtain ⟨rfl, hP, hK⟩ := hv
  have C : CX p s m ([.ref (G.2.2 0), .int v1, .int v2, .int v3] : List Value).toArray meth c cX11_grid 4 (wsU yX11_grid cX11_grid 4 (some .int)) RX11 (some .int) G := ⟨B.exec, B.bytes, hml, findClass_of_methodNamed B.named, atoms_spec (ws := (wsU yX11_grid cX11_grid 4 (some .int))) B.pre, B.returns, B.notSynchronized, hK, hG⟩
  obtain ⟨hx, hb, -, hown, hts, hr, hlocks, -, -⟩ := id C
  have hS : va_S (AW G) s.heap s.heap [] := va_S.rf
  have hl := lv_entry [.ref (G.2.2 0), .int v1, .int v2, .int v3] (n := 4) (Nat.le_of_ble_eq_true rfl)
  rw [lg_entry_eq]
  generalize (lg_sl [.ref (G.2.2 0), .int v1, .int v2, .int v3] ++ List.replicate (4 - (lg_sl [.ref (G.2.2 0), .int v1, .int v2, .int v3]).length) Slot.unset).toArray = ls at hl ⊢
  have hl : lv_has ls 4 [(0, .ref (G.2.2 0)), (1, .int v1), (2, .int v2), (3, .int v3)] := hl
  unfold fn_X11_grid at h
  refine lv_aload_n hx hb dX11_grid_0 rfl (lv_at hl 0 rfl) ?_
  refine lv_iload_n hx hb dX11_grid_1 rfl (lv_at hl 1 rfl) ?_
  refine lv_iload_n hx hb dX11_grid_2 rfl (lv_at hl 2 rfl) ?_
  obtain ⟨r2, z3, h1, h⟩ := bd_s h
  refine x_Vi (Rz := (r2, z3)) (As := [.int v1, .int v2]) (rest := []) ⟨hx, hb, hml, hown, hts⟩ hK hP hS (kd_lt k_0 (by decide)) (cell_11 k_0) rfl (m_X11_canBeAlike hG   h1) (cwV 2 hts (gV lw_1293 lw_1295 lw_41 lw_109 lw_1296) rfl rfl rfl (by decide +kernel) (rmd_ok (by decide) (by decide))) rfl hl.1 rfl (Nat.le_of_ble_eq_true rfl) dX11_grid_3 ⟨Nat.le_refl _, Nat.le_refl _⟩ (fun H locs hP hS => ?_)
  refine lv_if_eq (tgt := 38) hx hb dX11_grid_6 (by decide) (fun c4 => ?_) (fun c4 => ?_)
  · rw [if_pos c4] at h
    refine lv_iconst (v := (-1)) hx hb dX11_grid_38 (by decide) ?_
    exact x_iret hx hb hr hlocks hK hP hS h dX11_grid_39
  · rw [if_neg c4] at h
    refine lv_aload_n hx hb dX11_grid_9 rfl (lv_at hl 0 rfl) ?_
    refine ge_11_11 hx hb hts (inU inW_X11) hown hK hP k_0 (hts _ (List.mem_cons_of_mem _ lw_714)) dX11_grid_10 ?_
    refine lv_aload_n hx hb dX11_grid_13 rfl (lv_at hl 0 rfl) ?_
    refine ge_11_2 hx hb hts (inU inW_X11) hown hK hP k_0 (hts _ (List.mem_cons_of_mem _ lw_705)) dX11_grid_14 ?_
    refine ge_7_2 hx hb hts (inU inW_X7) hown hK hP k_2 (hts _ (List.mem_cons_of_mem _ lw_187)) dX11_grid_17 ?_
    refine lv_iload_n hx hb dX11_grid_20 rfl (lv_at hl 1 rfl) ?_
    obtain ⟨g5, h⟩ := gd_s h
    refine xl_14 hx hb hK hP k_4 l_4 (ix_in g5) dX11_grid_21 ?_
    refine lv_aload_n hx hb dX11_grid_22 rfl (lv_at hl 0 rfl) ?_
    refine ge_11_2 hx hb hts (inU inW_X11) hown hK hP k_0 (hts _ (List.mem_cons_of_mem _ lw_705)) dX11_grid_23 ?_
    refine ge_7_3 hx hb hts (inU inW_X7) hown hK hP k_2 (hts _ (List.mem_cons_of_mem _ lw_191)) dX11_grid_26 ?_
    refine lv_iload_n hx hb dX11_grid_29 rfl (lv_at hl 1 rfl) ?_
    obtain ⟨g6, h⟩ := gd_s h
    refine xl_14 hx hb hK hP k_5 l_5 (ix_in g6) dX11_grid_30 ?_
    refine lv_iload_n hx hb dX11_grid_31 rfl (lv_at hl 2 rfl) ?_
    obtain ⟨r8, z9, h7, h⟩ := bd_s h
    refine x_Vi (Rz := (r8, z9)) (As := [.int (z3.1 4 (Int32.toNatClampNeg v1)), .int (z3.1 5 (Int32.toNatClampNeg v1)), .int v2]) (rest := []) ⟨hx, hb, hml, hown, hts⟩ hK hP hS (kd_lt k_161 (by decide)) (cell_3 k_161) rfl (m_X3_search hG   h7) (cwV 3 hts (gV lw_1298 lw_1299 lw_1300 lw_123 lw_1301) rfl rfl rfl (by decide +kernel) (rmd_ok (by decide) (by decide))) rfl hl.1 rfl (Nat.le_of_ble_eq_true rfl) dX11_grid_32 ⟨Nat.le_refl _, Nat.le_refl _⟩ (fun H locs hP hS => ?_)
    refine lv_if_ne (tgt := 40) hx hb dX11_grid_35 (by decide) (fun c10 => ?_) (fun c10 => ?_)
    · rw [if_neg c10] at h
      refine lv_iload_n hx hb dX11_grid_40 rfl (lv_at hl 3 rfl) ?_
      by_cases c11 : v3 = 0
      · rw [if_pos c11] at h
        refine lv_tableIn (off := 31) (tgt := 72) hx hb dX11_grid_41 (by rw [c11]; decide) (by rw [c11]; decide) (by rw [c11]; rfl) (by decide) ?_
        refine lv_aload_n hx hb dX11_grid_72 rfl (lv_at hl 0 rfl) ?_
        refine ge_11_11 hx hb hts (inU inW_X11) hown hK hP k_0 (hts _ (List.mem_cons_of_mem _ lw_714)) dX11_grid_73 ?_
        refine ge_3_0 hx hb hts (inU inW_X3) hown hK hP k_161 (hts _ (List.mem_cons_of_mem _ lw_628)) dX11_grid_76 ?_
        exact x_iret hx hb hr hlocks hK hP hS h dX11_grid_79
      rw [if_neg c11] at h
      by_cases c12 : v3 = 1
      · rw [if_pos c12] at h
        refine lv_tableIn (off := 39) (tgt := 80) hx hb dX11_grid_41 (by rw [c12]; decide) (by rw [c12]; decide) (by rw [c12]; rfl) (by decide) ?_
        refine lv_aload_n hx hb dX11_grid_80 rfl (lv_at hl 0 rfl) ?_
        refine ge_11_11 hx hb hts (inU inW_X11) hown hK hP k_0 (hts _ (List.mem_cons_of_mem _ lw_714)) dX11_grid_81 ?_
        refine ge_3_1 hx hb hts (inU inW_X3) hown hK hP k_161 (hts _ (List.mem_cons_of_mem _ lw_630)) dX11_grid_84 ?_
        exact x_iret hx hb hr hlocks hK hP hS h dX11_grid_87
      rw [if_neg c12] at h
      by_cases c13 : v3 = 2
      · rw [if_pos c13] at h
        refine lv_tableIn (off := 47) (tgt := 88) hx hb dX11_grid_41 (by rw [c13]; decide) (by rw [c13]; decide) (by rw [c13]; rfl) (by decide) ?_
        refine lv_aload_n hx hb dX11_grid_88 rfl (lv_at hl 0 rfl) ?_
        refine ge_11_11 hx hb hts (inU inW_X11) hown hK hP k_0 (hts _ (List.mem_cons_of_mem _ lw_714)) dX11_grid_89 ?_
        refine ge_3_2 hx hb hts (inU inW_X3) hown hK hP k_161 (hts _ (List.mem_cons_of_mem _ lw_632)) dX11_grid_92 ?_
        exact x_iret hx hb hr hlocks hK hP hS h dX11_grid_95
      rw [if_neg c13] at h
      by_cases c14 : v3 = 3
      · rw [if_pos c14] at h
        refine lv_tableIn (off := 55) (tgt := 96) hx hb dX11_grid_41 (by rw [c14]; decide) (by rw [c14]; decide) (by rw [c14]; rfl) (by decide) ?_
        refine lv_aload_n hx hb dX11_grid_96 rfl (lv_at hl 0 rfl) ?_
        refine ge_11_11 hx hb hts (inU inW_X11) hown hK hP k_0 (hts _ (List.mem_cons_of_mem _ lw_714)) dX11_grid_97 ?_
        refine ge_3_3 hx hb hts (inU inW_X3) hown hK hP k_161 (hts _ (List.mem_cons_of_mem _ lw_634)) dX11_grid_100 ?_
        exact x_iret hx hb hr hlocks hK hP hS h dX11_grid_103
      rw [if_neg c14] at h
      have n15 : (v3 : Int32).toInt < 0 ∨ 3 < (v3 : Int32).toInt := by
        have c11_n := lv_neT (a := 0) c11 (by decide)
        have c12_n := lv_neT (a := 1) c12 (by decide)
        have c13_n := lv_neT (a := 2) c13 (by decide)
        have c14_n := lv_neT (a := 3) c14 (by decide)
        omega
      refine lv_tableOut (tgt := 104) hx hb dX11_grid_41 n15 (by decide) ?_
      refine lv_iconst (v := (-1)) hx hb dX11_grid_104 (by decide) ?_
      exact x_iret hx hb hr hlocks hK hP hS h dX11_grid_105
    · rw [if_pos c10] at h
      refine lv_iconst (v := (-1)) hx hb dX11_grid_38 (by decide) ?_
      exact x_iret hx hb hr hlocks hK hP hS h dX11_grid_39
def fn_X11_ways (v1 : Int32) (v2 : Int32) (z : St) : Option (Int32 × St) := bd (fn_X11_canBeAlike  v1 v2 z) (fun r2 z3 => (if r2 = 0 then some ((-1), z3) else gd (ix v1 3) (gd (ix v1 3) (bd (fn_X3_search  (z3.1 4 (Int32.toNatClampNeg v1)) (z3.1 5 (Int32.toNatClampNeg v1)) v2 z3) (fun r8 z9 => some (r8, z9))))))
set_option maxHeartbeats 4000000 in
set_option maxRecDepth 100000 in
theorem m_X11_ways {l : Launch} {G : wG} (hG : Ok G) {v1 : Int32} {v2 : Int32} {z : St} {Rz : Int32 × St}  (h : fn_X11_ways  v1 v2 z = some Rz) : Met l yX11_ways (wsU yX11_ways cX11_ways 3 (some .int)) (rmd 4) (va_Pc [.ref (G.2.2 0), .int v1, .int v2] (Pre G z)) (va_Qi (fun r u => (r, u) = Rz) (Pre G) (AW G)) 0 0 (AW G) := by
  refine Met.ofW (cc := cX11_ways) (maxL := 3) (ret := (some .int)) (by decide) rfl ?_
  intro p e s m args below meth c s₁ B hml hv
  obtain ⟨rfl, hP, hK⟩ := hv
  have C : CX p s m ([.ref (G.2.2 0), .int v1, .int v2] : List Value).toArray meth c cX11_ways 3 (wsU yX11_ways cX11_ways 3 (some .int)) RX11 (some .int) G := ⟨B.exec, B.bytes, hml, findClass_of_methodNamed B.named, atoms_spec (ws := (wsU yX11_ways cX11_ways 3 (some .int))) B.pre, B.returns, B.notSynchronized, hK, hG⟩
  obtain ⟨hx, hb, -, hown, hts, hr, hlocks, -, -⟩ := id C
  have hS : va_S (AW G) s.heap s.heap [] := va_S.rf
  have hl := lv_entry [.ref (G.2.2 0), .int v1, .int v2] (n := 3) (Nat.le_of_ble_eq_true rfl)
  rw [lg_entry_eq]
  generalize (lg_sl [.ref (G.2.2 0), .int v1, .int v2] ++ List.replicate (3 - (lg_sl [.ref (G.2.2 0), .int v1, .int v2]).length) Slot.unset).toArray = ls at hl ⊢
  have hl : lv_has ls 3 [(0, .ref (G.2.2 0)), (1, .int v1), (2, .int v2)] := hl
  unfold fn_X11_ways at h
  refine lv_aload_n hx hb dX11_ways_0 rfl (lv_at hl 0 rfl) ?_
  refine lv_iload_n hx hb dX11_ways_1 rfl (lv_at hl 1 rfl) ?_
  refine lv_iload_n hx hb dX11_ways_2 rfl (lv_at hl 2 rfl) ?_
  obtain ⟨r2, z3, h1, h⟩ := bd_s h
  refine x_Vi (Rz := (r2, z3)) (As := [.int v1, .int v2]) (rest := []) ⟨hx, hb, hml, hown, hts⟩ hK hP hS (kd_lt k_0 (by decide)) (cell_11 k_0) rfl (m_X11_canBeAlike hG   h1) (cwV 2 hts (gV lw_1293 lw_1295 lw_41 lw_109 lw_1296) rfl rfl rfl (by decide +kernel) (rmd_ok (by decide) (by decide))) rfl hl.1 rfl (Nat.le_of_ble_eq_true rfl) dX11_ways_3 ⟨Nat.le_refl _, Nat.le_refl _⟩ (fun H locs hP hS => ?_)
  refine lv_if_ne (tgt := 11) hx hb dX11_ways_6 (by decide) (fun c4 => ?_) (fun c4 => ?_)
  · rw [if_neg c4] at h
    refine lv_aload_n hx hb dX11_ways_11 rfl (lv_at hl 0 rfl) ?_
    refine ge_11_11 hx hb hts (inU inW_X11) hown hK hP k_0 (hts _ (List.mem_cons_of_mem _ lw_714)) dX11_ways_12 ?_
    refine lv_aload_n hx hb dX11_ways_15 rfl (lv_at hl 0 rfl) ?_
    refine ge_11_2 hx hb hts (inU inW_X11) hown hK hP k_0 (hts _ (List.mem_cons_of_mem _ lw_705)) dX11_ways_16 ?_
    refine ge_7_2 hx hb hts (inU inW_X7) hown hK hP k_2 (hts _ (List.mem_cons_of_mem _ lw_187)) dX11_ways_19 ?_
    refine lv_iload_n hx hb dX11_ways_22 rfl (lv_at hl 1 rfl) ?_
    obtain ⟨g5, h⟩ := gd_s h
    refine xl_14 hx hb hK hP k_4 l_4 (ix_in g5) dX11_ways_23 ?_
    refine lv_aload_n hx hb dX11_ways_24 rfl (lv_at hl 0 rfl) ?_
    refine ge_11_2 hx hb hts (inU inW_X11) hown hK hP k_0 (hts _ (List.mem_cons_of_mem _ lw_705)) dX11_ways_25 ?_
    refine ge_7_3 hx hb hts (inU inW_X7) hown hK hP k_2 (hts _ (List.mem_cons_of_mem _ lw_191)) dX11_ways_28 ?_
    refine lv_iload_n hx hb dX11_ways_31 rfl (lv_at hl 1 rfl) ?_
    obtain ⟨g6, h⟩ := gd_s h
    refine xl_14 hx hb hK hP k_5 l_5 (ix_in g6) dX11_ways_32 ?_
    refine lv_iload_n hx hb dX11_ways_33 rfl (lv_at hl 2 rfl) ?_
    obtain ⟨r8, z9, h7, h⟩ := bd_s h
    refine x_Vi (Rz := (r8, z9)) (As := [.int (z3.1 4 (Int32.toNatClampNeg v1)), .int (z3.1 5 (Int32.toNatClampNeg v1)), .int v2]) (rest := []) ⟨hx, hb, hml, hown, hts⟩ hK hP hS (kd_lt k_161 (by decide)) (cell_3 k_161) rfl (m_X3_search hG   h7) (cwV 3 hts (gV lw_1298 lw_1299 lw_1300 lw_123 lw_1301) rfl rfl rfl (by decide +kernel) (rmd_ok (by decide) (by decide))) rfl hl.1 rfl (Nat.le_of_ble_eq_true rfl) dX11_ways_34 ⟨Nat.le_refl _, Nat.le_refl _⟩ (fun H locs hP hS => ?_)
    exact x_iret hx hb hr hlocks hK hP hS h dX11_ways_37
  · rw [if_pos c4] at h
    refine lv_iconst (v := (-1)) hx hb dX11_ways_9 (by decide) ?_
    exact x_iret hx hb hr hlocks hK hP hS h dX11_ways_10
def fn_X11_most_122 (k60 : Int32 → Int32 → Int32 → Int32 → Int32 → St → Option (Int32 × St)) (v1 : Int32) (v2 : Int32) (v3 : Int32) (v4 : Int32) (v5 : Int32) (z : St) : Option (Int32 × St) := k60 v1 v2 v3 v4 (v5 + (-1)) z
set_option maxHeartbeats 4000000 in
set_option maxRecDepth 100000 in
theorem pf_X11_most_122 {p : Program} {l : Launch} {e : Env} {s : State} {m : MethodId} {args : Array Value} {below : List Frame} {meth : Method} {c : Code} {G : wG} (C : CX p s m args meth c cX11_most 7 (wsU yX11_most cX11_most 7 (some .int)) RX11 (some .int) G) {Rz : Int32 × St} {k60 : Int32 → Int32 → Int32 → Int32 → Int32 → St → Option (Int32 × St)} (hk_60 : ∀ (v1 : Int32) (v2 : Int32) (v3 : Int32) (v4 : Int32) (v5 : Int32) (z : St)  (H : Heap) (locs : List Loc) (ls : Array Slot), WP G z H → va_S (AW G) s.heap H locs → lv_has ls 7 [(0, .ref (G.2.2 0)), (1, .int v1), (2, .int v2), (3, .int v3), (4, .int v4), (5, .int v5)] → k60 v1 v2 v3 v4 v5 z = some Rz → W p l e (rmd 4) s m args below meth c H locs 0 0 (QI below args s G Rz) (F0 m 60 ls [])) (v1 : Int32) (v2 : Int32) (v3 : Int32) (v4 : Int32) (v5 : Int32) (z : St)  {H : Heap} {locs : List Loc} {ls : Array Slot} (hP : WP G z H) (hS : va_S (AW G) s.heap H locs) (hl : lv_has ls 7 [(0, .ref (G.2.2 0)), (1, .int v1), (2, .int v2), (3, .int v3), (4, .int v4), (5, .int v5)]) (h : fn_X11_most_122  k60 v1 v2 v3 v4 v5 z = some Rz) : W p l e (rmd 4) s m args below meth c H locs 0 0 (QI below args s G Rz) (F0 m 122 ls []) := by
  obtain ⟨hx, hb, hml, hown, hts, hr, hlocks, hK, hG⟩ := id C
  unfold fn_X11_most_122 at h
  refine lv_iinc (v := (v5 + (-1))) (lv' := [(5, .int (v5 + (-1))), (0, .ref (G.2.2 0)), (1, .int v1), (2, .int v2), (3, .int v3), (4, .int v4)]) hx hb dX11_most_122 hl (k := 5) rfl rfl (by decide) rfl (fun ls hl => ?_)
  refine lv_goto (tgt := 60) hx hb dX11_most_125 (by decide) ?_
  exact hk_60 v1 v2 v3 v4 (v5 + (-1)) z  _ _ _ hP hS (lv_sub hl [1, 2, 3, 4, 5, 0] rfl) h
def fn_X11_most_82 (k60 : Int32 → Int32 → Int32 → Int32 → Int32 → St → Option (Int32 × St)) (v1 : Int32) (v2 : Int32) (v3 : Int32) (v4 : Int32) (v5 : Int32) (tv0 : Int32) (z : St) : Option (Int32 × St) := (if tv0 = 0 then fn_X11_most_122  k60 v1 v2 v3 v4 v5 z else gd (ix v1 3) (gd (ix v1 3) (bd (fn_X3_search  (z.1 4 (Int32.toNatClampNeg v1)) (z.1 5 (Int32.toNatClampNeg v1)) v5 z) (fun r5 z6 => (if r5 ≤ 0 then fn_X11_most_122  k60 v1 v2 v3 v4 v5 z6 else some (v5, z6))))))
set_option maxHeartbeats 4000000 in
set_option maxRecDepth 100000 in
theorem pf_X11_most_82 {p : Program} {l : Launch} {e : Env} {s : State} {m : MethodId} {args : Array Value} {below : List Frame} {meth : Method} {c : Code} {G : wG} (C : CX p s m args meth c cX11_most 7 (wsU yX11_most cX11_most 7 (some .int)) RX11 (some .int) G) {Rz : Int32 × St} {k60 : Int32 → Int32 → Int32 → Int32 → Int32 → St → Option (Int32 × St)} (hk_60 : ∀ (v1 : Int32) (v2 : Int32) (v3 : Int32) (v4 : Int32) (v5 : Int32) (z : St)  (H : Heap) (locs : List Loc) (ls : Array Slot), WP G z H → va_S (AW G) s.heap H locs → lv_has ls 7 [(0, .ref (G.2.2 0)), (1, .int v1), (2, .int v2), (3, .int v3), (4, .int v4), (5, .int v5)] → k60 v1 v2 v3 v4 v5 z = some Rz → W p l e (rmd 4) s m args below meth c H locs 0 0 (QI below args s G Rz) (F0 m 60 ls [])) (v1 : Int32) (v2 : Int32) (v3 : Int32) (v4 : Int32) (v5 : Int32) (tv0 : Int32) (z : St)  {H : Heap} {locs : List Loc} {ls : Array Slot} (hP : WP G z H) (hS : va_S (AW G) s.heap H locs) (hl : lv_has ls 7 [(0, .ref (G.2.2 0)), (1, .int v1), (2, .int v2), (3, .int v3), (4, .int v4), (5, .int v5)]) (h : fn_X11_most_82  k60 v1 v2 v3 v4 v5 tv0 z = some Rz) : W p l e (rmd 4) s m args below meth c H locs 0 0 (QI below args s G Rz) (F0 m 82 ls [.int tv0]) := by
  obtain ⟨hx, hb, hml, hown, hts, hr, hlocks, hK, hG⟩ := id C
  unfold fn_X11_most_82 at h
  refine lv_istore (lv' := [(6, .int tv0), (0, .ref (G.2.2 0)), (1, .int v1), (2, .int v2), (3, .int v3), (4, .int v4), (5, .int v5)]) hx hb dX11_most_82 hl (by decide) rfl (fun ls hl => ?_)
  refine lv_iload hx hb dX11_most_84 (lv_at hl 0 rfl) ?_
  refine lv_if_eq (tgt := 122) hx hb dX11_most_86 (by decide) (fun c1 => ?_) (fun c1 => ?_)
  · rw [if_pos c1] at h
    exact pf_X11_most_122 C  hk_60 v1 v2 v3 v4 v5 z  hP hS (lv_sub hl [1, 2, 3, 4, 5, 6] rfl) h
  · rw [if_neg c1] at h
    refine lv_aload_n hx hb dX11_most_89 rfl (lv_at hl 1 rfl) ?_
    refine ge_11_11 hx hb hts (inU inW_X11) hown hK hP k_0 (hts _ (List.mem_cons_of_mem _ lw_714)) dX11_most_90 ?_
    refine lv_aload_n hx hb dX11_most_93 rfl (lv_at hl 1 rfl) ?_
    refine ge_11_2 hx hb hts (inU inW_X11) hown hK hP k_0 (hts _ (List.mem_cons_of_mem _ lw_705)) dX11_most_94 ?_
    refine ge_7_2 hx hb hts (inU inW_X7) hown hK hP k_2 (hts _ (List.mem_cons_of_mem _ lw_187)) dX11_most_97 ?_
    refine lv_iload_n hx hb dX11_most_100 rfl (lv_at hl 2 rfl) ?_
    obtain ⟨g2, h⟩ := gd_s h
    refine xl_14 hx hb hK hP k_4 l_4 (ix_in g2) dX11_most_101 ?_
    refine lv_aload_n hx hb dX11_most_102 rfl (lv_at hl 1 rfl) ?_
    refine ge_11_2 hx hb hts (inU inW_X11) hown hK hP k_0 (hts _ (List.mem_cons_of_mem _ lw_705)) dX11_most_103 ?_
    refine ge_7_3 hx hb hts (inU inW_X7) hown hK hP k_2 (hts _ (List.mem_cons_of_mem _ lw_191)) dX11_most_106 ?_
    refine lv_iload_n hx hb dX11_most_109 rfl (lv_at hl 2 rfl) ?_
    obtain ⟨g3, h⟩ := gd_s h
    refine xl_14 hx hb hK hP k_5 l_5 (ix_in g3) dX11_most_110 ?_
    refine lv_iload hx hb dX11_most_111 (lv_at hl 6 rfl) ?_
    obtain ⟨r5, z6, h4, h⟩ := bd_s h
    refine x_Vi (Rz := (r5, z6)) (As := [.int (z.1 4 (Int32.toNatClampNeg v1)), .int (z.1 5 (Int32.toNatClampNeg v1)), .int v5]) (rest := []) ⟨hx, hb, hml, hown, hts⟩ hK hP hS (kd_lt k_161 (by decide)) (cell_3 k_161) rfl (m_X3_search hG   h4) (cwV 3 hts (gV lw_1298 lw_1299 lw_1300 lw_123 lw_1301) rfl rfl rfl (by decide +kernel) (rmd_ok (by decide) (by decide))) rfl hl.1 rfl (Nat.le_of_ble_eq_true rfl) dX11_most_113 ⟨Nat.le_refl _, Nat.le_refl _⟩ (fun H locs hP hS => ?_)
    refine lv_if_le (tgt := 122) hx hb dX11_most_116 (by decide) (fun c7 => ?_) (fun c7 => ?_)
    · rw [if_pos c7] at h
      exact pf_X11_most_122 C  hk_60 v1 v2 v3 v4 v5 z6  hP hS (lv_sub hl [1, 2, 3, 4, 5, 6] rfl) h
    · rw [if_neg c7] at h
      refine lv_iload hx hb dX11_most_119 (lv_at hl 6 rfl) ?_
      exact x_iret hx hb hr hlocks hK hP hS h dX11_most_121
def fn_X11_most_60 : Nat → Int32 → Int32 → Int32 → Int32 → Int32 → St → Option (Int32 × St)
  | 0, _, _, _, _, _, _ => none
  | n + 1, v1, v2, v3, v4, v5, z => (if v5 < 1 then some ((-1), z) else gd (v5 != 0) ((if ((v4 / v5) * v3) < v2 then fn_X11_most_82  (fn_X11_most_60   n) v1 v2 v3 v4 v5 0 z else fn_X11_most_82  (fn_X11_most_60   n) v1 v2 v3 v4 v5 1 z)))
set_option maxHeartbeats 4000000 in
set_option maxRecDepth 100000 in
theorem pf_X11_most_60 {p : Program} {l : Launch} {e : Env} {s : State} {m : MethodId} {args : Array Value} {below : List Frame} {meth : Method} {c : Code} {G : wG} (C : CX p s m args meth c cX11_most 7 (wsU yX11_most cX11_most 7 (some .int)) RX11 (some .int) G) {Rz : Int32 × St} : ∀ (n : Nat) (v1 : Int32) (v2 : Int32) (v3 : Int32) (v4 : Int32) (v5 : Int32) (z : St)  (H : Heap) (locs : List Loc) (ls : Array Slot), WP G z H → va_S (AW G) s.heap H locs → lv_has ls 7 [(0, .ref (G.2.2 0)), (1, .int v1), (2, .int v2), (3, .int v3), (4, .int v4), (5, .int v5)] → fn_X11_most_60   n v1 v2 v3 v4 v5 z = some Rz → W p l e (rmd 4) s m args below meth c H locs 0 0 (QI below args s G Rz) (F0 m 60 ls []) := by
  obtain ⟨hx, hb, hml, hown, hts, hr, hlocks, hK, hG⟩ := id C
  intro n
  induction n with
  | zero => intro v1 v2 v3 v4 v5 z  H locs ls hP hS hl h; cases h
  | succ n ih =>
    intro v1 v2 v3 v4 v5 z  H locs ls hP hS hl h
    rw [fn_X11_most_60] at h
    refine lv_iload hx hb dX11_most_60 (lv_at hl 5 rfl) ?_
    refine lv_iconst (v := 1) hx hb dX11_most_62 (by decide) ?_
    refine lv_icmp_lt (tgt := 128) hx hb dX11_most_63 (by decide) (fun c1 => ?_) (fun c1 => ?_)
    · rw [if_pos c1] at h
      refine lv_iconst (v := (-1)) hx hb dX11_most_128 (by decide) ?_
      exact x_iret hx hb hr hlocks hK hP hS h dX11_most_129
    · rw [if_neg c1] at h
      refine lv_iload hx hb dX11_most_66 (lv_at hl 4 rfl) ?_
      refine lv_iload hx hb dX11_most_68 (lv_at hl 5 rfl) ?_
      obtain ⟨g2, h⟩ := gd_s h
      refine lv_idiv hx hb dX11_most_70 (bne_z g2) ?_
      refine lv_iload_n hx hb dX11_most_71 rfl (lv_at hl 3 rfl) ?_
      refine lv_imul hx hb dX11_most_72 ?_
      refine lv_iload_n hx hb dX11_most_73 rfl (lv_at hl 2 rfl) ?_
      refine lv_icmp_lt (tgt := 81) hx hb dX11_most_74 (by decide) (fun c3 => ?_) (fun c3 => ?_)
      · rw [if_pos c3] at h
        refine lv_iconst (v := 0) hx hb dX11_most_81 (by decide) ?_
        exact pf_X11_most_82 C  ih v1 v2 v3 v4 v5 0 z  hP hS (lv_sub hl [0, 1, 2, 3, 4, 5] rfl) h
      · rw [if_neg c3] at h
        refine lv_iconst (v := 1) hx hb dX11_most_77 (by decide) ?_
        refine lv_goto (tgt := 82) hx hb dX11_most_78 (by decide) ?_
        exact pf_X11_most_82 C  ih v1 v2 v3 v4 v5 1 z  hP hS (lv_sub hl [0, 1, 2, 3, 4, 5] rfl) h
def fn_X11_most (v1 : Int32) (v2 : Int32) (z : St) : Option (Int32 × St) := bd (fn_X7_isTier  2 v1 z) (fun r2 z3 => (if r2 = 0 then some ((-1), z3) else (if v2 < 1 then some ((-1), z3) else (if v2 ≤ 999 then gd (ix v1 3) (nm (z3.1 6 (Int32.toNatClampNeg v1)) (fun v3_8 => gd (ix v1 3) (gd (ix v1 3) (nm ((z3.1 4 (Int32.toNatClampNeg v1)) * (z3.1 5 (Int32.toNatClampNeg v1))) (fun v4_11 => fn_X11_most_60   fu v1 v2 v3_8 v4_11 v4_11 z3))))) else some ((-1), z3)))))
set_option maxHeartbeats 4000000 in
set_option maxRecDepth 100000 in
theorem m_X11_most {l : Launch} {G : wG} (hG : Ok G) {v1 : Int32} {v2 : Int32} {z : St} {Rz : Int32 × St}  (h : fn_X11_most  v1 v2 z = some Rz) : Met l yX11_most (wsU yX11_most cX11_most 7 (some .int)) (rmd 4) (va_Pc [.ref (G.2.2 0), .int v1, .int v2] (Pre G z)) (va_Qi (fun r u => (r, u) = Rz) (Pre G) (AW G)) 0 0 (AW G) := by
  refine Met.ofW (cc := cX11_most) (maxL := 7) (ret := (some .int)) (by decide) rfl ?_
  intro p e s m args below meth c s₁ B hml hv
  obtain ⟨rfl, hP, hK⟩ := hv
  have C : CX p s m ([.ref (G.2.2 0), .int v1, .int v2] : List Value).toArray meth c cX11_most 7 (wsU yX11_most cX11_most 7 (some .int)) RX11 (some .int) G := ⟨B.exec, B.bytes, hml, findClass_of_methodNamed B.named, atoms_spec (ws := (wsU yX11_most cX11_most 7 (some .int))) B.pre, B.returns, B.notSynchronized, hK, hG⟩
  obtain ⟨hx, hb, -, hown, hts, hr, hlocks, -, -⟩ := id C
  have hS : va_S (AW G) s.heap s.heap [] := va_S.rf
  have hl := lv_entry [.ref (G.2.2 0), .int v1, .int v2] (n := 7) (Nat.le_of_ble_eq_true rfl)
  rw [lg_entry_eq]
  generalize (lg_sl [.ref (G.2.2 0), .int v1, .int v2] ++ List.replicate (7 - (lg_sl [.ref (G.2.2 0), .int v1, .int v2]).length) Slot.unset).toArray = ls at hl ⊢
  have hl : lv_has ls 7 [(0, .ref (G.2.2 0)), (1, .int v1), (2, .int v2)] := hl
  unfold fn_X11_most at h
  refine lv_aload_n hx hb dX11_most_0 rfl (lv_at hl 0 rfl) ?_
  refine ge_11_2 hx hb hts (inU inW_X11) hown hK hP k_0 (hts _ (List.mem_cons_of_mem _ lw_705)) dX11_most_1 ?_
  refine lv_iload_n hx hb dX11_most_4 rfl (lv_at hl 1 rfl) ?_
  obtain ⟨r2, z3, h1, h⟩ := bd_s h
  refine x_Vi (Rz := (r2, z3)) (As := [.int v1]) (rest := []) ⟨hx, hb, hml, hown, hts⟩ hK hP hS (kd_lt k_2 (by decide)) (cell_7 k_2) rfl (m_X7_isTier hG  k_2 h1) (cwV 1 hts (gV lw_1297 lw_951 lw_952 lw_110 lw_953) rfl rfl rfl (by decide +kernel) (rmd_ok (by decide) (by decide))) rfl hl.1 rfl (Nat.le_of_ble_eq_true rfl) dX11_most_5 ⟨Nat.le_refl _, Nat.le_refl _⟩ (fun H locs hP hS => ?_)
  refine lv_if_eq (tgt := 23) hx hb dX11_most_8 (by decide) (fun c4 => ?_) (fun c4 => ?_)
  · rw [if_pos c4] at h
    refine lv_iconst (v := (-1)) hx hb dX11_most_23 (by decide) ?_
    exact x_iret hx hb hr hlocks hK hP hS h dX11_most_24
  · rw [if_neg c4] at h
    refine lv_iload_n hx hb dX11_most_11 rfl (lv_at hl 2 rfl) ?_
    refine lv_iconst (v := 1) hx hb dX11_most_12 (by decide) ?_
    refine lv_icmp_lt (tgt := 23) hx hb dX11_most_13 (by decide) (fun c5 => ?_) (fun c5 => ?_)
    · rw [if_pos c5] at h
      refine lv_iconst (v := (-1)) hx hb dX11_most_23 (by decide) ?_
      exact x_iret hx hb hr hlocks hK hP hS h dX11_most_24
    · rw [if_neg c5] at h
      refine lv_iload_n hx hb dX11_most_16 rfl (lv_at hl 2 rfl) ?_
      refine lv_sipush (v := 999) hx hb dX11_most_17 (by decide) ?_
      refine lv_icmp_le (tgt := 25) hx hb dX11_most_20 (by decide) (fun c6 => ?_) (fun c6 => ?_)
      · rw [if_pos c6] at h
        refine lv_aload_n hx hb dX11_most_25 rfl (lv_at hl 0 rfl) ?_
        refine ge_11_2 hx hb hts (inU inW_X11) hown hK hP k_0 (hts _ (List.mem_cons_of_mem _ lw_705)) dX11_most_26 ?_
        refine ge_7_4 hx hb hts (inU inW_X7) hown hK hP k_2 (hts _ (List.mem_cons_of_mem _ lw_193)) dX11_most_29 ?_
        refine lv_iload_n hx hb dX11_most_32 rfl (lv_at hl 1 rfl) ?_
        obtain ⟨g7, h⟩ := gd_s h
        refine xl_14 hx hb hK hP k_6 l_6 (ix_in g7) dX11_most_33 ?_
        obtain ⟨v3_8, e_v3_8, h⟩ := nm_s h
        refine x_top e_v3_8 ?_
        refine lv_istore_n (lv' := [(3, .int v3_8), (0, .ref (G.2.2 0)), (1, .int v1), (2, .int v2)]) hx hb dX11_most_34 rfl hl (by decide) rfl (fun ls hl => ?_)
        refine lv_aload_n hx hb dX11_most_35 rfl (lv_at hl 1 rfl) ?_
        refine ge_11_2 hx hb hts (inU inW_X11) hown hK hP k_0 (hts _ (List.mem_cons_of_mem _ lw_705)) dX11_most_36 ?_
        refine ge_7_2 hx hb hts (inU inW_X7) hown hK hP k_2 (hts _ (List.mem_cons_of_mem _ lw_187)) dX11_most_39 ?_
        refine lv_iload_n hx hb dX11_most_42 rfl (lv_at hl 2 rfl) ?_
        obtain ⟨g9, h⟩ := gd_s h
        refine xl_14 hx hb hK hP k_4 l_4 (ix_in g9) dX11_most_43 ?_
        refine lv_aload_n hx hb dX11_most_44 rfl (lv_at hl 1 rfl) ?_
        refine ge_11_2 hx hb hts (inU inW_X11) hown hK hP k_0 (hts _ (List.mem_cons_of_mem _ lw_705)) dX11_most_45 ?_
        refine ge_7_3 hx hb hts (inU inW_X7) hown hK hP k_2 (hts _ (List.mem_cons_of_mem _ lw_191)) dX11_most_48 ?_
        refine lv_iload_n hx hb dX11_most_51 rfl (lv_at hl 2 rfl) ?_
        obtain ⟨g10, h⟩ := gd_s h
        refine xl_14 hx hb hK hP k_5 l_5 (ix_in g10) dX11_most_52 ?_
        refine lv_imul hx hb dX11_most_53 ?_
        obtain ⟨v4_11, e_v4_11, h⟩ := nm_s h
        refine x_top e_v4_11 ?_
        refine lv_istore (lv' := [(4, .int v4_11), (3, .int v3_8), (0, .ref (G.2.2 0)), (1, .int v1), (2, .int v2)]) hx hb dX11_most_54 hl (by decide) rfl (fun ls hl => ?_)
        refine lv_iload hx hb dX11_most_56 (lv_at hl 0 rfl) ?_
        refine lv_istore (lv' := [(5, .int v4_11), (4, .int v4_11), (3, .int v3_8), (0, .ref (G.2.2 0)), (1, .int v1), (2, .int v2)]) hx hb dX11_most_58 hl (by decide) rfl (fun ls hl => ?_)
        exact pf_X11_most_60 C   fu v1 v2 v3_8 v4_11 v4_11 z3  _ _ _ hP hS (lv_sub hl [3, 4, 5, 2, 1, 0] rfl) h
      · rw [if_neg c6] at h
        refine lv_iconst (v := (-1)) hx hb dX11_most_23 (by decide) ?_
        exact x_iret hx hb hr hlocks hK hP hS h dX11_most_24
def fn_X11_where_3 : Nat → Int32 → Int32 → Int32 → Int32 → St → Option (Int32 × St)
  | 0, _, _, _, _, _ => none
  | n + 1, v1, v2, v3, v4, z => (if (z.1 34 2) ≤ v4 then some ((-1), z) else gd (ix v4 24) (bd (fn_X9_holds  (35 + 1 + (Int32.toNatClampNeg v4)) v1 v2 v3 z) (fun r4 z5 => (if r4 = 0 then fn_X11_where_3   n v1 v2 v3 (v4 + 1) z5 else some (v4, z5)))))
set_option maxHeartbeats 4000000 in
set_option maxRecDepth 100000 in
theorem pf_X11_where_3 {p : Program} {l : Launch} {e : Env} {s : State} {m : MethodId} {args : Array Value} {below : List Frame} {meth : Method} {c : Code} {G : wG} (C : CX p s m args meth c cX11_where 5 (wsU yX11_where cX11_where 5 (some .int)) RX11 (some .int) G) {Rz : Int32 × St} : ∀ (n : Nat) (v1 : Int32) (v2 : Int32) (v3 : Int32) (v4 : Int32) (z : St)  (H : Heap) (locs : List Loc) (ls : Array Slot), WP G z H → va_S (AW G) s.heap H locs → lv_has ls 5 [(0, .ref (G.2.2 0)), (1, .int v1), (2, .int v2), (3, .int v3), (4, .int v4)] → fn_X11_where_3   n v1 v2 v3 v4 z = some Rz → W p l e (rmd 2) s m args below meth c H locs 0 0 (QI below args s G Rz) (F0 m 3 ls []) := by
  obtain ⟨hx, hb, hml, hown, hts, hr, hlocks, hK, hG⟩ := id C
  intro n
  induction n with
  | zero => intro v1 v2 v3 v4 z  H locs ls hP hS hl h; cases h
  | succ n ih =>
    intro v1 v2 v3 v4 z  H locs ls hP hS hl h
    rw [fn_X11_where_3] at h
    refine lv_iload hx hb dX11_where_3 (lv_at hl 4 rfl) ?_
    refine lv_aload_n hx hb dX11_where_5 rfl (lv_at hl 0 rfl) ?_
    refine ge_11_5 hx hb hts (inU inW_X11) hown hK hP k_0 (hts _ (List.mem_cons_of_mem _ lw_708)) dX11_where_6 ?_
    refine ge_1_2 hx hb hts (inU inW_X1) hown hK hP k_34 (hts _ (List.mem_cons_of_mem _ lw_425)) dX11_where_9 ?_
    refine lv_icmp_ge (tgt := 43) hx hb dX11_where_12 (by decide) (fun c1 => ?_) (fun c1 => ?_)
    · rw [if_pos c1] at h
      refine lv_iconst (v := (-1)) hx hb dX11_where_43 (by decide) ?_
      exact x_iret hx hb hr hlocks hK hP hS h dX11_where_44
    · rw [if_neg c1] at h
      refine lv_aload_n hx hb dX11_where_15 rfl (lv_at hl 0 rfl) ?_
      refine ge_11_5 hx hb hts (inU inW_X11) hown hK hP k_0 (hts _ (List.mem_cons_of_mem _ lw_708)) dX11_where_16 ?_
      refine ge_1_0 hx hb hts (inU inW_X1) hown hK hP k_34 (hts _ (List.mem_cons_of_mem _ lw_416)) dX11_where_19 ?_
      refine lv_iload hx hb dX11_where_22 (lv_at hl 4 rfl) ?_
      obtain ⟨g2, h⟩ := gd_s h
      refine xl_18 hx hb hK hP k_35 l_35 (ix_in g2) dX11_where_24 ?_
      refine lv_iload_n hx hb dX11_where_25 rfl (lv_at hl 1 rfl) ?_
      refine lv_iload_n hx hb dX11_where_26 rfl (lv_at hl 2 rfl) ?_
      refine lv_iload_n hx hb dX11_where_27 rfl (lv_at hl 3 rfl) ?_
      obtain ⟨r4, z5, h3, h⟩ := bd_s h
      refine x_Vi (Rz := (r4, z5)) (As := [.int v1, .int v2, .int v3]) (rest := []) ⟨hx, hb, hml, hown, hts⟩ hK hP hS (kd_lt (ke_18 k_35 (ix_lt g2)) (by decide)) (cell_9 (ke_18 k_35 (ix_lt g2))) rfl (m_X9_holds hG  (ke_18 k_35 (ix_lt g2)) h3) (cwV 3 hts (gV lw_1325 lw_1326 lw_1327 lw_118 lw_1328) rfl rfl rfl (by decide +kernel) (rmd_ok (by decide) (by decide))) rfl hl.1 rfl (Nat.le_of_ble_eq_true rfl) dX11_where_28 ⟨Nat.le_refl _, Nat.le_refl _⟩ (fun H locs hP hS => ?_)
      refine lv_if_eq (tgt := 37) hx hb dX11_where_31 (by decide) (fun c6 => ?_) (fun c6 => ?_)
      · rw [if_pos c6] at h
        refine lv_iinc (v := (v4 + 1)) (lv' := [(4, .int (v4 + 1)), (0, .ref (G.2.2 0)), (1, .int v1), (2, .int v2), (3, .int v3)]) hx hb dX11_where_37 hl (k := 4) rfl rfl (by decide) rfl (fun ls hl => ?_)
        refine lv_goto (tgt := 3) hx hb dX11_where_40 (by decide) ?_
        exact ih v1 v2 v3 (v4 + 1) z5  _ _ _ hP hS (lv_sub hl [1, 2, 3, 4, 0] rfl) h
      · rw [if_neg c6] at h
        refine lv_iload hx hb dX11_where_34 (lv_at hl 4 rfl) ?_
        exact x_iret hx hb hr hlocks hK hP hS h dX11_where_36
def fn_X11_where (v1 : Int32) (v2 : Int32) (v3 : Int32) (z : St) : Option (Int32 × St) := fn_X11_where_3   fu v1 v2 v3 0 z
set_option maxHeartbeats 4000000 in
set_option maxRecDepth 100000 in
theorem m_X11_where {l : Launch} {G : wG} (hG : Ok G) {v1 : Int32} {v2 : Int32} {v3 : Int32} {z : St} {Rz : Int32 × St}  (h : fn_X11_where  v1 v2 v3 z = some Rz) : Met l yX11_where (wsU yX11_where cX11_where 5 (some .int)) (rmd 2) (va_Pc [.ref (G.2.2 0), .int v1, .int v2, .int v3] (Pre G z)) (va_Qi (fun r u => (r, u) = Rz) (Pre G) (AW G)) 0 0 (AW G) := by
  refine Met.ofW (cc := cX11_where) (maxL := 5) (ret := (some .int)) (by decide) rfl ?_
  intro p e s m args below meth c s₁ B hml hv
  obtain ⟨rfl, hP, hK⟩ := hv
  have C : CX p s m ([.ref (G.2.2 0), .int v1, .int v2, .int v3] : List Value).toArray meth c cX11_where 5 (wsU yX11_where cX11_where 5 (some .int)) RX11 (some .int) G := ⟨B.exec, B.bytes, hml, findClass_of_methodNamed B.named, atoms_spec (ws := (wsU yX11_where cX11_where 5 (some .int))) B.pre, B.returns, B.notSynchronized, hK, hG⟩
  obtain ⟨hx, hb, -, hown, hts, hr, hlocks, -, -⟩ := id C
  have hS : va_S (AW G) s.heap s.heap [] := va_S.rf
  have hl := lv_entry [.ref (G.2.2 0), .int v1, .int v2, .int v3] (n := 5) (Nat.le_of_ble_eq_true rfl)
  rw [lg_entry_eq]
  generalize (lg_sl [.ref (G.2.2 0), .int v1, .int v2, .int v3] ++ List.replicate (5 - (lg_sl [.ref (G.2.2 0), .int v1, .int v2, .int v3]).length) Slot.unset).toArray = ls at hl ⊢
  have hl : lv_has ls 5 [(0, .ref (G.2.2 0)), (1, .int v1), (2, .int v2), (3, .int v3)] := hl
  unfold fn_X11_where at h
  refine lv_iconst (v := 0) hx hb dX11_where_0 (by decide) ?_
  refine lv_istore (lv' := [(4, .int 0), (0, .ref (G.2.2 0)), (1, .int v1), (2, .int v2), (3, .int v3)]) hx hb dX11_where_1 hl (by decide) rfl (fun ls hl => ?_)
  exact pf_X11_where_3 C   fu v1 v2 v3 0 z  _ _ _ hP hS (lv_sub hl [1, 2, 3, 4, 0] rfl) h
def fn_X11_left_45 (k4 : Int32 → Int32 → St → Option (Int32 × St)) (v1 : Int32) (v2 : Int32) (z : St) : Option (Int32 × St) := k4 v1 (v2 + 1) z
set_option maxHeartbeats 4000000 in
set_option maxRecDepth 100000 in
theorem pf_X11_left_45 {p : Program} {l : Launch} {e : Env} {s : State} {m : MethodId} {args : Array Value} {below : List Frame} {meth : Method} {c : Code} {G : wG} (C : CX p s m args meth c cX11_left 3 (wsU yX11_left cX11_left 3 (some .int)) RX11 (some .int) G) {Rz : Int32 × St} {k4 : Int32 → Int32 → St → Option (Int32 × St)} (hk_4 : ∀ (v1 : Int32) (v2 : Int32) (z : St)  (H : Heap) (locs : List Loc) (ls : Array Slot), WP G z H → va_S (AW G) s.heap H locs → lv_has ls 3 [(0, .ref (G.2.2 0)), (1, .int v1), (2, .int v2)] → k4 v1 v2 z = some Rz → W p l e (rmd 3) s m args below meth c H locs 0 0 (QI below args s G Rz) (F0 m 4 ls [])) (v1 : Int32) (v2 : Int32) (z : St)  {H : Heap} {locs : List Loc} {ls : Array Slot} (hP : WP G z H) (hS : va_S (AW G) s.heap H locs) (hl : lv_has ls 3 [(0, .ref (G.2.2 0)), (1, .int v1), (2, .int v2)]) (h : fn_X11_left_45  k4 v1 v2 z = some Rz) : W p l e (rmd 3) s m args below meth c H locs 0 0 (QI below args s G Rz) (F0 m 45 ls []) := by
  obtain ⟨hx, hb, hml, hown, hts, hr, hlocks, hK, hG⟩ := id C
  unfold fn_X11_left_45 at h
  refine lv_iinc (v := (v2 + 1)) (lv' := [(2, .int (v2 + 1)), (0, .ref (G.2.2 0)), (1, .int v1)]) hx hb dX11_left_45 hl (k := 2) rfl rfl (by decide) rfl (fun ls hl => ?_)
  refine lv_goto (tgt := 4) hx hb dX11_left_48 (by decide) ?_
  exact hk_4 v1 (v2 + 1) z  _ _ _ hP hS (lv_sub hl [1, 2, 0] rfl) h
def fn_X11_left_4 : Nat → Int32 → Int32 → St → Option (Int32 × St)
  | 0, _, _, _ => none
  | n + 1, v1, v2, z => (if (z.1 34 2) ≤ v2 then some (v1, z) else bd (fn_X1_isFree  34 v2 z) (fun r3 z4 => (if r3 = 0 then fn_X11_left_45  (fn_X11_left_4   n) v1 v2 z4 else gd (ix v2 24) (bd (fn_X7_areaOf  2 (35 + 1 + (Int32.toNatClampNeg v2)) z4) (fun r8 z9 => nm (v1 + r8) (fun v1_10 => fn_X11_left_45  (fn_X11_left_4   n) v1_10 v2 z9))))))
set_option maxHeartbeats 4000000 in
set_option maxRecDepth 100000 in
theorem pf_X11_left_4 {p : Program} {l : Launch} {e : Env} {s : State} {m : MethodId} {args : Array Value} {below : List Frame} {meth : Method} {c : Code} {G : wG} (C : CX p s m args meth c cX11_left 3 (wsU yX11_left cX11_left 3 (some .int)) RX11 (some .int) G) {Rz : Int32 × St} : ∀ (n : Nat) (v1 : Int32) (v2 : Int32) (z : St)  (H : Heap) (locs : List Loc) (ls : Array Slot), WP G z H → va_S (AW G) s.heap H locs → lv_has ls 3 [(0, .ref (G.2.2 0)), (1, .int v1), (2, .int v2)] → fn_X11_left_4   n v1 v2 z = some Rz → W p l e (rmd 3) s m args below meth c H locs 0 0 (QI below args s G Rz) (F0 m 4 ls []) := by
  obtain ⟨hx, hb, hml, hown, hts, hr, hlocks, hK, hG⟩ := id C
  intro n
  induction n with
  | zero => intro v1 v2 z  H locs ls hP hS hl h; cases h
  | succ n ih =>
    intro v1 v2 z  H locs ls hP hS hl h
    rw [fn_X11_left_4] at h
    refine lv_iload_n hx hb dX11_left_4 rfl (lv_at hl 2 rfl) ?_
    refine lv_aload_n hx hb dX11_left_5 rfl (lv_at hl 0 rfl) ?_
    refine ge_11_5 hx hb hts (inU inW_X11) hown hK hP k_0 (hts _ (List.mem_cons_of_mem _ lw_708)) dX11_left_6 ?_
    refine ge_1_2 hx hb hts (inU inW_X1) hown hK hP k_34 (hts _ (List.mem_cons_of_mem _ lw_425)) dX11_left_9 ?_
    refine lv_icmp_ge (tgt := 51) hx hb dX11_left_12 (by decide) (fun c1 => ?_) (fun c1 => ?_)
    · rw [if_pos c1] at h
      refine lv_iload_n hx hb dX11_left_51 rfl (lv_at hl 1 rfl) ?_
      exact x_iret hx hb hr hlocks hK hP hS h dX11_left_52
    · rw [if_neg c1] at h
      refine lv_aload_n hx hb dX11_left_15 rfl (lv_at hl 0 rfl) ?_
      refine ge_11_5 hx hb hts (inU inW_X11) hown hK hP k_0 (hts _ (List.mem_cons_of_mem _ lw_708)) dX11_left_16 ?_
      refine lv_iload_n hx hb dX11_left_19 rfl (lv_at hl 2 rfl) ?_
      obtain ⟨r3, z4, h2, h⟩ := bd_s h
      refine x_Vi (Rz := (r3, z4)) (As := [.int v2]) (rest := []) ⟨hx, hb, hml, hown, hts⟩ hK hP hS (kd_lt k_34 (by decide)) (cell_1 k_34) rfl (m_X1_isFree hG  k_34 h2) (cwV 1 hts (gV lw_1081 lw_1010 lw_1011 lw_117 lw_1012) rfl rfl rfl (by decide +kernel) (rmd_ok (by decide) (by decide))) rfl hl.1 rfl (Nat.le_of_ble_eq_true rfl) dX11_left_20 ⟨Nat.le_refl _, Nat.le_refl _⟩ (fun H locs hP hS => ?_)
      refine lv_if_eq (tgt := 45) hx hb dX11_left_23 (by decide) (fun c5 => ?_) (fun c5 => ?_)
      · rw [if_pos c5] at h
        exact pf_X11_left_45 C  ih v1 v2 z4  hP hS (lv_sub hl [0, 1, 2] rfl) h
      · rw [if_neg c5] at h
        refine lv_iload_n hx hb dX11_left_26 rfl (lv_at hl 1 rfl) ?_
        refine lv_aload_n hx hb dX11_left_27 rfl (lv_at hl 0 rfl) ?_
        refine ge_11_2 hx hb hts (inU inW_X11) hown hK hP k_0 (hts _ (List.mem_cons_of_mem _ lw_705)) dX11_left_28 ?_
        refine lv_aload_n hx hb dX11_left_31 rfl (lv_at hl 0 rfl) ?_
        refine ge_11_5 hx hb hts (inU inW_X11) hown hK hP k_0 (hts _ (List.mem_cons_of_mem _ lw_708)) dX11_left_32 ?_
        refine ge_1_0 hx hb hts (inU inW_X1) hown hK hP k_34 (hts _ (List.mem_cons_of_mem _ lw_416)) dX11_left_35 ?_
        refine lv_iload_n hx hb dX11_left_38 rfl (lv_at hl 2 rfl) ?_
        obtain ⟨g6, h⟩ := gd_s h
        refine xl_18 hx hb hK hP k_35 l_35 (ix_in g6) dX11_left_39 ?_
        obtain ⟨r8, z9, h7, h⟩ := bd_s h
        refine x_Vi (Rz := (r8, z9)) (As := [.ref (G.2.2 (35 + 1 + (Int32.toNatClampNeg v2)))]) (rest := [.int v1]) ⟨hx, hb, hml, hown, hts⟩ hK hP hS (kd_lt k_2 (by decide)) (cell_7 k_2) rfl (m_X7_areaOf hG  k_2 (ke_18 k_35 (ix_lt g6)) h7) (cwV 1 hts (gV lw_946 lw_947 lw_948 lw_110 lw_949) rfl rfl rfl (by decide +kernel) (rmd_ok (by decide) (by decide))) rfl hl.1 rfl (Nat.le_of_ble_eq_true rfl) dX11_left_40 ⟨Nat.le_refl _, Nat.le_refl _⟩ (fun H locs hP hS => ?_)
        refine lv_iadd hx hb dX11_left_43 ?_
        obtain ⟨v1_10, e_v1_10, h⟩ := nm_s h
        refine x_top e_v1_10 ?_
        refine lv_istore_n (lv' := [(1, .int v1_10), (0, .ref (G.2.2 0)), (2, .int v2)]) hx hb dX11_left_44 rfl hl (by decide) rfl (fun ls hl => ?_)
        exact pf_X11_left_45 C  ih v1_10 v2 z9  hP hS (lv_sub hl [1, 0, 2] rfl) h
def fn_X11_left  (z : St) : Option (Int32 × St) := fn_X11_left_4   fu 0 0 z
set_option maxHeartbeats 4000000 in
set_option maxRecDepth 100000 in
theorem m_X11_left {l : Launch} {G : wG} (hG : Ok G)  {z : St} {Rz : Int32 × St}  (h : fn_X11_left   z = some Rz) : Met l yX11_left (wsU yX11_left cX11_left 3 (some .int)) (rmd 3) (va_Pc [.ref (G.2.2 0)] (Pre G z)) (va_Qi (fun r u => (r, u) = Rz) (Pre G) (AW G)) 0 0 (AW G) := by
  refine Met.ofW (cc := cX11_left) (maxL := 3) (ret := (some .int)) (by decide) rfl ?_
  intro p e s m args below meth c s₁ B hml hv
  obtain ⟨rfl, hP, hK⟩ := hv
  have C : CX p s m ([.ref (G.2.2 0)] : List Value).toArray meth c cX11_left 3 (wsU yX11_left cX11_left 3 (some .int)) RX11 (some .int) G := ⟨B.exec, B.bytes, hml, findClass_of_methodNamed B.named, atoms_spec (ws := (wsU yX11_left cX11_left 3 (some .int))) B.pre, B.returns, B.notSynchronized, hK, hG⟩
  obtain ⟨hx, hb, -, hown, hts, hr, hlocks, -, -⟩ := id C
  have hS : va_S (AW G) s.heap s.heap [] := va_S.rf
  have hl := lv_entry [.ref (G.2.2 0)] (n := 3) (Nat.le_of_ble_eq_true rfl)
  rw [lg_entry_eq]
  generalize (lg_sl [.ref (G.2.2 0)] ++ List.replicate (3 - (lg_sl [.ref (G.2.2 0)]).length) Slot.unset).toArray = ls at hl ⊢
  have hl : lv_has ls 3 [(0, .ref (G.2.2 0))] := hl
  unfold fn_X11_left at h
  refine lv_iconst (v := 0) hx hb dX11_left_0 (by decide) ?_
  refine lv_istore_n (lv' := [(1, .int 0), (0, .ref (G.2.2 0))]) hx hb dX11_left_1 rfl hl (by decide) rfl (fun ls hl => ?_)
  refine lv_iconst (v := 0) hx hb dX11_left_2 (by decide) ?_
  refine lv_istore_n (lv' := [(2, .int 0), (1, .int 0), (0, .ref (G.2.2 0))]) hx hb dX11_left_3 rfl hl (by decide) rfl (fun ls hl => ?_)
  exact pf_X11_left_4 C   fu 0 0 z  _ _ _ hP hS (lv_sub hl [2, 1, 0] rfl) h
def fn_X11_iced_64 (k16 : Int32 → Int32 → Int32 → St → Option (Int32 × St)) (v1 : Int32) (v2 : Int32) (v3 : Int32) (z : St) : Option (Int32 × St) := k16 v1 v2 (v3 + 1) z
set_option maxHeartbeats 4000000 in
set_option maxRecDepth 100000 in
theorem pf_X11_iced_64 {p : Program} {l : Launch} {e : Env} {s : State} {m : MethodId} {args : Array Value} {below : List Frame} {meth : Method} {c : Code} {G : wG} (C : CX p s m args meth c cX11_iced 4 (wsU yX11_iced cX11_iced 4 (some .int)) RX11 (some .int) G) {Rz : Int32 × St} {k16 : Int32 → Int32 → Int32 → St → Option (Int32 × St)} (hk_16 : ∀ (v1 : Int32) (v2 : Int32) (v3 : Int32) (z : St)  (H : Heap) (locs : List Loc) (ls : Array Slot), WP G z H → va_S (AW G) s.heap H locs → lv_has ls 4 [(0, .ref (G.2.2 0)), (1, .int v1), (2, .int v2), (3, .int v3)] → k16 v1 v2 v3 z = some Rz → W p l e (rmd 3) s m args below meth c H locs 0 0 (QI below args s G Rz) (F0 m 16 ls [])) (v1 : Int32) (v2 : Int32) (v3 : Int32) (z : St)  {H : Heap} {locs : List Loc} {ls : Array Slot} (hP : WP G z H) (hS : va_S (AW G) s.heap H locs) (hl : lv_has ls 4 [(0, .ref (G.2.2 0)), (1, .int v1), (2, .int v2), (3, .int v3)]) (h : fn_X11_iced_64  k16 v1 v2 v3 z = some Rz) : W p l e (rmd 3) s m args below meth c H locs 0 0 (QI below args s G Rz) (F0 m 64 ls []) := by
  obtain ⟨hx, hb, hml, hown, hts, hr, hlocks, hK, hG⟩ := id C
  unfold fn_X11_iced_64 at h
  refine lv_iinc (v := (v3 + 1)) (lv' := [(3, .int (v3 + 1)), (0, .ref (G.2.2 0)), (1, .int v1), (2, .int v2)]) hx hb dX11_iced_64 hl (k := 3) rfl rfl (by decide) rfl (fun ls hl => ?_)
  refine lv_goto (tgt := 16) hx hb dX11_iced_67 (by decide) ?_
  exact hk_16 v1 v2 (v3 + 1) z  _ _ _ hP hS (lv_sub hl [1, 2, 3, 0] rfl) h
def fn_X11_iced_16 : Nat → Int32 → Int32 → Int32 → St → Option (Int32 × St)
  | 0, _, _, _, _ => none
  | n + 1, v1, v2, v3, z => (if (z.1 34 2) ≤ v3 then some (v2, z) else bd (fn_X1_isFree  34 v3 z) (fun r3 z4 => (if r3 = 0 then fn_X11_iced_64  (fn_X11_iced_16   n) v1 v2 v3 z4 else gd (ix v3 24) (bd (fn_X7_icingOf  2 (35 + 1 + (Int32.toNatClampNeg v3)) z4) (fun r8 z9 => (if r8 < v1 then fn_X11_iced_64  (fn_X11_iced_16   n) v1 v2 v3 z9 else nm (v2 ||| (1 <<< (v3 &&& 31))) (fun v2_11 => fn_X11_iced_64  (fn_X11_iced_16   n) v1 v2_11 v3 z9)))))))
set_option maxHeartbeats 4000000 in
set_option maxRecDepth 100000 in
theorem pf_X11_iced_16 {p : Program} {l : Launch} {e : Env} {s : State} {m : MethodId} {args : Array Value} {below : List Frame} {meth : Method} {c : Code} {G : wG} (C : CX p s m args meth c cX11_iced 4 (wsU yX11_iced cX11_iced 4 (some .int)) RX11 (some .int) G) {Rz : Int32 × St} : ∀ (n : Nat) (v1 : Int32) (v2 : Int32) (v3 : Int32) (z : St)  (H : Heap) (locs : List Loc) (ls : Array Slot), WP G z H → va_S (AW G) s.heap H locs → lv_has ls 4 [(0, .ref (G.2.2 0)), (1, .int v1), (2, .int v2), (3, .int v3)] → fn_X11_iced_16   n v1 v2 v3 z = some Rz → W p l e (rmd 3) s m args below meth c H locs 0 0 (QI below args s G Rz) (F0 m 16 ls []) := by
  obtain ⟨hx, hb, hml, hown, hts, hr, hlocks, hK, hG⟩ := id C
  intro n
  induction n with
  | zero => intro v1 v2 v3 z  H locs ls hP hS hl h; cases h
  | succ n ih =>
    intro v1 v2 v3 z  H locs ls hP hS hl h
    rw [fn_X11_iced_16] at h
    refine lv_iload_n hx hb dX11_iced_16 rfl (lv_at hl 3 rfl) ?_
    refine lv_aload_n hx hb dX11_iced_17 rfl (lv_at hl 0 rfl) ?_
    refine ge_11_5 hx hb hts (inU inW_X11) hown hK hP k_0 (hts _ (List.mem_cons_of_mem _ lw_708)) dX11_iced_18 ?_
    refine ge_1_2 hx hb hts (inU inW_X1) hown hK hP k_34 (hts _ (List.mem_cons_of_mem _ lw_425)) dX11_iced_21 ?_
    refine lv_icmp_ge (tgt := 70) hx hb dX11_iced_24 (by decide) (fun c1 => ?_) (fun c1 => ?_)
    · rw [if_pos c1] at h
      refine lv_iload_n hx hb dX11_iced_70 rfl (lv_at hl 2 rfl) ?_
      exact x_iret hx hb hr hlocks hK hP hS h dX11_iced_71
    · rw [if_neg c1] at h
      refine lv_aload_n hx hb dX11_iced_27 rfl (lv_at hl 0 rfl) ?_
      refine ge_11_5 hx hb hts (inU inW_X11) hown hK hP k_0 (hts _ (List.mem_cons_of_mem _ lw_708)) dX11_iced_28 ?_
      refine lv_iload_n hx hb dX11_iced_31 rfl (lv_at hl 3 rfl) ?_
      obtain ⟨r3, z4, h2, h⟩ := bd_s h
      refine x_Vi (Rz := (r3, z4)) (As := [.int v3]) (rest := []) ⟨hx, hb, hml, hown, hts⟩ hK hP hS (kd_lt k_34 (by decide)) (cell_1 k_34) rfl (m_X1_isFree hG  k_34 h2) (cwV 1 hts (gV lw_1081 lw_1010 lw_1011 lw_117 lw_1012) rfl rfl rfl (by decide +kernel) (rmd_ok (by decide) (by decide))) rfl hl.1 rfl (Nat.le_of_ble_eq_true rfl) dX11_iced_32 ⟨Nat.le_refl _, Nat.le_refl _⟩ (fun H locs hP hS => ?_)
      refine lv_if_eq (tgt := 64) hx hb dX11_iced_35 (by decide) (fun c5 => ?_) (fun c5 => ?_)
      · rw [if_pos c5] at h
        exact pf_X11_iced_64 C  ih v1 v2 v3 z4  hP hS (lv_sub hl [0, 1, 2, 3] rfl) h
      · rw [if_neg c5] at h
        refine lv_aload_n hx hb dX11_iced_38 rfl (lv_at hl 0 rfl) ?_
        refine ge_11_2 hx hb hts (inU inW_X11) hown hK hP k_0 (hts _ (List.mem_cons_of_mem _ lw_705)) dX11_iced_39 ?_
        refine lv_aload_n hx hb dX11_iced_42 rfl (lv_at hl 0 rfl) ?_
        refine ge_11_5 hx hb hts (inU inW_X11) hown hK hP k_0 (hts _ (List.mem_cons_of_mem _ lw_708)) dX11_iced_43 ?_
        refine ge_1_0 hx hb hts (inU inW_X1) hown hK hP k_34 (hts _ (List.mem_cons_of_mem _ lw_416)) dX11_iced_46 ?_
        refine lv_iload_n hx hb dX11_iced_49 rfl (lv_at hl 3 rfl) ?_
        obtain ⟨g6, h⟩ := gd_s h
        refine xl_18 hx hb hK hP k_35 l_35 (ix_in g6) dX11_iced_50 ?_
        obtain ⟨r8, z9, h7, h⟩ := bd_s h
        refine x_Vi (Rz := (r8, z9)) (As := [.ref (G.2.2 (35 + 1 + (Int32.toNatClampNeg v3)))]) (rest := []) ⟨hx, hb, hml, hown, hts⟩ hK hP hS (kd_lt k_2 (by decide)) (cell_7 k_2) rfl (m_X7_icingOf hG  k_2 (ke_18 k_35 (ix_lt g6)) h7) (cwV 1 hts (gV lw_954 lw_955 lw_956 lw_110 lw_957) rfl rfl rfl (by decide +kernel) (rmd_ok (by decide) (by decide))) rfl hl.1 rfl (Nat.le_of_ble_eq_true rfl) dX11_iced_51 ⟨Nat.le_refl _, Nat.le_refl _⟩ (fun H locs hP hS => ?_)
        refine lv_iload_n hx hb dX11_iced_54 rfl (lv_at hl 1 rfl) ?_
        refine lv_icmp_lt (tgt := 64) hx hb dX11_iced_55 (by decide) (fun c10 => ?_) (fun c10 => ?_)
        · rw [if_pos c10] at h
          exact pf_X11_iced_64 C  ih v1 v2 v3 z9  hP hS (lv_sub hl [0, 1, 2, 3] rfl) h
        · rw [if_neg c10] at h
          refine lv_iload_n hx hb dX11_iced_58 rfl (lv_at hl 2 rfl) ?_
          refine lv_iconst (v := 1) hx hb dX11_iced_59 (by decide) ?_
          refine lv_iload_n hx hb dX11_iced_60 rfl (lv_at hl 3 rfl) ?_
          refine lv_ishl hx hb dX11_iced_61 ?_
          refine lv_ior hx hb dX11_iced_62 ?_
          obtain ⟨v2_11, e_v2_11, h⟩ := nm_s h
          refine x_top e_v2_11 ?_
          refine lv_istore_n (lv' := [(2, .int v2_11), (0, .ref (G.2.2 0)), (1, .int v1), (3, .int v3)]) hx hb dX11_iced_63 rfl hl (by decide) rfl (fun ls hl => ?_)
          exact pf_X11_iced_64 C  ih v1 v2_11 v3 z9  hP hS (lv_sub hl [1, 2, 0, 3] rfl) h
def fn_X11_iced (v1 : Int32) (z : St) : Option (Int32 × St) := (if v1 < 0 then some ((-1), z) else (if v1 ≤ 32 then fn_X11_iced_16   fu v1 0 0 z else some ((-1), z)))
set_option maxHeartbeats 4000000 in
set_option maxRecDepth 100000 in
theorem m_X11_iced {l : Launch} {G : wG} (hG : Ok G) {v1 : Int32} {z : St} {Rz : Int32 × St}  (h : fn_X11_iced  v1 z = some Rz) : Met l yX11_iced (wsU yX11_iced cX11_iced 4 (some .int)) (rmd 3) (va_Pc [.ref (G.2.2 0), .int v1] (Pre G z)) (va_Qi (fun r u => (r, u) = Rz) (Pre G) (AW G)) 0 0 (AW G) := by
  refine Met.ofW (cc := cX11_iced) (maxL := 4) (ret := (some .int)) (by decide) rfl ?_
  intro p e s m args below meth c s₁ B hml hv
  obtain ⟨rfl, hP, hK⟩ := hv
  have C : CX p s m ([.ref (G.2.2 0), .int v1] : List Value).toArray meth c cX11_iced 4 (wsU yX11_iced cX11_iced 4 (some .int)) RX11 (some .int) G := ⟨B.exec, B.bytes, hml, findClass_of_methodNamed B.named, atoms_spec (ws := (wsU yX11_iced cX11_iced 4 (some .int))) B.pre, B.returns, B.notSynchronized, hK, hG⟩
  obtain ⟨hx, hb, -, hown, hts, hr, hlocks, -, -⟩ := id C
  have hS : va_S (AW G) s.heap s.heap [] := va_S.rf
  have hl := lv_entry [.ref (G.2.2 0), .int v1] (n := 4) (Nat.le_of_ble_eq_true rfl)
  rw [lg_entry_eq]
  generalize (lg_sl [.ref (G.2.2 0), .int v1] ++ List.replicate (4 - (lg_sl [.ref (G.2.2 0), .int v1]).length) Slot.unset).toArray = ls at hl ⊢
  have hl : lv_has ls 4 [(0, .ref (G.2.2 0)), (1, .int v1)] := hl
  unfold fn_X11_iced at h
  refine lv_iload_n hx hb dX11_iced_0 rfl (lv_at hl 1 rfl) ?_
  refine lv_if_lt (tgt := 10) hx hb dX11_iced_1 (by decide) (fun c1 => ?_) (fun c1 => ?_)
  · rw [if_pos c1] at h
    refine lv_iconst (v := (-1)) hx hb dX11_iced_10 (by decide) ?_
    exact x_iret hx hb hr hlocks hK hP hS h dX11_iced_11
  · rw [if_neg c1] at h
    refine lv_iload_n hx hb dX11_iced_4 rfl (lv_at hl 1 rfl) ?_
    refine lv_bipush (v := 32) hx hb dX11_iced_5 (by decide) ?_
    refine lv_icmp_le (tgt := 12) hx hb dX11_iced_7 (by decide) (fun c2 => ?_) (fun c2 => ?_)
    · rw [if_pos c2] at h
      refine lv_iconst (v := 0) hx hb dX11_iced_12 (by decide) ?_
      refine lv_istore_n (lv' := [(2, .int 0), (0, .ref (G.2.2 0)), (1, .int v1)]) hx hb dX11_iced_13 rfl hl (by decide) rfl (fun ls hl => ?_)
      refine lv_iconst (v := 0) hx hb dX11_iced_14 (by decide) ?_
      refine lv_istore_n (lv' := [(3, .int 0), (2, .int 0), (0, .ref (G.2.2 0)), (1, .int v1)]) hx hb dX11_iced_15 rfl hl (by decide) rfl (fun ls hl => ?_)
      exact pf_X11_iced_16 C   fu v1 0 0 z  _ _ _ hP hS (lv_sub hl [2, 3, 1, 0] rfl) h
    · rw [if_neg c2] at h
      refine lv_iconst (v := (-1)) hx hb dX11_iced_10 (by decide) ?_
      exact x_iret hx hb hr hlocks hK hP hS h dX11_iced_11
def fn_X11_commonDivisor_7 : Nat → Int32 → Int32 → Int32 → St → Option (Int32 × St)
  | 0, _, _, _, _ => none
  | n + 1, v2, v3, v4, z => (if 64 ≤ v4 then some (v2, z) else (if v3 = 0 then some (v2, z) else gd (v3 != 0) (nm (v2 - v2 / v3 * v3) (fun v5_4 => fn_X11_commonDivisor_7   n v3 v5_4 (v4 + 1) z))))
set_option maxHeartbeats 4000000 in
set_option maxRecDepth 100000 in
theorem pf_X11_commonDivisor_7 {p : Program} {l : Launch} {e : Env} {s : State} {m : MethodId} {args : Array Value} {below : List Frame} {meth : Method} {c : Code} {G : wG} (C : CX p s m args meth c cX11_commonDivisor 6 (wsU yX11_commonDivisor cX11_commonDivisor 6 (some .int)) RX11 (some .int) G) {Rz : Int32 × St} : ∀ (n : Nat) (v2 : Int32) (v3 : Int32) (v4 : Int32) (z : St)  (H : Heap) (locs : List Loc) (ls : Array Slot), WP G z H → va_S (AW G) s.heap H locs → lv_has ls 6 [(2, .int v2), (3, .int v3), (4, .int v4)] → fn_X11_commonDivisor_7   n v2 v3 v4 z = some Rz → W p l e (rmd 1) s m args below meth c H locs 0 0 (QI below args s G Rz) (F0 m 7 ls []) := by
  obtain ⟨hx, hb, hml, hown, hts, hr, hlocks, hK, hG⟩ := id C
  intro n
  induction n with
  | zero => intro v2 v3 v4 z  H locs ls hP hS hl h; cases h
  | succ n ih =>
    intro v2 v3 v4 z  H locs ls hP hS hl h
    rw [fn_X11_commonDivisor_7] at h
    refine lv_iload hx hb dX11_commonDivisor_7 (lv_at hl 2 rfl) ?_
    refine lv_bipush (v := 64) hx hb dX11_commonDivisor_9 (by decide) ?_
    refine lv_icmp_ge (tgt := 34) hx hb dX11_commonDivisor_11 (by decide) (fun c1 => ?_) (fun c1 => ?_)
    · rw [if_pos c1] at h
      refine lv_iload_n hx hb dX11_commonDivisor_34 rfl (lv_at hl 0 rfl) ?_
      exact x_iret hx hb hr hlocks hK hP hS h dX11_commonDivisor_35
    · rw [if_neg c1] at h
      refine lv_iload_n hx hb dX11_commonDivisor_14 rfl (lv_at hl 1 rfl) ?_
      refine lv_if_eq (tgt := 34) hx hb dX11_commonDivisor_15 (by decide) (fun c2 => ?_) (fun c2 => ?_)
      · rw [if_pos c2] at h
        refine lv_iload_n hx hb dX11_commonDivisor_34 rfl (lv_at hl 0 rfl) ?_
        exact x_iret hx hb hr hlocks hK hP hS h dX11_commonDivisor_35
      · rw [if_neg c2] at h
        refine lv_iload_n hx hb dX11_commonDivisor_18 rfl (lv_at hl 0 rfl) ?_
        refine lv_iload_n hx hb dX11_commonDivisor_19 rfl (lv_at hl 1 rfl) ?_
        obtain ⟨g3, h⟩ := gd_s h
        refine lv_irem hx hb dX11_commonDivisor_20 (bne_z g3) ?_
        obtain ⟨v5_4, e_v5_4, h⟩ := nm_s h
        refine x_top e_v5_4 ?_
        refine lv_istore (lv' := [(5, .int v5_4), (2, .int v2), (3, .int v3), (4, .int v4)]) hx hb dX11_commonDivisor_21 hl (by decide) rfl (fun ls hl => ?_)
        refine lv_iload_n hx hb dX11_commonDivisor_23 rfl (lv_at hl 2 rfl) ?_
        refine lv_istore_n (lv' := [(2, .int v3), (5, .int v5_4), (3, .int v3), (4, .int v4)]) hx hb dX11_commonDivisor_24 rfl hl (by decide) rfl (fun ls hl => ?_)
        refine lv_iload hx hb dX11_commonDivisor_25 (lv_at hl 1 rfl) ?_
        refine lv_istore_n (lv' := [(3, .int v5_4), (2, .int v3), (5, .int v5_4), (4, .int v4)]) hx hb dX11_commonDivisor_27 rfl hl (by decide) rfl (fun ls hl => ?_)
        refine lv_iinc (v := (v4 + 1)) (lv' := [(4, .int (v4 + 1)), (3, .int v5_4), (2, .int v3), (5, .int v5_4)]) hx hb dX11_commonDivisor_28 hl (k := 3) rfl rfl (by decide) rfl (fun ls hl => ?_)
        refine lv_goto (tgt := 7) hx hb dX11_commonDivisor_31 (by decide) ?_
        exact ih v3 v5_4 (v4 + 1) z  _ _ _ hP hS (lv_sub hl [2, 1, 0] rfl) h
def fn_X11_commonDivisor (v0 : Int32) (v1 : Int32) (z : St) : Option (Int32 × St) := fn_X11_commonDivisor_7   fu v0 v1 0 z
set_option maxHeartbeats 4000000 in
set_option maxRecDepth 100000 in
theorem m_X11_commonDivisor {l : Launch} {G : wG} (hG : Ok G) {v0 : Int32} {v1 : Int32} {z : St} {Rz : Int32 × St}  (h : fn_X11_commonDivisor  v0 v1 z = some Rz) : Met l yX11_commonDivisor (wsU yX11_commonDivisor cX11_commonDivisor 6 (some .int)) (rmd 1) (va_Pc [.int v0, .int v1] (Pre G z)) (va_Qi (fun r u => (r, u) = Rz) (Pre G) (AW G)) 0 0 (AW G) := by
  refine Met.ofW (cc := cX11_commonDivisor) (maxL := 6) (ret := (some .int)) (by decide) rfl ?_
  intro p e s m args below meth c s₁ B hml hv
  obtain ⟨rfl, hP, hK⟩ := hv
  have C : CX p s m ([.int v0, .int v1] : List Value).toArray meth c cX11_commonDivisor 6 (wsU yX11_commonDivisor cX11_commonDivisor 6 (some .int)) RX11 (some .int) G := ⟨B.exec, B.bytes, hml, findClass_of_methodNamed B.named, atoms_spec (ws := (wsU yX11_commonDivisor cX11_commonDivisor 6 (some .int))) B.pre, B.returns, B.notSynchronized, hK, hG⟩
  obtain ⟨hx, hb, -, hown, hts, hr, hlocks, -, -⟩ := id C
  have hS : va_S (AW G) s.heap s.heap [] := va_S.rf
  have hl := lv_entry [.int v0, .int v1] (n := 6) (Nat.le_of_ble_eq_true rfl)
  rw [lg_entry_eq]
  generalize (lg_sl [.int v0, .int v1] ++ List.replicate (6 - (lg_sl [.int v0, .int v1]).length) Slot.unset).toArray = ls at hl ⊢
  have hl : lv_has ls 6 [(0, .int v0), (1, .int v1)] := hl
  unfold fn_X11_commonDivisor at h
  refine lv_iload_n hx hb dX11_commonDivisor_0 rfl (lv_at hl 0 rfl) ?_
  refine lv_istore_n (lv' := [(2, .int v0), (0, .int v0), (1, .int v1)]) hx hb dX11_commonDivisor_1 rfl hl (by decide) rfl (fun ls hl => ?_)
  refine lv_iload_n hx hb dX11_commonDivisor_2 rfl (lv_at hl 2 rfl) ?_
  refine lv_istore_n (lv' := [(3, .int v1), (2, .int v0), (0, .int v0), (1, .int v1)]) hx hb dX11_commonDivisor_3 rfl hl (by decide) rfl (fun ls hl => ?_)
  refine lv_iconst (v := 0) hx hb dX11_commonDivisor_4 (by decide) ?_
  refine lv_istore (lv' := [(4, .int 0), (3, .int v1), (2, .int v0), (0, .int v0), (1, .int v1)]) hx hb dX11_commonDivisor_5 hl (by decide) rfl (fun ls hl => ?_)
  exact pf_X11_commonDivisor_7 C   fu v0 v1 0 z  _ _ _ hP hS (lv_sub hl [2, 1, 0] rfl) h
def fn_X11_come_86 (k44 : Int32 → Int32 → Int32 → Int32 → Int32 → St → Option (Int32 × St)) (v1 : Int32) (v2 : Int32) (v3 : Int32) (v4 : Int32) (v5 : Int32) (z : St) : Option (Int32 × St) := k44 v1 v2 v3 v4 (v5 + 1) z
set_option maxHeartbeats 4000000 in
set_option maxRecDepth 100000 in
theorem pf_X11_come_86 {p : Program} {l : Launch} {e : Env} {s : State} {m : MethodId} {args : Array Value} {below : List Frame} {meth : Method} {c : Code} {G : wG} (C : CX p s m args meth c cX11_come 6 (wsU yX11_come cX11_come 6 (some .int)) RX11 (some .int) G) {Rz : Int32 × St} {k44 : Int32 → Int32 → Int32 → Int32 → Int32 → St → Option (Int32 × St)} (hk_44 : ∀ (v1 : Int32) (v2 : Int32) (v3 : Int32) (v4 : Int32) (v5 : Int32) (z : St)  (H : Heap) (locs : List Loc) (ls : Array Slot), WP G z H → va_S (AW G) s.heap H locs → lv_has ls 6 [(0, .ref (G.2.2 0)), (1, .int v1), (2, .int v2), (3, .int v3), (4, .int v4), (5, .int v5)] → k44 v1 v2 v3 v4 v5 z = some Rz → W p l e (rmd 2) s m args below meth c H locs 0 0 (QI below args s G Rz) (F0 m 44 ls [])) (v1 : Int32) (v2 : Int32) (v3 : Int32) (v4 : Int32) (v5 : Int32) (z : St)  {H : Heap} {locs : List Loc} {ls : Array Slot} (hP : WP G z H) (hS : va_S (AW G) s.heap H locs) (hl : lv_has ls 6 [(0, .ref (G.2.2 0)), (1, .int v1), (2, .int v2), (3, .int v3), (4, .int v4), (5, .int v5)]) (h : fn_X11_come_86  k44 v1 v2 v3 v4 v5 z = some Rz) : W p l e (rmd 2) s m args below meth c H locs 0 0 (QI below args s G Rz) (F0 m 86 ls []) := by
  obtain ⟨hx, hb, hml, hown, hts, hr, hlocks, hK, hG⟩ := id C
  unfold fn_X11_come_86 at h
  refine lv_iinc (v := (v5 + 1)) (lv' := [(5, .int (v5 + 1)), (0, .ref (G.2.2 0)), (1, .int v1), (2, .int v2), (3, .int v3), (4, .int v4)]) hx hb dX11_come_86 hl (k := 5) rfl rfl (by decide) rfl (fun ls hl => ?_)
  refine lv_goto (tgt := 44) hx hb dX11_come_89 (by decide) ?_
  exact hk_44 v1 v2 v3 v4 (v5 + 1) z  _ _ _ hP hS (lv_sub hl [1, 2, 3, 4, 5, 0] rfl) h
def fn_X11_come_44 : Nat → Int32 → Int32 → Int32 → Int32 → Int32 → St → Option (Int32 × St)
  | 0, _, _, _, _, _, _ => none
  | n + 1, v1, v2, v3, v4, v5, z => (if (z.1 2 5) ≤ v5 then bd (fn_X11_commonDivisor  v3 v4 z) (fun r3 z4 => (if r3 = 0 then some ((-1), z4) else (if v2 = 0 then gd (r3 != 0) (some ((v3 / r3), z4)) else gd (r3 != 0) (some ((v4 / r3), z4))))) else (if ((v1 >>> (v5 &&& 31)) &&& 1) = 1 then gd (ix v5 6) (nm (v3 * (z.1 10 (Int32.toNatClampNeg v5))) (fun v3_11 => nm (v4 * 100) (fun v4_12 => fn_X11_come_86  (fn_X11_come_44   n) v1 v2 v3_11 v4_12 v5 z))) else fn_X11_come_86  (fn_X11_come_44   n) v1 v2 v3 v4 v5 z))
set_option maxHeartbeats 4000000 in
set_option maxRecDepth 100000 in
theorem pf_X11_come_44 {p : Program} {l : Launch} {e : Env} {s : State} {m : MethodId} {args : Array Value} {below : List Frame} {meth : Method} {c : Code} {G : wG} (C : CX p s m args meth c cX11_come 6 (wsU yX11_come cX11_come 6 (some .int)) RX11 (some .int) G) {Rz : Int32 × St} : ∀ (n : Nat) (v1 : Int32) (v2 : Int32) (v3 : Int32) (v4 : Int32) (v5 : Int32) (z : St)  (H : Heap) (locs : List Loc) (ls : Array Slot), WP G z H → va_S (AW G) s.heap H locs → lv_has ls 6 [(0, .ref (G.2.2 0)), (1, .int v1), (2, .int v2), (3, .int v3), (4, .int v4), (5, .int v5)] → fn_X11_come_44   n v1 v2 v3 v4 v5 z = some Rz → W p l e (rmd 2) s m args below meth c H locs 0 0 (QI below args s G Rz) (F0 m 44 ls []) := by
  obtain ⟨hx, hb, hml, hown, hts, hr, hlocks, hK, hG⟩ := id C
  intro n
  induction n with
  | zero => intro v1 v2 v3 v4 v5 z  H locs ls hP hS hl h; cases h
  | succ n ih =>
    intro v1 v2 v3 v4 v5 z  H locs ls hP hS hl h
    rw [fn_X11_come_44] at h
    refine lv_iload hx hb dX11_come_44 (lv_at hl 5 rfl) ?_
    refine lv_aload_n hx hb dX11_come_46 rfl (lv_at hl 0 rfl) ?_
    refine ge_11_2 hx hb hts (inU inW_X11) hown hK hP k_0 (hts _ (List.mem_cons_of_mem _ lw_705)) dX11_come_47 ?_
    refine ge_7_5 hx hb hts (inU inW_X7) hown hK hP k_2 (hts _ (List.mem_cons_of_mem _ lw_199)) dX11_come_50 ?_
    refine lv_icmp_ge (tgt := 92) hx hb dX11_come_53 (by decide) (fun c1 => ?_) (fun c1 => ?_)
    · rw [if_pos c1] at h
      refine lv_iload_n hx hb dX11_come_92 rfl (lv_at hl 3 rfl) ?_
      refine lv_iload hx hb dX11_come_93 (lv_at hl 4 rfl) ?_
      obtain ⟨r3, z4, h2, h⟩ := bd_s h
      refine x_Si (Rz := (r3, z4)) (As := [.int v3, .int v4]) (rest := []) ⟨hx, hb, hml, hown, hts⟩ hK hP hS (m_X11_commonDivisor hG   h2) (va_cwS 2 hts (gS lw_1341 lw_1342 lw_109 lw_1343) rfl rfl rfl (by decide +kernel) (rmd_ok (by decide) (by decide))) rfl hl.1 rfl (Nat.le_of_ble_eq_true rfl) dX11_come_95 ⟨Nat.le_refl _, Nat.le_refl _⟩ (fun H locs hP hS => ?_)
      refine lv_istore (lv' := [(5, .int r3), (0, .ref (G.2.2 0)), (1, .int v1), (2, .int v2), (3, .int v3), (4, .int v4)]) hx hb dX11_come_98 hl (by decide) rfl (fun ls hl => ?_)
      refine lv_iload hx hb dX11_come_100 (lv_at hl 0 rfl) ?_
      refine lv_if_ne (tgt := 107) hx hb dX11_come_102 (by decide) (fun c5 => ?_) (fun c5 => ?_)
      · rw [if_neg c5] at h
        refine lv_iload_n hx hb dX11_come_107 rfl (lv_at hl 3 rfl) ?_
        refine lv_if_ne (tgt := 118) hx hb dX11_come_108 (by decide) (fun c6 => ?_) (fun c6 => ?_)
        · rw [if_neg c6] at h
          refine lv_iload hx hb dX11_come_118 (lv_at hl 5 rfl) ?_
          refine lv_iload hx hb dX11_come_120 (lv_at hl 0 rfl) ?_
          obtain ⟨g7, h⟩ := gd_s h
          refine lv_idiv hx hb dX11_come_122 (bne_z g7) ?_
          exact x_iret hx hb hr hlocks hK hP hS h dX11_come_123
        · rw [if_pos c6] at h
          refine lv_iload_n hx hb dX11_come_111 rfl (lv_at hl 4 rfl) ?_
          refine lv_iload hx hb dX11_come_112 (lv_at hl 0 rfl) ?_
          obtain ⟨g8, h⟩ := gd_s h
          refine lv_idiv hx hb dX11_come_114 (bne_z g8) ?_
          refine lv_goto (tgt := 123) hx hb dX11_come_115 (by decide) ?_
          exact x_iret hx hb hr hlocks hK hP hS h dX11_come_123
      · rw [if_pos c5] at h
        refine lv_iconst (v := (-1)) hx hb dX11_come_105 (by decide) ?_
        exact x_iret hx hb hr hlocks hK hP hS h dX11_come_106
    · rw [if_neg c1] at h
      refine lv_iload_n hx hb dX11_come_56 rfl (lv_at hl 1 rfl) ?_
      refine lv_iload hx hb dX11_come_57 (lv_at hl 5 rfl) ?_
      refine lv_ishr hx hb dX11_come_59 ?_
      refine lv_iconst (v := 1) hx hb dX11_come_60 (by decide) ?_
      refine lv_iand hx hb dX11_come_61 ?_
      refine lv_iconst (v := 1) hx hb dX11_come_62 (by decide) ?_
      refine lv_icmp_ne (tgt := 86) hx hb dX11_come_63 (by decide) (fun c9 => ?_) (fun c9 => ?_)
      · rw [if_neg c9] at h
        exact pf_X11_come_86 C  ih v1 v2 v3 v4 v5 z  hP hS (lv_sub hl [0, 1, 2, 3, 4, 5] rfl) h
      · rw [if_pos c9] at h
        refine lv_iload_n hx hb dX11_come_66 rfl (lv_at hl 3 rfl) ?_
        refine lv_aload_n hx hb dX11_come_67 rfl (lv_at hl 0 rfl) ?_
        refine ge_11_2 hx hb hts (inU inW_X11) hown hK hP k_0 (hts _ (List.mem_cons_of_mem _ lw_705)) dX11_come_68 ?_
        refine ge_7_9 hx hb hts (inU inW_X7) hown hK hP k_2 (hts _ (List.mem_cons_of_mem _ lw_209)) dX11_come_71 ?_
        refine lv_iload hx hb dX11_come_74 (lv_at hl 5 rfl) ?_
        obtain ⟨g10, h⟩ := gd_s h
        refine xl_14 hx hb hK hP k_10 l_10 (ix_in g10) dX11_come_76 ?_
        refine lv_imul hx hb dX11_come_77 ?_
        obtain ⟨v3_11, e_v3_11, h⟩ := nm_s h
        refine x_top e_v3_11 ?_
        refine lv_istore_n (lv' := [(3, .int v3_11), (0, .ref (G.2.2 0)), (1, .int v1), (2, .int v2), (4, .int v4), (5, .int v5)]) hx hb dX11_come_78 rfl hl (by decide) rfl (fun ls hl => ?_)
        refine lv_iload hx hb dX11_come_79 (lv_at hl 4 rfl) ?_
        refine lv_bipush (v := 100) hx hb dX11_come_81 (by decide) ?_
        refine lv_imul hx hb dX11_come_83 ?_
        obtain ⟨v4_12, e_v4_12, h⟩ := nm_s h
        refine x_top e_v4_12 ?_
        refine lv_istore (lv' := [(4, .int v4_12), (3, .int v3_11), (0, .ref (G.2.2 0)), (1, .int v1), (2, .int v2), (5, .int v5)]) hx hb dX11_come_84 hl (by decide) rfl (fun ls hl => ?_)
        exact pf_X11_come_86 C  ih v1 v2 v3_11 v4_12 v5 z  hP hS (lv_sub hl [2, 3, 4, 1, 0, 5] rfl) h
def fn_X11_come (v1 : Int32) (v2 : Int32) (z : St) : Option (Int32 × St) := (if v1 < 0 then some ((-1), z) else (if (1 <<< ((z.1 2 5) &&& 31)) ≤ v1 then some ((-1), z) else bd (fn_J6_bitCount_0f7a4  v1 z) (fun r4 z5 => (if 4 < r4 then some ((-1), z5) else (if v2 < 0 then some ((-1), z5) else (if v2 ≤ 1 then fn_X11_come_44   fu v1 v2 1 1 0 z5 else some ((-1), z5)))))))
set_option maxHeartbeats 4000000 in
set_option maxRecDepth 100000 in
theorem m_X11_come {l : Launch} {G : wG} (hG : Ok G) {v1 : Int32} {v2 : Int32} {z : St} {Rz : Int32 × St}  (h : fn_X11_come  v1 v2 z = some Rz) : Met l yX11_come (wsU yX11_come cX11_come 6 (some .int)) (rmd 2) (va_Pc [.ref (G.2.2 0), .int v1, .int v2] (Pre G z)) (va_Qi (fun r u => (r, u) = Rz) (Pre G) (AW G)) 0 0 (AW G) := by
  refine Met.ofW (cc := cX11_come) (maxL := 6) (ret := (some .int)) (by decide) rfl ?_
  intro p e s m args below meth c s₁ B hml hv
  obtain ⟨rfl, hP, hK⟩ := hv
  have C : CX p s m ([.ref (G.2.2 0), .int v1, .int v2] : List Value).toArray meth c cX11_come 6 (wsU yX11_come cX11_come 6 (some .int)) RX11 (some .int) G := ⟨B.exec, B.bytes, hml, findClass_of_methodNamed B.named, atoms_spec (ws := (wsU yX11_come cX11_come 6 (some .int))) B.pre, B.returns, B.notSynchronized, hK, hG⟩
  obtain ⟨hx, hb, -, hown, hts, hr, hlocks, -, -⟩ := id C
  have hS : va_S (AW G) s.heap s.heap [] := va_S.rf
  have hl := lv_entry [.ref (G.2.2 0), .int v1, .int v2] (n := 6) (Nat.le_of_ble_eq_true rfl)
  rw [lg_entry_eq]
  generalize (lg_sl [.ref (G.2.2 0), .int v1, .int v2] ++ List.replicate (6 - (lg_sl [.ref (G.2.2 0), .int v1, .int v2]).length) Slot.unset).toArray = ls at hl ⊢
  have hl : lv_has ls 6 [(0, .ref (G.2.2 0)), (1, .int v1), (2, .int v2)] := hl
  unfold fn_X11_come at h
  refine lv_iload_n hx hb dX11_come_0 rfl (lv_at hl 1 rfl) ?_
  refine lv_if_lt (tgt := 34) hx hb dX11_come_1 (by decide) (fun c1 => ?_) (fun c1 => ?_)
  · rw [if_pos c1] at h
    refine lv_iconst (v := (-1)) hx hb dX11_come_34 (by decide) ?_
    exact x_iret hx hb hr hlocks hK hP hS h dX11_come_35
  · rw [if_neg c1] at h
    refine lv_iload_n hx hb dX11_come_4 rfl (lv_at hl 1 rfl) ?_
    refine lv_iconst (v := 1) hx hb dX11_come_5 (by decide) ?_
    refine lv_aload_n hx hb dX11_come_6 rfl (lv_at hl 0 rfl) ?_
    refine ge_11_2 hx hb hts (inU inW_X11) hown hK hP k_0 (hts _ (List.mem_cons_of_mem _ lw_705)) dX11_come_7 ?_
    refine ge_7_5 hx hb hts (inU inW_X7) hown hK hP k_2 (hts _ (List.mem_cons_of_mem _ lw_199)) dX11_come_10 ?_
    refine lv_ishl hx hb dX11_come_13 ?_
    refine lv_icmp_ge (tgt := 34) hx hb dX11_come_14 (by decide) (fun c2 => ?_) (fun c2 => ?_)
    · rw [if_pos c2] at h
      refine lv_iconst (v := (-1)) hx hb dX11_come_34 (by decide) ?_
      exact x_iret hx hb hr hlocks hK hP hS h dX11_come_35
    · rw [if_neg c2] at h
      refine lv_iload_n hx hb dX11_come_17 rfl (lv_at hl 1 rfl) ?_
      obtain ⟨r4, z5, h3, h⟩ := bd_s h
      refine x_Si (Rz := (r4, z5)) (As := [.int v1]) (rest := []) ⟨hx, hb, hml, hown, hts⟩ hK hP hS (m_J6_bitCount_0f7a4 hG   h3) (va_cwS 1 hts (gS lw_1206 lw_1207 lw_127 lw_1208) rfl rfl rfl (by decide +kernel) (rmd_ok (by decide) (by decide))) rfl hl.1 rfl (Nat.le_of_ble_eq_true rfl) dX11_come_18 ⟨Nat.le_refl _, Nat.le_refl _⟩ (fun H locs hP hS => ?_)
      refine lv_iconst (v := 4) hx hb dX11_come_21 (by decide) ?_
      refine lv_icmp_gt (tgt := 34) hx hb dX11_come_22 (by decide) (fun c6 => ?_) (fun c6 => ?_)
      · rw [if_pos c6] at h
        refine lv_iconst (v := (-1)) hx hb dX11_come_34 (by decide) ?_
        exact x_iret hx hb hr hlocks hK hP hS h dX11_come_35
      · rw [if_neg c6] at h
        refine lv_iload_n hx hb dX11_come_25 rfl (lv_at hl 2 rfl) ?_
        refine lv_if_lt (tgt := 34) hx hb dX11_come_26 (by decide) (fun c7 => ?_) (fun c7 => ?_)
        · rw [if_pos c7] at h
          refine lv_iconst (v := (-1)) hx hb dX11_come_34 (by decide) ?_
          exact x_iret hx hb hr hlocks hK hP hS h dX11_come_35
        · rw [if_neg c7] at h
          refine lv_iload_n hx hb dX11_come_29 rfl (lv_at hl 2 rfl) ?_
          refine lv_iconst (v := 1) hx hb dX11_come_30 (by decide) ?_
          refine lv_icmp_le (tgt := 36) hx hb dX11_come_31 (by decide) (fun c8 => ?_) (fun c8 => ?_)
          · rw [if_pos c8] at h
            refine lv_iconst (v := 1) hx hb dX11_come_36 (by decide) ?_
            refine lv_istore_n (lv' := [(3, .int 1), (0, .ref (G.2.2 0)), (1, .int v1), (2, .int v2)]) hx hb dX11_come_37 rfl hl (by decide) rfl (fun ls hl => ?_)
            refine lv_iconst (v := 1) hx hb dX11_come_38 (by decide) ?_
            refine lv_istore (lv' := [(4, .int 1), (3, .int 1), (0, .ref (G.2.2 0)), (1, .int v1), (2, .int v2)]) hx hb dX11_come_39 hl (by decide) rfl (fun ls hl => ?_)
            refine lv_iconst (v := 0) hx hb dX11_come_41 (by decide) ?_
            refine lv_istore (lv' := [(5, .int 0), (4, .int 1), (3, .int 1), (0, .ref (G.2.2 0)), (1, .int v1), (2, .int v2)]) hx hb dX11_come_42 hl (by decide) rfl (fun ls hl => ?_)
            exact pf_X11_come_44 C   fu v1 v2 1 1 0 z5  _ _ _ hP hS (lv_sub hl [3, 4, 5, 2, 1, 0] rfl) h
          · rw [if_neg c8] at h
            refine lv_iconst (v := (-1)) hx hb dX11_come_34 (by decide) ?_
            exact x_iret hx hb hr hlocks hK hP hS h dX11_come_35
def fn_X11_sized (v1 : Int32) (v2 : Int32) (z : St) : Option (Int32 × St) := (if v1 < 1 then some ((-1), z) else (if v1 ≤ 64 then bd (fn_X4_tell  0 v1 v2 z) (fun r4 z5 => some (r4, z5)) else some ((-1), z)))
set_option maxHeartbeats 4000000 in
set_option maxRecDepth 100000 in
theorem m_X11_sized {l : Launch} {G : wG} (hG : Ok G) {v1 : Int32} {v2 : Int32} {z : St} {Rz : Int32 × St}  (h : fn_X11_sized  v1 v2 z = some Rz) : Met l yX11_sized (wsU yX11_sized cX11_sized 3 (some .int)) (rmd 2) (va_Pc [.ref (G.2.2 0), .int v1, .int v2] (Pre G z)) (va_Qi (fun r u => (r, u) = Rz) (Pre G) (AW G)) 0 0 (AW G) := by
  refine Met.ofW (cc := cX11_sized) (maxL := 3) (ret := (some .int)) (by decide) rfl ?_
  intro p e s m args below meth c s₁ B hml hv
  obtain ⟨rfl, hP, hK⟩ := hv
  have C : CX p s m ([.ref (G.2.2 0), .int v1, .int v2] : List Value).toArray meth c cX11_sized 3 (wsU yX11_sized cX11_sized 3 (some .int)) RX11 (some .int) G := ⟨B.exec, B.bytes, hml, findClass_of_methodNamed B.named, atoms_spec (ws := (wsU yX11_sized cX11_sized 3 (some .int))) B.pre, B.returns, B.notSynchronized, hK, hG⟩
  obtain ⟨hx, hb, -, hown, hts, hr, hlocks, -, -⟩ := id C
  have hS : va_S (AW G) s.heap s.heap [] := va_S.rf
  have hl := lv_entry [.ref (G.2.2 0), .int v1, .int v2] (n := 3) (Nat.le_of_ble_eq_true rfl)
  rw [lg_entry_eq]
  generalize (lg_sl [.ref (G.2.2 0), .int v1, .int v2] ++ List.replicate (3 - (lg_sl [.ref (G.2.2 0), .int v1, .int v2]).length) Slot.unset).toArray = ls at hl ⊢
  have hl : lv_has ls 3 [(0, .ref (G.2.2 0)), (1, .int v1), (2, .int v2)] := hl
  unfold fn_X11_sized at h
  refine lv_iload_n hx hb dX11_sized_0 rfl (lv_at hl 1 rfl) ?_
  refine lv_iconst (v := 1) hx hb dX11_sized_1 (by decide) ?_
  refine lv_icmp_lt (tgt := 11) hx hb dX11_sized_2 (by decide) (fun c1 => ?_) (fun c1 => ?_)
  · rw [if_pos c1] at h
    refine lv_iconst (v := (-1)) hx hb dX11_sized_11 (by decide) ?_
    exact x_iret hx hb hr hlocks hK hP hS h dX11_sized_12
  · rw [if_neg c1] at h
    refine lv_iload_n hx hb dX11_sized_5 rfl (lv_at hl 1 rfl) ?_
    refine lv_bipush (v := 64) hx hb dX11_sized_6 (by decide) ?_
    refine lv_icmp_le (tgt := 13) hx hb dX11_sized_8 (by decide) (fun c2 => ?_) (fun c2 => ?_)
    · rw [if_pos c2] at h
      refine lv_aload_n hx hb dX11_sized_13 rfl (lv_at hl 0 rfl) ?_
      refine ge_11_12 hx hb hts (inU inW_X11) hown hK hP k_0 (hts _ (List.mem_cons_of_mem _ lw_715)) dX11_sized_14 ?_
      refine lv_iconst (v := 0) hx hb dX11_sized_17 (by decide) ?_
      refine lv_iload_n hx hb dX11_sized_18 rfl (lv_at hl 1 rfl) ?_
      refine lv_iload_n hx hb dX11_sized_19 rfl (lv_at hl 2 rfl) ?_
      obtain ⟨r4, z5, h3, h⟩ := bd_s h
      refine x_Vi (Rz := (r4, z5)) (As := [.int 0, .int v1, .int v2]) (rest := []) ⟨hx, hb, hml, hown, hts⟩ hK hP hS (kd_lt k_162 (by decide)) (cell_4 k_162) rfl (m_X4_tell hG   h3) (cwV 3 hts (gV lw_1348 lw_1349 lw_1350 lw_124 lw_1351) rfl rfl rfl (by decide +kernel) (rmd_ok (by decide) (by decide))) rfl hl.1 rfl (Nat.le_of_ble_eq_true rfl) dX11_sized_20 ⟨Nat.le_refl _, Nat.le_refl _⟩ (fun H locs hP hS => ?_)
      exact x_iret hx hb hr hlocks hK hP hS h dX11_sized_23
    · rw [if_neg c2] at h
      refine lv_iconst (v := (-1)) hx hb dX11_sized_11 (by decide) ?_
      exact x_iret hx hb hr hlocks hK hP hS h dX11_sized_12
def fn_X11_rimmed (v1 : Int32) (v2 : Int32) (z : St) : Option (Int32 × St) := (if v1 < 0 then some ((-1), z) else (if v1 ≤ 32 then bd (fn_X4_tell  1 v1 v2 z) (fun r4 z5 => some (r4, z5)) else some ((-1), z)))
set_option maxHeartbeats 4000000 in
set_option maxRecDepth 100000 in
theorem m_X11_rimmed {l : Launch} {G : wG} (hG : Ok G) {v1 : Int32} {v2 : Int32} {z : St} {Rz : Int32 × St}  (h : fn_X11_rimmed  v1 v2 z = some Rz) : Met l yX11_rimmed (wsU yX11_rimmed cX11_rimmed 3 (some .int)) (rmd 2) (va_Pc [.ref (G.2.2 0), .int v1, .int v2] (Pre G z)) (va_Qi (fun r u => (r, u) = Rz) (Pre G) (AW G)) 0 0 (AW G) := by
  refine Met.ofW (cc := cX11_rimmed) (maxL := 3) (ret := (some .int)) (by decide) rfl ?_
  intro p e s m args below meth c s₁ B hml hv
  obtain ⟨rfl, hP, hK⟩ := hv
  have C : CX p s m ([.ref (G.2.2 0), .int v1, .int v2] : List Value).toArray meth c cX11_rimmed 3 (wsU yX11_rimmed cX11_rimmed 3 (some .int)) RX11 (some .int) G := ⟨B.exec, B.bytes, hml, findClass_of_methodNamed B.named, atoms_spec (ws := (wsU yX11_rimmed cX11_rimmed 3 (some .int))) B.pre, B.returns, B.notSynchronized, hK, hG⟩
  obtain ⟨hx, hb, -, hown, hts, hr, hlocks, -, -⟩ := id C
  have hS : va_S (AW G) s.heap s.heap [] := va_S.rf
  have hl := lv_entry [.ref (G.2.2 0), .int v1, .int v2] (n := 3) (Nat.le_of_ble_eq_true rfl)
  rw [lg_entry_eq]
  generalize (lg_sl [.ref (G.2.2 0), .int v1, .int v2] ++ List.replicate (3 - (lg_sl [.ref (G.2.2 0), .int v1, .int v2]).length) Slot.unset).toArray = ls at hl ⊢
  have hl : lv_has ls 3 [(0, .ref (G.2.2 0)), (1, .int v1), (2, .int v2)] := hl
  unfold fn_X11_rimmed at h
  refine lv_iload_n hx hb dX11_rimmed_0 rfl (lv_at hl 1 rfl) ?_
  refine lv_if_lt (tgt := 10) hx hb dX11_rimmed_1 (by decide) (fun c1 => ?_) (fun c1 => ?_)
  · rw [if_pos c1] at h
    refine lv_iconst (v := (-1)) hx hb dX11_rimmed_10 (by decide) ?_
    exact x_iret hx hb hr hlocks hK hP hS h dX11_rimmed_11
  · rw [if_neg c1] at h
    refine lv_iload_n hx hb dX11_rimmed_4 rfl (lv_at hl 1 rfl) ?_
    refine lv_bipush (v := 32) hx hb dX11_rimmed_5 (by decide) ?_
    refine lv_icmp_le (tgt := 12) hx hb dX11_rimmed_7 (by decide) (fun c2 => ?_) (fun c2 => ?_)
    · rw [if_pos c2] at h
      refine lv_aload_n hx hb dX11_rimmed_12 rfl (lv_at hl 0 rfl) ?_
      refine ge_11_12 hx hb hts (inU inW_X11) hown hK hP k_0 (hts _ (List.mem_cons_of_mem _ lw_715)) dX11_rimmed_13 ?_
      refine lv_iconst (v := 1) hx hb dX11_rimmed_16 (by decide) ?_
      refine lv_iload_n hx hb dX11_rimmed_17 rfl (lv_at hl 1 rfl) ?_
      refine lv_iload_n hx hb dX11_rimmed_18 rfl (lv_at hl 2 rfl) ?_
      obtain ⟨r4, z5, h3, h⟩ := bd_s h
      refine x_Vi (Rz := (r4, z5)) (As := [.int 1, .int v1, .int v2]) (rest := []) ⟨hx, hb, hml, hown, hts⟩ hK hP hS (kd_lt k_162 (by decide)) (cell_4 k_162) rfl (m_X4_tell hG   h3) (cwV 3 hts (gV lw_1348 lw_1349 lw_1350 lw_124 lw_1351) rfl rfl rfl (by decide +kernel) (rmd_ok (by decide) (by decide))) rfl hl.1 rfl (Nat.le_of_ble_eq_true rfl) dX11_rimmed_19 ⟨Nat.le_refl _, Nat.le_refl _⟩ (fun H locs hP hS => ?_)
      exact x_iret hx hb hr hlocks hK hP hS h dX11_rimmed_22
    · rw [if_neg c2] at h
      refine lv_iconst (v := (-1)) hx hb dX11_rimmed_10 (by decide) ?_
      exact x_iret hx hb hr hlocks hK hP hS h dX11_rimmed_11
def fn_X11_untell (v1 : Int32) (z : St) : Option (Int32 × St) := bd (fn_X4_takeAway  v1 z) (fun r2 z3 => gd (zok r2) (some (r2, z3)))
set_option maxHeartbeats 4000000 in
set_option maxRecDepth 100000 in
theorem m_X11_untell {l : Launch} {G : wG} (hG : Ok G) {v1 : Int32} {z : St} {Rz : Int32 × St}  (h : fn_X11_untell  v1 z = some Rz) : Met l yX11_untell (wsU yX11_untell cX11_untell 2 (some .boolean)) (rmd 2) (va_Pc [.ref (G.2.2 0), .int v1] (Pre G z)) (va_Qi (fun r u => (r, u) = Rz) (Pre G) (AW G)) 0 0 (AW G) := by
  refine Met.ofW (cc := cX11_untell) (maxL := 2) (ret := (some .boolean)) (by decide) rfl ?_
  intro p e s m args below meth c s₁ B hml hv
  obtain ⟨rfl, hP, hK⟩ := hv
  have C : CX p s m ([.ref (G.2.2 0), .int v1] : List Value).toArray meth c cX11_untell 2 (wsU yX11_untell cX11_untell 2 (some .boolean)) RX11 (some .boolean) G := ⟨B.exec, B.bytes, hml, findClass_of_methodNamed B.named, atoms_spec (ws := (wsU yX11_untell cX11_untell 2 (some .boolean))) B.pre, B.returns, B.notSynchronized, hK, hG⟩
  obtain ⟨hx, hb, -, hown, hts, hr, hlocks, -, -⟩ := id C
  have hS : va_S (AW G) s.heap s.heap [] := va_S.rf
  have hl := lv_entry [.ref (G.2.2 0), .int v1] (n := 2) (Nat.le_of_ble_eq_true rfl)
  rw [lg_entry_eq]
  generalize (lg_sl [.ref (G.2.2 0), .int v1] ++ List.replicate (2 - (lg_sl [.ref (G.2.2 0), .int v1]).length) Slot.unset).toArray = ls at hl ⊢
  have hl : lv_has ls 2 [(0, .ref (G.2.2 0)), (1, .int v1)] := hl
  unfold fn_X11_untell at h
  refine lv_aload_n hx hb dX11_untell_0 rfl (lv_at hl 0 rfl) ?_
  refine ge_11_12 hx hb hts (inU inW_X11) hown hK hP k_0 (hts _ (List.mem_cons_of_mem _ lw_715)) dX11_untell_1 ?_
  refine lv_iload_n hx hb dX11_untell_4 rfl (lv_at hl 1 rfl) ?_
  obtain ⟨r2, z3, h1, h⟩ := bd_s h
  refine x_Vi (Rz := (r2, z3)) (As := [.int v1]) (rest := []) ⟨hx, hb, hml, hown, hts⟩ hK hP hS (kd_lt k_162 (by decide)) (cell_4 k_162) rfl (m_X4_takeAway hG   h1) (cwV 1 hts (gV lw_1360 lw_1361 lw_1362 lw_124 lw_1363) rfl rfl rfl (by decide +kernel) (rmd_ok (by decide) (by decide))) rfl hl.1 rfl (Nat.le_of_ble_eq_true rfl) dX11_untell_5 ⟨Nat.le_refl _, Nat.le_refl _⟩ (fun H locs hP hS => ?_)
  obtain ⟨g4, h⟩ := gd_s h
  exact x_zret hx hb hr hlocks hK hP hS g4 h dX11_untell_8
def fn_X11_later (v1 : Int32) (z : St) : Option (Int32 × St) := bd (fn_X4_goOn  v1 z) (fun r2 z3 => some (r2, z3))
set_option maxHeartbeats 4000000 in
set_option maxRecDepth 100000 in
theorem m_X11_later {l : Launch} {G : wG} (hG : Ok G) {v1 : Int32} {z : St} {Rz : Int32 × St}  (h : fn_X11_later  v1 z = some Rz) : Met l yX11_later (wsU yX11_later cX11_later 2 (some .int)) (rmd 2) (va_Pc [.ref (G.2.2 0), .int v1] (Pre G z)) (va_Qi (fun r u => (r, u) = Rz) (Pre G) (AW G)) 0 0 (AW G) := by
  refine Met.ofW (cc := cX11_later) (maxL := 2) (ret := (some .int)) (by decide) rfl ?_
  intro p e s m args below meth c s₁ B hml hv
  obtain ⟨rfl, hP, hK⟩ := hv
  have C : CX p s m ([.ref (G.2.2 0), .int v1] : List Value).toArray meth c cX11_later 2 (wsU yX11_later cX11_later 2 (some .int)) RX11 (some .int) G := ⟨B.exec, B.bytes, hml, findClass_of_methodNamed B.named, atoms_spec (ws := (wsU yX11_later cX11_later 2 (some .int))) B.pre, B.returns, B.notSynchronized, hK, hG⟩
  obtain ⟨hx, hb, -, hown, hts, hr, hlocks, -, -⟩ := id C
  have hS : va_S (AW G) s.heap s.heap [] := va_S.rf
  have hl := lv_entry [.ref (G.2.2 0), .int v1] (n := 2) (Nat.le_of_ble_eq_true rfl)
  rw [lg_entry_eq]
  generalize (lg_sl [.ref (G.2.2 0), .int v1] ++ List.replicate (2 - (lg_sl [.ref (G.2.2 0), .int v1]).length) Slot.unset).toArray = ls at hl ⊢
  have hl : lv_has ls 2 [(0, .ref (G.2.2 0)), (1, .int v1)] := hl
  unfold fn_X11_later at h
  refine lv_aload_n hx hb dX11_later_0 rfl (lv_at hl 0 rfl) ?_
  refine ge_11_12 hx hb hts (inU inW_X11) hown hK hP k_0 (hts _ (List.mem_cons_of_mem _ lw_715)) dX11_later_1 ?_
  refine lv_iload_n hx hb dX11_later_4 rfl (lv_at hl 1 rfl) ?_
  obtain ⟨r2, z3, h1, h⟩ := bd_s h
  refine x_Vi (Rz := (r2, z3)) (As := [.int v1]) (rest := []) ⟨hx, hb, hml, hown, hts⟩ hK hP hS (kd_lt k_162 (by decide)) (cell_4 k_162) rfl (m_X4_goOn hG   h1) (cwV 1 hts (gV lw_1368 lw_1369 lw_1370 lw_124 lw_1371) rfl rfl rfl (by decide +kernel) (rmd_ok (by decide) (by decide))) rfl hl.1 rfl (Nat.le_of_ble_eq_true rfl) dX11_later_5 ⟨Nat.le_refl _, Nat.le_refl _⟩ (fun H locs hP hS => ?_)
  exact x_iret hx hb hr hlocks hK hP hS h dX11_later_8
def fn_X11_fits (v1 : Int32) (z : St) : Option (Int32 × St) := bd (fn_X4_gather  v1 z) (fun r2 z3 => some (r2, z3))
set_option maxHeartbeats 4000000 in
set_option maxRecDepth 100000 in
theorem m_X11_fits {l : Launch} {G : wG} (hG : Ok G) {v1 : Int32} {z : St} {Rz : Int32 × St}  (h : fn_X11_fits  v1 z = some Rz) : Met l yX11_fits (wsU yX11_fits cX11_fits 2 (some .int)) (rmd 4) (va_Pc [.ref (G.2.2 0), .int v1] (Pre G z)) (va_Qi (fun r u => (r, u) = Rz) (Pre G) (AW G)) 0 0 (AW G) := by
  refine Met.ofW (cc := cX11_fits) (maxL := 2) (ret := (some .int)) (by decide) rfl ?_
  intro p e s m args below meth c s₁ B hml hv
  obtain ⟨rfl, hP, hK⟩ := hv
  have C : CX p s m ([.ref (G.2.2 0), .int v1] : List Value).toArray meth c cX11_fits 2 (wsU yX11_fits cX11_fits 2 (some .int)) RX11 (some .int) G := ⟨B.exec, B.bytes, hml, findClass_of_methodNamed B.named, atoms_spec (ws := (wsU yX11_fits cX11_fits 2 (some .int))) B.pre, B.returns, B.notSynchronized, hK, hG⟩
  obtain ⟨hx, hb, -, hown, hts, hr, hlocks, -, -⟩ := id C
  have hS : va_S (AW G) s.heap s.heap [] := va_S.rf
  have hl := lv_entry [.ref (G.2.2 0), .int v1] (n := 2) (Nat.le_of_ble_eq_true rfl)
  rw [lg_entry_eq]
  generalize (lg_sl [.ref (G.2.2 0), .int v1] ++ List.replicate (2 - (lg_sl [.ref (G.2.2 0), .int v1]).length) Slot.unset).toArray = ls at hl ⊢
  have hl : lv_has ls 2 [(0, .ref (G.2.2 0)), (1, .int v1)] := hl
  unfold fn_X11_fits at h
  refine lv_aload_n hx hb dX11_fits_0 rfl (lv_at hl 0 rfl) ?_
  refine ge_11_12 hx hb hts (inU inW_X11) hown hK hP k_0 (hts _ (List.mem_cons_of_mem _ lw_715)) dX11_fits_1 ?_
  refine lv_iload_n hx hb dX11_fits_4 rfl (lv_at hl 1 rfl) ?_
  obtain ⟨r2, z3, h1, h⟩ := bd_s h
  refine x_Vi (Rz := (r2, z3)) (As := [.int v1]) (rest := []) ⟨hx, hb, hml, hown, hts⟩ hK hP hS (kd_lt k_162 (by decide)) (cell_4 k_162) rfl (m_X4_gather hG   h1) (cwV 1 hts (gV lw_1377 lw_1378 lw_1379 lw_124 lw_1380) rfl rfl rfl (by decide +kernel) (rmd_ok (by decide) (by decide))) rfl hl.1 rfl (Nat.le_of_ble_eq_true rfl) dX11_fits_5 ⟨Nat.le_refl _, Nat.le_refl _⟩ (fun H locs hP hS => ?_)
  exact x_iret hx hb hr hlocks hK hP hS h dX11_fits_8
def fn_X11_sure_47 (tp1 : Nat) (z : St) : Option (Int32 × St) := bd (fn_X4_sameInAll  tp1 z) (fun r2 z3 => some (r2, z3))
set_option maxHeartbeats 4000000 in
set_option maxRecDepth 100000 in
theorem pf_X11_sure_47 {p : Program} {l : Launch} {e : Env} {s : State} {m : MethodId} {args : Array Value} {below : List Frame} {meth : Method} {c : Code} {G : wG} (C : CX p s m args meth c cX11_sure 3 (wsU yX11_sure cX11_sure 3 (some .int)) RX11 (some .int) G) {Rz : Int32 × St} (tp1 : Nat) (z : St) (hkt1 : kd tp1 = 14) {H : Heap} {locs : List Loc} {ls : Array Slot} (hP : WP G z H) (hS : va_S (AW G) s.heap H locs) (hl : lv_has ls 3 []) (h : fn_X11_sure_47   tp1 z = some Rz) : W p l e (rmd 4) s m args below meth c H locs 0 0 (QI below args s G Rz) (F0 m 47 ls [.ref (G.2.2 tp1), .ref (G.2.2 162)]) := by
  obtain ⟨hx, hb, hml, hown, hts, hr, hlocks, hK, hG⟩ := id C
  unfold fn_X11_sure_47 at h
  obtain ⟨r2, z3, h1, h⟩ := bd_s h
  refine x_Vi (Rz := (r2, z3)) (As := [.ref (G.2.2 tp1)]) (rest := []) ⟨hx, hb, hml, hown, hts⟩ hK hP hS (kd_lt k_162 (by decide)) (cell_4 k_162) rfl (m_X4_sameInAll hG  hkt1 h1) (cwV 1 hts (gV lw_1395 lw_1396 lw_1397 lw_124 lw_1398) rfl rfl rfl (by decide +kernel) (rmd_ok (by decide) (by decide))) rfl hl.1 rfl (Nat.le_of_ble_eq_true rfl) dX11_sure_47 ⟨Nat.le_refl _, Nat.le_refl _⟩ (fun H locs hP hS => ?_)
  exact x_iret hx hb hr hlocks hK hP hS h dX11_sure_50
def fn_X11_sure (v1 : Int32) (v2 : Int32) (z : St) : Option (Int32 × St) := (if v1 < 0 then some ((-1), z) else (if 1 < v1 then some ((-1), z) else bd (fn_X4_gather  v2 z) (fun r4 z5 => (if r4 = 0 then some ((-1), z5) else (if v1 = 0 then fn_X11_sure_47   168 z5 else fn_X11_sure_47   169 z5)))))
set_option maxHeartbeats 4000000 in
set_option maxRecDepth 100000 in
theorem m_X11_sure {l : Launch} {G : wG} (hG : Ok G) {v1 : Int32} {v2 : Int32} {z : St} {Rz : Int32 × St}  (h : fn_X11_sure  v1 v2 z = some Rz) : Met l yX11_sure (wsU yX11_sure cX11_sure 3 (some .int)) (rmd 4) (va_Pc [.ref (G.2.2 0), .int v1, .int v2] (Pre G z)) (va_Qi (fun r u => (r, u) = Rz) (Pre G) (AW G)) 0 0 (AW G) := by
  refine Met.ofW (cc := cX11_sure) (maxL := 3) (ret := (some .int)) (by decide) rfl ?_
  intro p e s m args below meth c s₁ B hml hv
  obtain ⟨rfl, hP, hK⟩ := hv
  have C : CX p s m ([.ref (G.2.2 0), .int v1, .int v2] : List Value).toArray meth c cX11_sure 3 (wsU yX11_sure cX11_sure 3 (some .int)) RX11 (some .int) G := ⟨B.exec, B.bytes, hml, findClass_of_methodNamed B.named, atoms_spec (ws := (wsU yX11_sure cX11_sure 3 (some .int))) B.pre, B.returns, B.notSynchronized, hK, hG⟩
  obtain ⟨hx, hb, -, hown, hts, hr, hlocks, -, -⟩ := id C
  have hS : va_S (AW G) s.heap s.heap [] := va_S.rf
  have hl := lv_entry [.ref (G.2.2 0), .int v1, .int v2] (n := 3) (Nat.le_of_ble_eq_true rfl)
  rw [lg_entry_eq]
  generalize (lg_sl [.ref (G.2.2 0), .int v1, .int v2] ++ List.replicate (3 - (lg_sl [.ref (G.2.2 0), .int v1, .int v2]).length) Slot.unset).toArray = ls at hl ⊢
  have hl : lv_has ls 3 [(0, .ref (G.2.2 0)), (1, .int v1), (2, .int v2)] := hl
  unfold fn_X11_sure at h
  refine lv_iload_n hx hb dX11_sure_0 rfl (lv_at hl 1 rfl) ?_
  refine lv_if_lt (tgt := 20) hx hb dX11_sure_1 (by decide) (fun c1 => ?_) (fun c1 => ?_)
  · rw [if_pos c1] at h
    refine lv_iconst (v := (-1)) hx hb dX11_sure_20 (by decide) ?_
    exact x_iret hx hb hr hlocks hK hP hS h dX11_sure_21
  · rw [if_neg c1] at h
    refine lv_iload_n hx hb dX11_sure_4 rfl (lv_at hl 1 rfl) ?_
    refine lv_iconst (v := 1) hx hb dX11_sure_5 (by decide) ?_
    refine lv_icmp_gt (tgt := 20) hx hb dX11_sure_6 (by decide) (fun c2 => ?_) (fun c2 => ?_)
    · rw [if_pos c2] at h
      refine lv_iconst (v := (-1)) hx hb dX11_sure_20 (by decide) ?_
      exact x_iret hx hb hr hlocks hK hP hS h dX11_sure_21
    · rw [if_neg c2] at h
      refine lv_aload_n hx hb dX11_sure_9 rfl (lv_at hl 0 rfl) ?_
      refine ge_11_12 hx hb hts (inU inW_X11) hown hK hP k_0 (hts _ (List.mem_cons_of_mem _ lw_715)) dX11_sure_10 ?_
      refine lv_iload_n hx hb dX11_sure_13 rfl (lv_at hl 2 rfl) ?_
      obtain ⟨r4, z5, h3, h⟩ := bd_s h
      refine x_Vi (Rz := (r4, z5)) (As := [.int v2]) (rest := []) ⟨hx, hb, hml, hown, hts⟩ hK hP hS (kd_lt k_162 (by decide)) (cell_4 k_162) rfl (m_X4_gather hG   h3) (cwV 1 hts (gV lw_1377 lw_1378 lw_1379 lw_124 lw_1380) rfl rfl rfl (by decide +kernel) (rmd_ok (by decide) (by decide))) rfl hl.1 rfl (Nat.le_of_ble_eq_true rfl) dX11_sure_14 ⟨Nat.le_refl _, Nat.le_refl _⟩ (fun H locs hP hS => ?_)
      refine lv_if_ne (tgt := 22) hx hb dX11_sure_17 (by decide) (fun c6 => ?_) (fun c6 => ?_)
      · rw [if_neg c6] at h
        refine lv_aload_n hx hb dX11_sure_22 rfl (lv_at hl 0 rfl) ?_
        refine ge_11_12 hx hb hts (inU inW_X11) hown hK hP k_0 (hts _ (List.mem_cons_of_mem _ lw_715)) dX11_sure_23 ?_
        refine lv_iload_n hx hb dX11_sure_26 rfl (lv_at hl 1 rfl) ?_
        refine lv_if_ne (tgt := 40) hx hb dX11_sure_27 (by decide) (fun c7 => ?_) (fun c7 => ?_)
        · rw [if_neg c7] at h
          refine lv_aload_n hx hb dX11_sure_40 rfl (lv_at hl 0 rfl) ?_
          refine ge_11_12 hx hb hts (inU inW_X11) hown hK hP k_0 (hts _ (List.mem_cons_of_mem _ lw_715)) dX11_sure_41 ?_
          refine ge_4_8 hx hb hts (inU inW_X4) hown hK hP k_162 (hts _ (List.mem_cons_of_mem _ lw_660)) dX11_sure_44 ?_
          exact pf_X11_sure_47 C   169 z5 k_169 hP hS (lv_sub hl [] rfl) h
        · rw [if_pos c7] at h
          refine lv_aload_n hx hb dX11_sure_30 rfl (lv_at hl 0 rfl) ?_
          refine ge_11_12 hx hb hts (inU inW_X11) hown hK hP k_0 (hts _ (List.mem_cons_of_mem _ lw_715)) dX11_sure_31 ?_
          refine ge_4_7 hx hb hts (inU inW_X4) hown hK hP k_162 (hts _ (List.mem_cons_of_mem _ lw_658)) dX11_sure_34 ?_
          refine lv_goto (tgt := 47) hx hb dX11_sure_37 (by decide) ?_
          exact pf_X11_sure_47 C   168 z5 k_168 hP hS (lv_sub hl [] rfl) h
      · rw [if_pos c6] at h
        refine lv_iconst (v := (-1)) hx hb dX11_sure_20 (by decide) ?_
        exact x_iret hx hb hr hlocks hK hP hS h dX11_sure_21
def fn_X11_ask (v1 : Int32) (v2 : Int32) (z : St) : Option (Int32 × St) := (if v1 < 0 then some ((-1), z) else (if 1 < v1 then some ((-1), z) else bd (fn_X4_gather  v2 z) (fun r4 z5 => (if r4 = 0 then some ((-1), z5) else bv (fn_X4_findQuestion   z5) (fun z8 => (if v1 = 0 then some ((z8.1 162 13), z8) else some ((z8.1 162 14), z8)))))))
set_option maxHeartbeats 4000000 in
set_option maxRecDepth 100000 in
theorem m_X11_ask {l : Launch} {G : wG} (hG : Ok G) {v1 : Int32} {v2 : Int32} {z : St} {Rz : Int32 × St}  (h : fn_X11_ask  v1 v2 z = some Rz) : Met l yX11_ask (wsU yX11_ask cX11_ask 3 (some .int)) (rmd 4) (va_Pc [.ref (G.2.2 0), .int v1, .int v2] (Pre G z)) (va_Qi (fun r u => (r, u) = Rz) (Pre G) (AW G)) 0 0 (AW G) := by
  refine Met.ofW (cc := cX11_ask) (maxL := 3) (ret := (some .int)) (by decide) rfl ?_
  intro p e s m args below meth c s₁ B hml hv
  obtain ⟨rfl, hP, hK⟩ := hv
  have C : CX p s m ([.ref (G.2.2 0), .int v1, .int v2] : List Value).toArray meth c cX11_ask 3 (wsU yX11_ask cX11_ask 3 (some .int)) RX11 (some .int) G := ⟨B.exec, B.bytes, hml, findClass_of_methodNamed B.named, atoms_spec (ws := (wsU yX11_ask cX11_ask 3 (some .int))) B.pre, B.returns, B.notSynchronized, hK, hG⟩
  obtain ⟨hx, hb, -, hown, hts, hr, hlocks, -, -⟩ := id C
  have hS : va_S (AW G) s.heap s.heap [] := va_S.rf
  have hl := lv_entry [.ref (G.2.2 0), .int v1, .int v2] (n := 3) (Nat.le_of_ble_eq_true rfl)
  rw [lg_entry_eq]
  generalize (lg_sl [.ref (G.2.2 0), .int v1, .int v2] ++ List.replicate (3 - (lg_sl [.ref (G.2.2 0), .int v1, .int v2]).length) Slot.unset).toArray = ls at hl ⊢
  have hl : lv_has ls 3 [(0, .ref (G.2.2 0)), (1, .int v1), (2, .int v2)] := hl
  unfold fn_X11_ask at h
  refine lv_iload_n hx hb dX11_ask_0 rfl (lv_at hl 1 rfl) ?_
  refine lv_if_lt (tgt := 20) hx hb dX11_ask_1 (by decide) (fun c1 => ?_) (fun c1 => ?_)
  · rw [if_pos c1] at h
    refine lv_iconst (v := (-1)) hx hb dX11_ask_20 (by decide) ?_
    exact x_iret hx hb hr hlocks hK hP hS h dX11_ask_21
  · rw [if_neg c1] at h
    refine lv_iload_n hx hb dX11_ask_4 rfl (lv_at hl 1 rfl) ?_
    refine lv_iconst (v := 1) hx hb dX11_ask_5 (by decide) ?_
    refine lv_icmp_gt (tgt := 20) hx hb dX11_ask_6 (by decide) (fun c2 => ?_) (fun c2 => ?_)
    · rw [if_pos c2] at h
      refine lv_iconst (v := (-1)) hx hb dX11_ask_20 (by decide) ?_
      exact x_iret hx hb hr hlocks hK hP hS h dX11_ask_21
    · rw [if_neg c2] at h
      refine lv_aload_n hx hb dX11_ask_9 rfl (lv_at hl 0 rfl) ?_
      refine ge_11_12 hx hb hts (inU inW_X11) hown hK hP k_0 (hts _ (List.mem_cons_of_mem _ lw_715)) dX11_ask_10 ?_
      refine lv_iload_n hx hb dX11_ask_13 rfl (lv_at hl 2 rfl) ?_
      obtain ⟨r4, z5, h3, h⟩ := bd_s h
      refine x_Vi (Rz := (r4, z5)) (As := [.int v2]) (rest := []) ⟨hx, hb, hml, hown, hts⟩ hK hP hS (kd_lt k_162 (by decide)) (cell_4 k_162) rfl (m_X4_gather hG   h3) (cwV 1 hts (gV lw_1377 lw_1378 lw_1379 lw_124 lw_1380) rfl rfl rfl (by decide +kernel) (rmd_ok (by decide) (by decide))) rfl hl.1 rfl (Nat.le_of_ble_eq_true rfl) dX11_ask_14 ⟨Nat.le_refl _, Nat.le_refl _⟩ (fun H locs hP hS => ?_)
      refine lv_if_ne (tgt := 22) hx hb dX11_ask_17 (by decide) (fun c6 => ?_) (fun c6 => ?_)
      · rw [if_neg c6] at h
        refine lv_aload_n hx hb dX11_ask_22 rfl (lv_at hl 0 rfl) ?_
        refine ge_11_12 hx hb hts (inU inW_X11) hown hK hP k_0 (hts _ (List.mem_cons_of_mem _ lw_715)) dX11_ask_23 ?_
        obtain ⟨z8, h7, h⟩ := bv_s h
        refine x_Vv (Rz := z8) (As := []) (rest := []) ⟨hx, hb, hml, hown, hts⟩ hK hP hS (kd_lt k_162 (by decide)) (cell_4 k_162) rfl (m_X4_findQuestion hG   h7) (cwV 0 hts (gV lw_1403 lw_1404 lw_1405 lw_124 lw_1406) rfl rfl rfl (by decide +kernel) (rmd_ok (by decide) (by decide))) rfl hl.1 rfl (Nat.le_of_ble_eq_true rfl) dX11_ask_26 ⟨Nat.le_refl _, Nat.le_refl _⟩ (fun H locs hP hS => ?_)
        refine lv_iload_n hx hb dX11_ask_29 rfl (lv_at hl 1 rfl) ?_
        refine lv_if_ne (tgt := 43) hx hb dX11_ask_30 (by decide) (fun c9 => ?_) (fun c9 => ?_)
        · rw [if_neg c9] at h
          refine lv_aload_n hx hb dX11_ask_43 rfl (lv_at hl 0 rfl) ?_
          refine ge_11_12 hx hb hts (inU inW_X11) hown hK hP k_0 (hts _ (List.mem_cons_of_mem _ lw_715)) dX11_ask_44 ?_
          refine ge_4_14 hx hb hts (inU inW_X4) hown hK hP k_162 (hts _ (List.mem_cons_of_mem _ lw_670)) dX11_ask_47 ?_
          exact x_iret hx hb hr hlocks hK hP hS h dX11_ask_50
        · rw [if_pos c9] at h
          refine lv_aload_n hx hb dX11_ask_33 rfl (lv_at hl 0 rfl) ?_
          refine ge_11_12 hx hb hts (inU inW_X11) hown hK hP k_0 (hts _ (List.mem_cons_of_mem _ lw_715)) dX11_ask_34 ?_
          refine ge_4_13 hx hb hts (inU inW_X4) hown hK hP k_162 (hts _ (List.mem_cons_of_mem _ lw_668)) dX11_ask_37 ?_
          refine lv_goto (tgt := 50) hx hb dX11_ask_40 (by decide) ?_
          exact x_iret hx hb hr hlocks hK hP hS h dX11_ask_50
      · rw [if_pos c6] at h
        refine lv_iconst (v := (-1)) hx hb dX11_ask_20 (by decide) ?_
        exact x_iret hx hb hr hlocks hK hP hS h dX11_ask_21
def fn_X11_image (v1 : Int32) (z : St) : Option (Int32 × St) := (if v1 < 0 then some ((-1), z) else (if v1 < 3 then gd (ix v1 3) (bv (fn_X1_takeFrom  (61 + 1 + 27 * (Int32.toNatClampNeg v1)) 34 z) (fun z5 => gd (ix v1 3) (nm (sI z5 (61 + 1 + 27 * (Int32.toNatClampNeg v1)) 5 1) (fun z7 => some ((z7.1 34 2), z7))))) else some ((-1), z)))
set_option maxHeartbeats 4000000 in
set_option maxRecDepth 100000 in
theorem m_X11_image {l : Launch} {G : wG} (hG : Ok G) {v1 : Int32} {z : St} {Rz : Int32 × St}  (h : fn_X11_image  v1 z = some Rz) : Met l yX11_image (wsU yX11_image cX11_image 2 (some .int)) (rmd 3) (va_Pc [.ref (G.2.2 0), .int v1] (Pre G z)) (va_Qi (fun r u => (r, u) = Rz) (Pre G) (AW G)) 0 0 (AW G) := by
  refine Met.ofW (cc := cX11_image) (maxL := 2) (ret := (some .int)) (by decide) rfl ?_
  intro p e s m args below meth c s₁ B hml hv
  obtain ⟨rfl, hP, hK⟩ := hv
  have C : CX p s m ([.ref (G.2.2 0), .int v1] : List Value).toArray meth c cX11_image 2 (wsU yX11_image cX11_image 2 (some .int)) RX11 (some .int) G := ⟨B.exec, B.bytes, hml, findClass_of_methodNamed B.named, atoms_spec (ws := (wsU yX11_image cX11_image 2 (some .int))) B.pre, B.returns, B.notSynchronized, hK, hG⟩
  obtain ⟨hx, hb, -, hown, hts, hr, hlocks, -, -⟩ := id C
  have hS : va_S (AW G) s.heap s.heap [] := va_S.rf
  have hl := lv_entry [.ref (G.2.2 0), .int v1] (n := 2) (Nat.le_of_ble_eq_true rfl)
  rw [lg_entry_eq]
  generalize (lg_sl [.ref (G.2.2 0), .int v1] ++ List.replicate (2 - (lg_sl [.ref (G.2.2 0), .int v1]).length) Slot.unset).toArray = ls at hl ⊢
  have hl : lv_has ls 2 [(0, .ref (G.2.2 0)), (1, .int v1)] := hl
  unfold fn_X11_image at h
  refine lv_iload_n hx hb dX11_image_0 rfl (lv_at hl 1 rfl) ?_
  refine lv_if_lt (tgt := 13) hx hb dX11_image_1 (by decide) (fun c1 => ?_) (fun c1 => ?_)
  · rw [if_pos c1] at h
    refine lv_iconst (v := (-1)) hx hb dX11_image_13 (by decide) ?_
    exact x_iret hx hb hr hlocks hK hP hS h dX11_image_14
  · rw [if_neg c1] at h
    refine lv_iload_n hx hb dX11_image_4 rfl (lv_at hl 1 rfl) ?_
    refine lv_aload_n hx hb dX11_image_5 rfl (lv_at hl 0 rfl) ?_
    refine ge_11_6 hx hb hts (inU inW_X11) hown hK hP k_0 (hts _ (List.mem_cons_of_mem _ lw_709)) dX11_image_6 ?_
    refine xn_17 (v := 3) hx hb hK hP k_61 l_61 rfl dX11_image_9 ?_
    refine lv_icmp_lt (tgt := 15) hx hb dX11_image_10 (by decide) (fun c2 => ?_) (fun c2 => ?_)
    · rw [if_pos c2] at h
      refine lv_aload_n hx hb dX11_image_15 rfl (lv_at hl 0 rfl) ?_
      refine ge_11_6 hx hb hts (inU inW_X11) hown hK hP k_0 (hts _ (List.mem_cons_of_mem _ lw_709)) dX11_image_16 ?_
      refine lv_iload_n hx hb dX11_image_19 rfl (lv_at hl 1 rfl) ?_
      obtain ⟨g3, h⟩ := gd_s h
      refine xl_17 hx hb hK hP k_61 l_61 (ix_in g3) dX11_image_20 ?_
      refine lv_aload_n hx hb dX11_image_21 rfl (lv_at hl 0 rfl) ?_
      refine ge_11_5 hx hb hts (inU inW_X11) hown hK hP k_0 (hts _ (List.mem_cons_of_mem _ lw_708)) dX11_image_22 ?_
      obtain ⟨z5, h4, h⟩ := bv_s h
      refine x_Vv (Rz := z5) (As := [.ref (G.2.2 34)]) (rest := []) ⟨hx, hb, hml, hown, hts⟩ hK hP hS (kd_lt (ke_17 k_61 (ix_lt g3)) (by decide)) (cell_1 (ke_17 k_61 (ix_lt g3))) rfl (m_X1_takeFrom hG  (ke_17 k_61 (ix_lt g3)) k_34 h4) (cwV 1 hts (gV lw_1412 lw_1413 lw_1414 lw_117 lw_1415) rfl rfl rfl (by decide +kernel) (rmd_ok (by decide) (by decide))) rfl hl.1 rfl (Nat.le_of_ble_eq_true rfl) dX11_image_25 ⟨Nat.le_refl _, Nat.le_refl _⟩ (fun H locs hP hS => ?_)
      refine lv_aload_n hx hb dX11_image_28 rfl (lv_at hl 0 rfl) ?_
      refine ge_11_6 hx hb hts (inU inW_X11) hown hK hP k_0 (hts _ (List.mem_cons_of_mem _ lw_709)) dX11_image_29 ?_
      refine lv_iload_n hx hb dX11_image_32 rfl (lv_at hl 1 rfl) ?_
      obtain ⟨g6, h⟩ := gd_s h
      refine xl_17 hx hb hK hP k_61 l_61 (ix_in g6) dX11_image_33 ?_
      refine lv_iconst (v := 1) hx hb dX11_image_34 (by decide) ?_
      obtain ⟨z7, e_z7, h⟩ := nm_s h
      refine pu_1_5 hx hb hts (inU inW_X1) hown hK hG hP hS (ke_17 k_61 (ix_lt g6)) (hts _ (List.mem_cons_of_mem _ lw_433)) rfl dX11_image_35 (fun H locs hP hS => ?_)
      rw [← e_z7] at hP
      refine lv_aload_n hx hb dX11_image_38 rfl (lv_at hl 0 rfl) ?_
      refine ge_11_5 hx hb hts (inU inW_X11) hown hK hP k_0 (hts _ (List.mem_cons_of_mem _ lw_708)) dX11_image_39 ?_
      refine ge_1_2 hx hb hts (inU inW_X1) hown hK hP k_34 (hts _ (List.mem_cons_of_mem _ lw_425)) dX11_image_42 ?_
      exact x_iret hx hb hr hlocks hK hP hS h dX11_image_45
    · rw [if_neg c2] at h
      refine lv_iconst (v := (-1)) hx hb dX11_image_13 (by decide) ?_
      exact x_iret hx hb hr hlocks hK hP hS h dX11_image_14
def fn_X11_restore (v1 : Int32) (z : St) : Option (Int32 × St) := (if v1 < 0 then some ((-1), z) else (if 3 ≤ v1 then some ((-1), z) else gd (ix v1 3) ((if (z.1 (61 + 1 + 27 * (Int32.toNatClampNeg v1)) 5) = 0 then some ((-1), z) else gd (ix v1 3) (bv (fn_X1_takeFrom  34 (61 + 1 + 27 * (Int32.toNatClampNeg v1)) z) (fun z7 => bv (fn_X0_forget   z7) (fun z9 => some ((z9.1 34 2), z9))))))))
set_option maxHeartbeats 4000000 in
set_option maxRecDepth 100000 in
theorem m_X11_restore {l : Launch} {G : wG} (hG : Ok G) {v1 : Int32} {z : St} {Rz : Int32 × St}  (h : fn_X11_restore  v1 z = some Rz) : Met l yX11_restore (wsU yX11_restore cX11_restore 2 (some .int)) (rmd 3) (va_Pc [.ref (G.2.2 0), .int v1] (Pre G z)) (va_Qi (fun r u => (r, u) = Rz) (Pre G) (AW G)) 0 0 (AW G) := by
  refine Met.ofW (cc := cX11_restore) (maxL := 2) (ret := (some .int)) (by decide) rfl ?_
  intro p e s m args below meth c s₁ B hml hv
  obtain ⟨rfl, hP, hK⟩ := hv
  have C : CX p s m ([.ref (G.2.2 0), .int v1] : List Value).toArray meth c cX11_restore 2 (wsU yX11_restore cX11_restore 2 (some .int)) RX11 (some .int) G := ⟨B.exec, B.bytes, hml, findClass_of_methodNamed B.named, atoms_spec (ws := (wsU yX11_restore cX11_restore 2 (some .int))) B.pre, B.returns, B.notSynchronized, hK, hG⟩
  obtain ⟨hx, hb, -, hown, hts, hr, hlocks, -, -⟩ := id C
  have hS : va_S (AW G) s.heap s.heap [] := va_S.rf
  have hl := lv_entry [.ref (G.2.2 0), .int v1] (n := 2) (Nat.le_of_ble_eq_true rfl)
  rw [lg_entry_eq]
  generalize (lg_sl [.ref (G.2.2 0), .int v1] ++ List.replicate (2 - (lg_sl [.ref (G.2.2 0), .int v1]).length) Slot.unset).toArray = ls at hl ⊢
  have hl : lv_has ls 2 [(0, .ref (G.2.2 0)), (1, .int v1)] := hl
  unfold fn_X11_restore at h
  refine lv_iload_n hx hb dX11_restore_0 rfl (lv_at hl 1 rfl) ?_
  refine lv_if_lt (tgt := 25) hx hb dX11_restore_1 (by decide) (fun c1 => ?_) (fun c1 => ?_)
  · rw [if_pos c1] at h
    refine lv_iconst (v := (-1)) hx hb dX11_restore_25 (by decide) ?_
    exact x_iret hx hb hr hlocks hK hP hS h dX11_restore_26
  · rw [if_neg c1] at h
    refine lv_iload_n hx hb dX11_restore_4 rfl (lv_at hl 1 rfl) ?_
    refine lv_aload_n hx hb dX11_restore_5 rfl (lv_at hl 0 rfl) ?_
    refine ge_11_6 hx hb hts (inU inW_X11) hown hK hP k_0 (hts _ (List.mem_cons_of_mem _ lw_709)) dX11_restore_6 ?_
    refine xn_17 (v := 3) hx hb hK hP k_61 l_61 rfl dX11_restore_9 ?_
    refine lv_icmp_ge (tgt := 25) hx hb dX11_restore_10 (by decide) (fun c2 => ?_) (fun c2 => ?_)
    · rw [if_pos c2] at h
      refine lv_iconst (v := (-1)) hx hb dX11_restore_25 (by decide) ?_
      exact x_iret hx hb hr hlocks hK hP hS h dX11_restore_26
    · rw [if_neg c2] at h
      refine lv_aload_n hx hb dX11_restore_13 rfl (lv_at hl 0 rfl) ?_
      refine ge_11_6 hx hb hts (inU inW_X11) hown hK hP k_0 (hts _ (List.mem_cons_of_mem _ lw_709)) dX11_restore_14 ?_
      refine lv_iload_n hx hb dX11_restore_17 rfl (lv_at hl 1 rfl) ?_
      obtain ⟨g3, h⟩ := gd_s h
      refine xl_17 hx hb hK hP k_61 l_61 (ix_in g3) dX11_restore_18 ?_
      refine ge_1_5 hx hb hts (inU inW_X1) hown hK hP (ke_17 k_61 (ix_lt g3)) (hts _ (List.mem_cons_of_mem _ lw_433)) dX11_restore_19 ?_
      refine lv_if_ne (tgt := 27) hx hb dX11_restore_22 (by decide) (fun c4 => ?_) (fun c4 => ?_)
      · rw [if_neg c4] at h
        refine lv_aload_n hx hb dX11_restore_27 rfl (lv_at hl 0 rfl) ?_
        refine ge_11_5 hx hb hts (inU inW_X11) hown hK hP k_0 (hts _ (List.mem_cons_of_mem _ lw_708)) dX11_restore_28 ?_
        refine lv_aload_n hx hb dX11_restore_31 rfl (lv_at hl 0 rfl) ?_
        refine ge_11_6 hx hb hts (inU inW_X11) hown hK hP k_0 (hts _ (List.mem_cons_of_mem _ lw_709)) dX11_restore_32 ?_
        refine lv_iload_n hx hb dX11_restore_35 rfl (lv_at hl 1 rfl) ?_
        obtain ⟨g5, h⟩ := gd_s h
        refine xl_17 hx hb hK hP k_61 l_61 (ix_in g5) dX11_restore_36 ?_
        obtain ⟨z7, h6, h⟩ := bv_s h
        refine x_Vv (Rz := z7) (As := [.ref (G.2.2 (61 + 1 + 27 * (Int32.toNatClampNeg v1)))]) (rest := []) ⟨hx, hb, hml, hown, hts⟩ hK hP hS (kd_lt k_34 (by decide)) (cell_1 k_34) rfl (m_X1_takeFrom hG  k_34 (ke_17 k_61 (ix_lt g5)) h6) (cwV 1 hts (gV lw_1412 lw_1413 lw_1414 lw_117 lw_1415) rfl rfl rfl (by decide +kernel) (rmd_ok (by decide) (by decide))) rfl hl.1 rfl (Nat.le_of_ble_eq_true rfl) dX11_restore_37 ⟨Nat.le_refl _, Nat.le_refl _⟩ (fun H locs hP hS => ?_)
        refine lv_aload_n hx hb dX11_restore_40 rfl (lv_at hl 0 rfl) ?_
        refine ge_11_8 hx hb hts (inU inW_X11) hown hK hP k_0 (hts _ (List.mem_cons_of_mem _ lw_711)) dX11_restore_41 ?_
        obtain ⟨z9, h8, h⟩ := bv_s h
        refine x_Vv (Rz := z9) (As := []) (rest := []) ⟨hx, hb, hml, hown, hts⟩ hK hP hS (kd_lt k_146 (by decide)) (cell_0 k_146) rfl (m_X0_forget hG   h8) (cwV 0 hts (gV lw_926 lw_927 lw_928 lw_120 lw_929) rfl rfl rfl (by decide +kernel) (rmd_ok (by decide) (by decide))) rfl hl.1 rfl (Nat.le_of_ble_eq_true rfl) dX11_restore_44 ⟨Nat.le_refl _, Nat.le_refl _⟩ (fun H locs hP hS => ?_)
        refine lv_aload_n hx hb dX11_restore_47 rfl (lv_at hl 0 rfl) ?_
        refine ge_11_5 hx hb hts (inU inW_X11) hown hK hP k_0 (hts _ (List.mem_cons_of_mem _ lw_708)) dX11_restore_48 ?_
        refine ge_1_2 hx hb hts (inU inW_X1) hown hK hP k_34 (hts _ (List.mem_cons_of_mem _ lw_425)) dX11_restore_51 ?_
        exact x_iret hx hb hr hlocks hK hP hS h dX11_restore_54
      · rw [if_pos c4] at h
        refine lv_iconst (v := (-1)) hx hb dX11_restore_25 (by decide) ?_
        exact x_iret hx hb hr hlocks hK hP hS h dX11_restore_26
def fn_X11_about (v1 : Int32) (z : St) : Option (Int32 × St) := (if v1 = 0 then some ((z.1 2 0), z) else (if v1 = 1 then some ((z.1 2 5), z) else (if v1 = 2 then some ((z.1 34 2), z) else (if v1 = 3 then some ((z.1 34 3), z) else (if v1 = 4 then some ((z.1 34 4), z) else (if v1 = 5 then bd (fn_X1_brokenSet  34 z) (fun r8 z9 => some (r8, z9)) else (if v1 = 6 then some ((z.1 146 9), z) else (if v1 = 7 then some (((z.1 146 10) - (z.1 146 9)), z) else (if v1 = 8 then some ((z.1 162 11), z) else (if v1 = 9 then some ((z.1 162 12), z) else (if v1 = 10 then some ((z.1 0 1), z) else (if v1 = 11 then some (((z.1 11 3) + (z.1 14 3)), z) else (if v1 = 12 then some ((z.1 0 14), z) else (some ((-1), z)))))))))))))))
set_option maxHeartbeats 4000000 in
set_option maxRecDepth 100000 in
theorem m_X11_about {l : Launch} {G : wG} (hG : Ok G) {v1 : Int32} {z : St} {Rz : Int32 × St}  (h : fn_X11_about  v1 z = some Rz) : Met l yX11_about (wsU yX11_about cX11_about 2 (some .int)) (rmd 2) (va_Pc [.ref (G.2.2 0), .int v1] (Pre G z)) (va_Qi (fun r u => (r, u) = Rz) (Pre G) (AW G)) 0 0 (AW G) := by
  refine Met.ofW (cc := cX11_about) (maxL := 2) (ret := (some .int)) (by decide) rfl ?_
  intro p e s m args below meth c s₁ B hml hv
  obtain ⟨rfl, hP, hK⟩ := hv
  have C : CX p s m ([.ref (G.2.2 0), .int v1] : List Value).toArray meth c cX11_about 2 (wsU yX11_about cX11_about 2 (some .int)) RX11 (some .int) G := ⟨B.exec, B.bytes, hml, findClass_of_methodNamed B.named, atoms_spec (ws := (wsU yX11_about cX11_about 2 (some .int))) B.pre, B.returns, B.notSynchronized, hK, hG⟩
  obtain ⟨hx, hb, -, hown, hts, hr, hlocks, -, -⟩ := id C
  have hS : va_S (AW G) s.heap s.heap [] := va_S.rf
  have hl := lv_entry [.ref (G.2.2 0), .int v1] (n := 2) (Nat.le_of_ble_eq_true rfl)
  rw [lg_entry_eq]
  generalize (lg_sl [.ref (G.2.2 0), .int v1] ++ List.replicate (2 - (lg_sl [.ref (G.2.2 0), .int v1]).length) Slot.unset).toArray = ls at hl ⊢
  have hl : lv_has ls 2 [(0, .ref (G.2.2 0)), (1, .int v1)] := hl
  unfold fn_X11_about at h
  refine lv_iload_n hx hb dX11_about_0 rfl (lv_at hl 1 rfl) ?_
  by_cases c1 : v1 = 0
  · rw [if_pos c1] at h
    refine lv_tableIn (off := 67) (tgt := 68) hx hb dX11_about_1 (by rw [c1]; decide) (by rw [c1]; decide) (by rw [c1]; rfl) (by decide) ?_
    refine lv_aload_n hx hb dX11_about_68 rfl (lv_at hl 0 rfl) ?_
    refine ge_11_2 hx hb hts (inU inW_X11) hown hK hP k_0 (hts _ (List.mem_cons_of_mem _ lw_705)) dX11_about_69 ?_
    refine ge_7_0 hx hb hts (inU inW_X7) hown hK hP k_2 (hts _ (List.mem_cons_of_mem _ lw_181)) dX11_about_72 ?_
    exact x_iret hx hb hr hlocks hK hP hS h dX11_about_75
  rw [if_neg c1] at h
  by_cases c2 : v1 = 1
  · rw [if_pos c2] at h
    refine lv_tableIn (off := 75) (tgt := 76) hx hb dX11_about_1 (by rw [c2]; decide) (by rw [c2]; decide) (by rw [c2]; rfl) (by decide) ?_
    refine lv_aload_n hx hb dX11_about_76 rfl (lv_at hl 0 rfl) ?_
    refine ge_11_2 hx hb hts (inU inW_X11) hown hK hP k_0 (hts _ (List.mem_cons_of_mem _ lw_705)) dX11_about_77 ?_
    refine ge_7_5 hx hb hts (inU inW_X7) hown hK hP k_2 (hts _ (List.mem_cons_of_mem _ lw_199)) dX11_about_80 ?_
    exact x_iret hx hb hr hlocks hK hP hS h dX11_about_83
  rw [if_neg c2] at h
  by_cases c3 : v1 = 2
  · rw [if_pos c3] at h
    refine lv_tableIn (off := 83) (tgt := 84) hx hb dX11_about_1 (by rw [c3]; decide) (by rw [c3]; decide) (by rw [c3]; rfl) (by decide) ?_
    refine lv_aload_n hx hb dX11_about_84 rfl (lv_at hl 0 rfl) ?_
    refine ge_11_5 hx hb hts (inU inW_X11) hown hK hP k_0 (hts _ (List.mem_cons_of_mem _ lw_708)) dX11_about_85 ?_
    refine ge_1_2 hx hb hts (inU inW_X1) hown hK hP k_34 (hts _ (List.mem_cons_of_mem _ lw_425)) dX11_about_88 ?_
    exact x_iret hx hb hr hlocks hK hP hS h dX11_about_91
  rw [if_neg c3] at h
  by_cases c4 : v1 = 3
  · rw [if_pos c4] at h
    refine lv_tableIn (off := 91) (tgt := 92) hx hb dX11_about_1 (by rw [c4]; decide) (by rw [c4]; decide) (by rw [c4]; rfl) (by decide) ?_
    refine lv_aload_n hx hb dX11_about_92 rfl (lv_at hl 0 rfl) ?_
    refine ge_11_5 hx hb hts (inU inW_X11) hown hK hP k_0 (hts _ (List.mem_cons_of_mem _ lw_708)) dX11_about_93 ?_
    refine ge_1_3 hx hb hts (inU inW_X1) hown hK hP k_34 (hts _ (List.mem_cons_of_mem _ lw_429)) dX11_about_96 ?_
    exact x_iret hx hb hr hlocks hK hP hS h dX11_about_99
  rw [if_neg c4] at h
  by_cases c5 : v1 = 4
  · rw [if_pos c5] at h
    refine lv_tableIn (off := 99) (tgt := 100) hx hb dX11_about_1 (by rw [c5]; decide) (by rw [c5]; decide) (by rw [c5]; rfl) (by decide) ?_
    refine lv_aload_n hx hb dX11_about_100 rfl (lv_at hl 0 rfl) ?_
    refine ge_11_5 hx hb hts (inU inW_X11) hown hK hP k_0 (hts _ (List.mem_cons_of_mem _ lw_708)) dX11_about_101 ?_
    refine ge_1_4 hx hb hts (inU inW_X1) hown hK hP k_34 (hts _ (List.mem_cons_of_mem _ lw_432)) dX11_about_104 ?_
    exact x_iret hx hb hr hlocks hK hP hS h dX11_about_107
  rw [if_neg c5] at h
  by_cases c6 : v1 = 5
  · rw [if_pos c6] at h
    refine lv_tableIn (off := 107) (tgt := 108) hx hb dX11_about_1 (by rw [c6]; decide) (by rw [c6]; decide) (by rw [c6]; rfl) (by decide) ?_
    refine lv_aload_n hx hb dX11_about_108 rfl (lv_at hl 0 rfl) ?_
    refine ge_11_5 hx hb hts (inU inW_X11) hown hK hP k_0 (hts _ (List.mem_cons_of_mem _ lw_708)) dX11_about_109 ?_
    obtain ⟨r8, z9, h7, h⟩ := bd_s h
    refine x_Vi (Rz := (r8, z9)) (As := []) (rest := []) ⟨hx, hb, hml, hown, hts⟩ hK hP hS (kd_lt k_34 (by decide)) (cell_1 k_34) rfl (m_X1_brokenSet hG  k_34 h7) (cwV 0 hts (gV lw_1424 lw_1425 lw_1426 lw_117 lw_1427) rfl rfl rfl (by decide +kernel) (rmd_ok (by decide) (by decide))) rfl hl.1 rfl (Nat.le_of_ble_eq_true rfl) dX11_about_112 ⟨Nat.le_refl _, Nat.le_refl _⟩ (fun H locs hP hS => ?_)
    exact x_iret hx hb hr hlocks hK hP hS h dX11_about_115
  rw [if_neg c6] at h
  by_cases c10 : v1 = 6
  · rw [if_pos c10] at h
    refine lv_tableIn (off := 115) (tgt := 116) hx hb dX11_about_1 (by rw [c10]; decide) (by rw [c10]; decide) (by rw [c10]; rfl) (by decide) ?_
    refine lv_aload_n hx hb dX11_about_116 rfl (lv_at hl 0 rfl) ?_
    refine ge_11_8 hx hb hts (inU inW_X11) hown hK hP k_0 (hts _ (List.mem_cons_of_mem _ lw_711)) dX11_about_117 ?_
    refine ge_0_9 hx hb hts (inU inW_X0) hown hK hP k_146 (hts _ (List.mem_cons_of_mem _ lw_495)) dX11_about_120 ?_
    exact x_iret hx hb hr hlocks hK hP hS h dX11_about_123
  rw [if_neg c10] at h
  by_cases c11 : v1 = 7
  · rw [if_pos c11] at h
    refine lv_tableIn (off := 123) (tgt := 124) hx hb dX11_about_1 (by rw [c11]; decide) (by rw [c11]; decide) (by rw [c11]; rfl) (by decide) ?_
    refine lv_aload_n hx hb dX11_about_124 rfl (lv_at hl 0 rfl) ?_
    refine ge_11_8 hx hb hts (inU inW_X11) hown hK hP k_0 (hts _ (List.mem_cons_of_mem _ lw_711)) dX11_about_125 ?_
    refine ge_0_10 hx hb hts (inU inW_X0) hown hK hP k_146 (hts _ (List.mem_cons_of_mem _ lw_497)) dX11_about_128 ?_
    refine lv_aload_n hx hb dX11_about_131 rfl (lv_at hl 0 rfl) ?_
    refine ge_11_8 hx hb hts (inU inW_X11) hown hK hP k_0 (hts _ (List.mem_cons_of_mem _ lw_711)) dX11_about_132 ?_
    refine ge_0_9 hx hb hts (inU inW_X0) hown hK hP k_146 (hts _ (List.mem_cons_of_mem _ lw_495)) dX11_about_135 ?_
    refine lv_isub hx hb dX11_about_138 ?_
    exact x_iret hx hb hr hlocks hK hP hS h dX11_about_139
  rw [if_neg c11] at h
  by_cases c12 : v1 = 8
  · rw [if_pos c12] at h
    refine lv_tableIn (off := 139) (tgt := 140) hx hb dX11_about_1 (by rw [c12]; decide) (by rw [c12]; decide) (by rw [c12]; rfl) (by decide) ?_
    refine lv_aload_n hx hb dX11_about_140 rfl (lv_at hl 0 rfl) ?_
    refine ge_11_12 hx hb hts (inU inW_X11) hown hK hP k_0 (hts _ (List.mem_cons_of_mem _ lw_715)) dX11_about_141 ?_
    refine ge_4_11 hx hb hts (inU inW_X4) hown hK hP k_162 (hts _ (List.mem_cons_of_mem _ lw_664)) dX11_about_144 ?_
    exact x_iret hx hb hr hlocks hK hP hS h dX11_about_147
  rw [if_neg c12] at h
  by_cases c13 : v1 = 9
  · rw [if_pos c13] at h
    refine lv_tableIn (off := 147) (tgt := 148) hx hb dX11_about_1 (by rw [c13]; decide) (by rw [c13]; decide) (by rw [c13]; rfl) (by decide) ?_
    refine lv_aload_n hx hb dX11_about_148 rfl (lv_at hl 0 rfl) ?_
    refine ge_11_12 hx hb hts (inU inW_X11) hown hK hP k_0 (hts _ (List.mem_cons_of_mem _ lw_715)) dX11_about_149 ?_
    refine ge_4_12 hx hb hts (inU inW_X4) hown hK hP k_162 (hts _ (List.mem_cons_of_mem _ lw_666)) dX11_about_152 ?_
    exact x_iret hx hb hr hlocks hK hP hS h dX11_about_155
  rw [if_neg c13] at h
  by_cases c14 : v1 = 10
  · rw [if_pos c14] at h
    refine lv_tableIn (off := 155) (tgt := 156) hx hb dX11_about_1 (by rw [c14]; decide) (by rw [c14]; decide) (by rw [c14]; rfl) (by decide) ?_
    refine lv_aload_n hx hb dX11_about_156 rfl (lv_at hl 0 rfl) ?_
    refine ge_11_1 hx hb hts (inU inW_X11) hown hK hP k_0 (hts _ (List.mem_cons_of_mem _ lw_704)) dX11_about_157 ?_
    exact x_iret hx hb hr hlocks hK hP hS h dX11_about_160
  rw [if_neg c14] at h
  by_cases c15 : v1 = 11
  · rw [if_pos c15] at h
    refine lv_tableIn (off := 160) (tgt := 161) hx hb dX11_about_1 (by rw [c15]; decide) (by rw [c15]; decide) (by rw [c15]; rfl) (by decide) ?_
    refine lv_aload_n hx hb dX11_about_161 rfl (lv_at hl 0 rfl) ?_
    refine ge_11_2 hx hb hts (inU inW_X11) hown hK hP k_0 (hts _ (List.mem_cons_of_mem _ lw_705)) dX11_about_162 ?_
    refine ge_7_10 hx hb hts (inU inW_X7) hown hK hP k_2 (hts _ (List.mem_cons_of_mem _ lw_213)) dX11_about_165 ?_
    refine ge_2_3 hx hb hts (inU inW_X2) hown hK hP k_11 (hts _ (List.mem_cons_of_mem _ lw_160)) dX11_about_168 ?_
    refine lv_aload_n hx hb dX11_about_171 rfl (lv_at hl 0 rfl) ?_
    refine ge_11_2 hx hb hts (inU inW_X11) hown hK hP k_0 (hts _ (List.mem_cons_of_mem _ lw_705)) dX11_about_172 ?_
    refine ge_7_11 hx hb hts (inU inW_X7) hown hK hP k_2 (hts _ (List.mem_cons_of_mem _ lw_217)) dX11_about_175 ?_
    refine ge_2_3 hx hb hts (inU inW_X2) hown hK hP k_14 (hts _ (List.mem_cons_of_mem _ lw_160)) dX11_about_178 ?_
    refine lv_iadd hx hb dX11_about_181 ?_
    exact x_iret hx hb hr hlocks hK hP hS h dX11_about_182
  rw [if_neg c15] at h
  by_cases c16 : v1 = 12
  · rw [if_pos c16] at h
    refine lv_tableIn (off := 182) (tgt := 183) hx hb dX11_about_1 (by rw [c16]; decide) (by rw [c16]; decide) (by rw [c16]; rfl) (by decide) ?_
    refine lv_aload_n hx hb dX11_about_183 rfl (lv_at hl 0 rfl) ?_
    refine ge_11_14 hx hb hts (inU inW_X11) hown hK hP k_0 (hts _ (List.mem_cons_of_mem _ lw_717)) dX11_about_184 ?_
    exact x_iret hx hb hr hlocks hK hP hS h dX11_about_187
  rw [if_neg c16] at h
  have n17 : (v1 : Int32).toInt < 0 ∨ 12 < (v1 : Int32).toInt := by
    have c1_n := lv_neT (a := 0) c1 (by decide)
    have c2_n := lv_neT (a := 1) c2 (by decide)
    have c3_n := lv_neT (a := 2) c3 (by decide)
    have c4_n := lv_neT (a := 3) c4 (by decide)
    have c5_n := lv_neT (a := 4) c5 (by decide)
    have c6_n := lv_neT (a := 5) c6 (by decide)
    have c10_n := lv_neT (a := 6) c10 (by decide)
    have c11_n := lv_neT (a := 7) c11 (by decide)
    have c12_n := lv_neT (a := 8) c12 (by decide)
    have c13_n := lv_neT (a := 9) c13 (by decide)
    have c14_n := lv_neT (a := 10) c14 (by decide)
    have c15_n := lv_neT (a := 11) c15 (by decide)
    have c16_n := lv_neT (a := 12) c16 (by decide)
    omega
  refine lv_tableOut (tgt := 188) hx hb dX11_about_1 n17 (by decide) ?_
  refine lv_iconst (v := (-1)) hx hb dX11_about_188 (by decide) ?_
  exact x_iret hx hb hr hlocks hK hP hS h dX11_about_189
