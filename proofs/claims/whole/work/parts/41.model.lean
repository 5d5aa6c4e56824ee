def fn_X12_asked  (z : St) : Option (Int32 × St) := (if (z.1 172 6) = 1 then (if (lg_cmp (z.2 172 9) 1634887009) = 0 then some (0, z) else (if (lg_cmp (z.2 172 9) 452639420007) = 0 then some (1, z) else (if (lg_cmp (z.2 172 9) 495924372852) = 0 then some (2, z) else (if (lg_cmp (z.2 172 9) 108243635103086) = 0 then some (3, z) else (if (lg_cmp (z.2 172 9) 1819242087) = 0 then some (4, z) else (if (lg_cmp (z.2 172 9) 120299592184933) = 0 then some (5, z) else some ((-1), z))))))) else some ((-1), z))
set_option maxHeartbeats 4000000 in
set_option maxRecDepth 100000 in
theorem m_X12_asked {l : Launch} {G : wG} (hG : Ok G)  {z : St} {Rz : Int32 × St}  (h : fn_X12_asked   z = some Rz) : Met l yX12_asked (wsU yX12_asked cX12_asked 1 (some .int)) (rmd 1) (va_Pc [.ref (G.2.2 172)] (Pre G z)) (va_Qi (fun r u => (r, u) = Rz) (Pre G) (AW G)) 0 0 (AW G) := by
  refine Met.ofW (cc := cX12_asked) (maxL := 1) (ret := (some .int)) (by decide) rfl ?_
  intro p e s m args below meth c s₁ B hml hv
  obtain ⟨rfl, hP, hK⟩ := hv
  have C : CX p s m ([.ref (G.2.2 172)] : List Value).toArray meth c cX12_asked 1 (wsU yX12_asked cX12_asked 1 (some .int)) RX12 (some .int) G := ⟨B.exec, B.bytes, hml, findClass_of_methodNamed B.named, atoms_spec (ws := (wsU yX12_asked cX12_asked 1 (some .int))) B.pre, B.returns, B.notSynchronized, hK, hG⟩
  obtain ⟨hx, hb, -, hown, hts, hr, hlocks, -, -⟩ := id C
  have hS : va_S (AW G) s.heap s.heap [] := va_S.rf
  have hl := lv_entry [.ref (G.2.2 172)] (n := 1) (Nat.le_of_ble_eq_true rfl)
  rw [lg_entry_eq]
  generalize (lg_sl [.ref (G.2.2 172)] ++ List.replicate (1 - (lg_sl [.ref (G.2.2 172)]).length) Slot.unset).toArray = ls at hl ⊢
  have hl : lv_has ls 1 [(0, .ref (G.2.2 172))] := hl
  unfold fn_X12_asked at h
  refine lv_aload_n hx hb dX12_asked_0 rfl (lv_at hl 0 rfl) ?_
  refine ge_12_6 hx hb hts (inU inW_X12) hown hK hP k_172 (hts _ (List.mem_cons_of_mem _ lw_1440)) dX12_asked_1 ?_
  refine lv_iconst (v := 1) hx hb dX12_asked_4 (by decide) ?_
  refine lv_icmp_eq (tgt := 10) hx hb dX12_asked_5 (by decide) (fun c1 => ?_) (fun c1 => ?_)
  · rw [if_pos c1] at h
    refine lv_aload_n hx hb dX12_asked_10 rfl (lv_at hl 0 rfl) ?_
    refine ge_12_9 hx hb hts (inU inW_X12) hown hK hP k_172 (hts _ (List.mem_cons_of_mem _ lw_1443)) dX12_asked_11 ?_
    refine lv_ldc2 (v := 1634887009) hx hb hown (hts _ (List.mem_cons_of_mem _ lw_1732)) dX12_asked_14 ?_
    refine W.lcmp hx hb dX12_asked_17 ?_
    refine lv_if_ne (tgt := 23) hx hb dX12_asked_18 (by decide) (fun c2 => ?_) (fun c2 => ?_)
    · rw [if_neg c2] at h
      refine lv_aload_n hx hb dX12_asked_23 rfl (lv_at hl 0 rfl) ?_
      refine ge_12_9 hx hb hts (inU inW_X12) hown hK hP k_172 (hts _ (List.mem_cons_of_mem _ lw_1443)) dX12_asked_24 ?_
      refine lv_ldc2 (v := 452639420007) hx hb hown (hts _ (List.mem_cons_of_mem _ lw_1733)) dX12_asked_27 ?_
      refine W.lcmp hx hb dX12_asked_30 ?_
      refine lv_if_ne (tgt := 36) hx hb dX12_asked_31 (by decide) (fun c3 => ?_) (fun c3 => ?_)
      · rw [if_neg c3] at h
        refine lv_aload_n hx hb dX12_asked_36 rfl (lv_at hl 0 rfl) ?_
        refine ge_12_9 hx hb hts (inU inW_X12) hown hK hP k_172 (hts _ (List.mem_cons_of_mem _ lw_1443)) dX12_asked_37 ?_
        refine lv_ldc2 (v := 495924372852) hx hb hown (hts _ (List.mem_cons_of_mem _ lw_1726)) dX12_asked_40 ?_
        refine W.lcmp hx hb dX12_asked_43 ?_
        refine lv_if_ne (tgt := 49) hx hb dX12_asked_44 (by decide) (fun c4 => ?_) (fun c4 => ?_)
        · rw [if_neg c4] at h
          refine lv_aload_n hx hb dX12_asked_49 rfl (lv_at hl 0 rfl) ?_
          refine ge_12_9 hx hb hts (inU inW_X12) hown hK hP k_172 (hts _ (List.mem_cons_of_mem _ lw_1443)) dX12_asked_50 ?_
          refine lv_ldc2 (v := 108243635103086) hx hb hown (hts _ (List.mem_cons_of_mem _ lw_1734)) dX12_asked_53 ?_
          refine W.lcmp hx hb dX12_asked_56 ?_
          refine lv_if_ne (tgt := 62) hx hb dX12_asked_57 (by decide) (fun c5 => ?_) (fun c5 => ?_)
          · rw [if_neg c5] at h
            refine lv_aload_n hx hb dX12_asked_62 rfl (lv_at hl 0 rfl) ?_
            refine ge_12_9 hx hb hts (inU inW_X12) hown hK hP k_172 (hts _ (List.mem_cons_of_mem _ lw_1443)) dX12_asked_63 ?_
            refine lv_ldc2 (v := 1819242087) hx hb hown (hts _ (List.mem_cons_of_mem _ lw_1735)) dX12_asked_66 ?_
            refine W.lcmp hx hb dX12_asked_69 ?_
            refine lv_if_ne (tgt := 75) hx hb dX12_asked_70 (by decide) (fun c6 => ?_) (fun c6 => ?_)
            · rw [if_neg c6] at h
              refine lv_aload_n hx hb dX12_asked_75 rfl (lv_at hl 0 rfl) ?_
              refine ge_12_9 hx hb hts (inU inW_X12) hown hK hP k_172 (hts _ (List.mem_cons_of_mem _ lw_1443)) dX12_asked_76 ?_
              refine lv_ldc2 (v := 120299592184933) hx hb hown (hts _ (List.mem_cons_of_mem _ lw_1736)) dX12_asked_79 ?_
              refine W.lcmp hx hb dX12_asked_82 ?_
              refine lv_if_ne (tgt := 90) hx hb dX12_asked_83 (by decide) (fun c7 => ?_) (fun c7 => ?_)
              · rw [if_neg c7] at h
                refine lv_iconst (v := (-1)) hx hb dX12_asked_90 (by decide) ?_
                exact x_iret hx hb hr hlocks hK hP hS h dX12_asked_91
              · rw [if_pos c7] at h
                refine lv_iconst (v := 5) hx hb dX12_asked_86 (by decide) ?_
                refine lv_goto (tgt := 91) hx hb dX12_asked_87 (by decide) ?_
                exact x_iret hx hb hr hlocks hK hP hS h dX12_asked_91
            · rw [if_pos c6] at h
              refine lv_iconst (v := 4) hx hb dX12_asked_73 (by decide) ?_
              exact x_iret hx hb hr hlocks hK hP hS h dX12_asked_74
          · rw [if_pos c5] at h
            refine lv_iconst (v := 3) hx hb dX12_asked_60 (by decide) ?_
            exact x_iret hx hb hr hlocks hK hP hS h dX12_asked_61
        · rw [if_pos c4] at h
          refine lv_iconst (v := 2) hx hb dX12_asked_47 (by decide) ?_
          exact x_iret hx hb hr hlocks hK hP hS h dX12_asked_48
      · rw [if_pos c3] at h
        refine lv_iconst (v := 1) hx hb dX12_asked_34 (by decide) ?_
        exact x_iret hx hb hr hlocks hK hP hS h dX12_asked_35
    · rw [if_pos c2] at h
      refine lv_iconst (v := 0) hx hb dX12_asked_21 (by decide) ?_
      exact x_iret hx hb hr hlocks hK hP hS h dX12_asked_22
  · rw [if_neg c1] at h
    refine lv_iconst (v := (-1)) hx hb dX12_asked_8 (by decide) ?_
    exact x_iret hx hb hr hlocks hK hP hS h dX12_asked_9
def fn_X12_isFull  (z : St) : Option (Int32 × St) := (if (z.1 172 22) = 60 then some (1, z) else (if (z.1 172 24) = 30 then some (1, z) else some (0, z)))
set_option maxHeartbeats 4000000 in
set_option maxRecDepth 100000 in
theorem m_X12_isFull {l : Launch} {G : wG} (hG : Ok G)  {z : St} {Rz : Int32 × St}  (h : fn_X12_isFull   z = some Rz) : Met l yX12_isFull (wsU yX12_isFull cX12_isFull 1 (some .boolean)) (rmd 1) (va_Pc [.ref (G.2.2 172)] (Pre G z)) (va_Qi (fun r u => (r, u) = Rz) (Pre G) (AW G)) 0 0 (AW G) := by
  refine Met.ofW (cc := cX12_isFull) (maxL := 1) (ret := (some .boolean)) (by decide) rfl ?_
  intro p e s m args below meth c s₁ B hml hv
  obtain ⟨rfl, hP, hK⟩ := hv
  have C : CX p s m ([.ref (G.2.2 172)] : List Value).toArray meth c cX12_isFull 1 (wsU yX12_isFull cX12_isFull 1 (some .boolean)) RX12 (some .boolean) G := ⟨B.exec, B.bytes, hml, findClass_of_methodNamed B.named, atoms_spec (ws := (wsU yX12_isFull cX12_isFull 1 (some .boolean))) B.pre, B.returns, B.notSynchronized, hK, hG⟩
  obtain ⟨hx, hb, -, hown, hts, hr, hlocks, -, -⟩ := id C
  have hS : va_S (AW G) s.heap s.heap [] := va_S.rf
  have hl := lv_entry [.ref (G.2.2 172)] (n := 1) (Nat.le_of_ble_eq_true rfl)
  rw [lg_entry_eq]
  generalize (lg_sl [.ref (G.2.2 172)] ++ List.replicate (1 - (lg_sl [.ref (G.2.2 172)]).length) Slot.unset).toArray = ls at hl ⊢
  have hl : lv_has ls 1 [(0, .ref (G.2.2 172))] := hl
  unfold fn_X12_isFull at h
  refine lv_aload_n hx hb dX12_isFull_0 rfl (lv_at hl 0 rfl) ?_
  refine ge_12_22 hx hb hts (inU inW_X12) hown hK hP k_172 (hts _ (List.mem_cons_of_mem _ lw_1456)) dX12_isFull_1 ?_
  refine lv_bipush (v := 60) hx hb dX12_isFull_4 (by decide) ?_
  refine lv_icmp_eq (tgt := 18) hx hb dX12_isFull_6 (by decide) (fun c1 => ?_) (fun c1 => ?_)
  · rw [if_pos c1] at h
    refine lv_iconst (v := 1) hx hb dX12_isFull_18 (by decide) ?_
    refine lv_goto (tgt := 23) hx hb dX12_isFull_19 (by decide) ?_
    exact x_zret hx hb hr hlocks hK hP hS rfl h dX12_isFull_23
  · rw [if_neg c1] at h
    refine lv_aload_n hx hb dX12_isFull_9 rfl (lv_at hl 0 rfl) ?_
    refine ge_12_24 hx hb hts (inU inW_X12) hown hK hP k_172 (hts _ (List.mem_cons_of_mem _ lw_1458)) dX12_isFull_10 ?_
    refine lv_bipush (v := 30) hx hb dX12_isFull_13 (by decide) ?_
    refine lv_icmp_ne (tgt := 22) hx hb dX12_isFull_15 (by decide) (fun c2 => ?_) (fun c2 => ?_)
    · rw [if_neg c2] at h
      refine lv_iconst (v := 0) hx hb dX12_isFull_22 (by decide) ?_
      exact x_zret hx hb hr hlocks hK hP hS rfl h dX12_isFull_23
    · rw [if_pos c2] at h
      refine lv_iconst (v := 1) hx hb dX12_isFull_18 (by decide) ?_
      refine lv_goto (tgt := 23) hx hb dX12_isFull_19 (by decide) ?_
      exact x_zret hx hb hr hlocks hK hP hS rfl h dX12_isFull_23
def fn_X12_countUnit  (z : St) : Option (St) := nm (sI z 172 22 ((z.1 172 22) + 1)) (fun z1 => nm (sI z1 172 24 ((z1.1 172 24) + 1)) (fun z2 => some z2))
set_option maxHeartbeats 4000000 in
set_option maxRecDepth 100000 in
theorem m_X12_countUnit {l : Launch} {G : wG} (hG : Ok G)  {z : St} {Rz : St}  (h : fn_X12_countUnit   z = some Rz) : Met l yX12_countUnit (wsU yX12_countUnit cX12_countUnit 1 none) (rmd 1) (va_Pc [.ref (G.2.2 172)] (Pre G z)) (va_Qv (fun u => u = Rz) (Pre G) (AW G)) 0 0 (AW G) := by
  refine Met.ofW (cc := cX12_countUnit) (maxL := 1) (ret := none) (by decide) rfl ?_
  intro p e s m args below meth c s₁ B hml hv
  obtain ⟨rfl, hP, hK⟩ := hv
  have C : CX p s m ([.ref (G.2.2 172)] : List Value).toArray meth c cX12_countUnit 1 (wsU yX12_countUnit cX12_countUnit 1 none) RX12 none G := ⟨B.exec, B.bytes, hml, findClass_of_methodNamed B.named, atoms_spec (ws := (wsU yX12_countUnit cX12_countUnit 1 none)) B.pre, B.returns, B.notSynchronized, hK, hG⟩
  obtain ⟨hx, hb, -, hown, hts, hr, hlocks, -, -⟩ := id C
  have hS : va_S (AW G) s.heap s.heap [] := va_S.rf
  have hl := lv_entry [.ref (G.2.2 172)] (n := 1) (Nat.le_of_ble_eq_true rfl)
  rw [lg_entry_eq]
  generalize (lg_sl [.ref (G.2.2 172)] ++ List.replicate (1 - (lg_sl [.ref (G.2.2 172)]).length) Slot.unset).toArray = ls at hl ⊢
  have hl : lv_has ls 1 [(0, .ref (G.2.2 172))] := hl
  unfold fn_X12_countUnit at h
  refine lv_aload_n hx hb dX12_countUnit_0 rfl (lv_at hl 0 rfl) ?_
  refine lv_dup hx hb dX12_countUnit_1 rfl ?_
  refine ge_12_22 hx hb hts (inU inW_X12) hown hK hP k_172 (hts _ (List.mem_cons_of_mem _ lw_1456)) dX12_countUnit_2 ?_
  refine lv_iconst (v := 1) hx hb dX12_countUnit_5 (by decide) ?_
  refine lv_iadd hx hb dX12_countUnit_6 ?_
  obtain ⟨z1, e_z1, h⟩ := nm_s h
  refine pu_12_22 hx hb hts (inU inW_X12) hown hK hG hP hS k_172 (hts _ (List.mem_cons_of_mem _ lw_1456)) dX12_countUnit_7 (fun H locs hP hS => ?_)
  rw [← e_z1] at hP
  refine lv_aload_n hx hb dX12_countUnit_10 rfl (lv_at hl 0 rfl) ?_
  refine lv_dup hx hb dX12_countUnit_11 rfl ?_
  refine ge_12_24 hx hb hts (inU inW_X12) hown hK hP k_172 (hts _ (List.mem_cons_of_mem _ lw_1458)) dX12_countUnit_12 ?_
  refine lv_iconst (v := 1) hx hb dX12_countUnit_15 (by decide) ?_
  refine lv_iadd hx hb dX12_countUnit_16 ?_
  obtain ⟨z2, e_z2, h⟩ := nm_s h
  refine pu_12_24 hx hb hts (inU inW_X12) hown hK hG hP hS k_172 (hts _ (List.mem_cons_of_mem _ lw_1458)) dX12_countUnit_17 (fun H locs hP hS => ?_)
  rw [← e_z2] at hP
  exact x_vret hx hb hr hlocks hK hP hS h dX12_countUnit_20
def fn_X12_openUp (v1 : Int32) (z : St) : Option (St) := gd (ix (z.1 172 21) 160) (nm (sI z 181 (Int32.toNatClampNeg (z.1 172 21)) v1) (fun z2 => nm (sI z2 172 21 ((z2.1 172 21) + 1)) (fun z3 => nm (sI z3 172 25 ((z3.1 172 25) + 1)) (fun z4 => (if (z4.1 172 2) = 0 then bv (fn_X12_token   z4) (fun z7 => some z7) else some z4)))))
set_option maxHeartbeats 4000000 in
set_option maxRecDepth 100000 in
theorem m_X12_openUp {l : Launch} {G : wG} (hG : Ok G) {v1 : Int32} {z : St} {Rz : St}  (h : fn_X12_openUp  v1 z = some Rz) : Met l yX12_openUp (wsU yX12_openUp cX12_openUp 2 none) (rmd 3) (va_Pc [.ref (G.2.2 172), .int v1] (Pre G z)) (va_Qv (fun u => u = Rz) (Pre G) (AW G)) 0 0 (AW G) := by
  refine Met.ofW (cc := cX12_openUp) (maxL := 2) (ret := none) (by decide) rfl ?_
  intro p e s m args below meth c s₁ B hml hv
  obtain ⟨rfl, hP, hK⟩ := hv
  have C : CX p s m ([.ref (G.2.2 172), .int v1] : List Value).toArray meth c cX12_openUp 2 (wsU yX12_openUp cX12_openUp 2 none) RX12 none G := ⟨B.exec, B.bytes, hml, findClass_of_methodNamed B.named, atoms_spec (ws := (wsU yX12_openUp cX12_openUp 2 none)) B.pre, B.returns, B.notSynchronized, hK, hG⟩
  obtain ⟨hx, hb, -, hown, hts, hr, hlocks, -, -⟩ := id C
  have hS : va_S (AW G) s.heap s.heap [] := va_S.rf
  have hl := lv_entry [.ref (G.2.2 172), .int v1] (n := 2) (Nat.le_of_ble_eq_true rfl)
  rw [lg_entry_eq]
  generalize (lg_sl [.ref (G.2.2 172), .int v1] ++ List.replicate (2 - (lg_sl [.ref (G.2.2 172), .int v1]).length) Slot.unset).toArray = ls at hl ⊢
  have hl : lv_has ls 2 [(0, .ref (G.2.2 172)), (1, .int v1)] := hl
  unfold fn_X12_openUp at h
  refine lv_aload_n hx hb dX12_openUp_0 rfl (lv_at hl 0 rfl) ?_
  refine ge_12_17 hx hb hts (inU inW_X12) hown hK hP k_172 (hts _ (List.mem_cons_of_mem _ lw_1451)) dX12_openUp_1 ?_
  refine lv_aload_n hx hb dX12_openUp_4 rfl (lv_at hl 0 rfl) ?_
  refine ge_12_21 hx hb hts (inU inW_X12) hown hK hP k_172 (hts _ (List.mem_cons_of_mem _ lw_1455)) dX12_openUp_5 ?_
  refine lv_iload_n hx hb dX12_openUp_8 rfl (lv_at hl 1 rfl) ?_
  obtain ⟨g1, h⟩ := gd_s h
  obtain ⟨z2, e_z2, h⟩ := nm_s h
  refine xs_14 hx hb hK hG hP hS k_181 l_181 (ix_in g1) dX12_openUp_9 (fun H locs hP hS => ?_)
  rw [← e_z2] at hP
  refine lv_aload_n hx hb dX12_openUp_10 rfl (lv_at hl 0 rfl) ?_
  refine lv_dup hx hb dX12_openUp_11 rfl ?_
  refine ge_12_21 hx hb hts (inU inW_X12) hown hK hP k_172 (hts _ (List.mem_cons_of_mem _ lw_1455)) dX12_openUp_12 ?_
  refine lv_iconst (v := 1) hx hb dX12_openUp_15 (by decide) ?_
  refine lv_iadd hx hb dX12_openUp_16 ?_
  obtain ⟨z3, e_z3, h⟩ := nm_s h
  refine pu_12_21 hx hb hts (inU inW_X12) hown hK hG hP hS k_172 (hts _ (List.mem_cons_of_mem _ lw_1455)) dX12_openUp_17 (fun H locs hP hS => ?_)
  rw [← e_z3] at hP
  refine lv_aload_n hx hb dX12_openUp_20 rfl (lv_at hl 0 rfl) ?_
  refine lv_dup hx hb dX12_openUp_21 rfl ?_
  refine ge_12_25 hx hb hts (inU inW_X12) hown hK hP k_172 (hts _ (List.mem_cons_of_mem _ lw_1459)) dX12_openUp_22 ?_
  refine lv_iconst (v := 1) hx hb dX12_openUp_25 (by decide) ?_
  refine lv_iadd hx hb dX12_openUp_26 ?_
  obtain ⟨z4, e_z4, h⟩ := nm_s h
  refine pu_12_25 hx hb hts (inU inW_X12) hown hK hG hP hS k_172 (hts _ (List.mem_cons_of_mem _ lw_1459)) dX12_openUp_27 (fun H locs hP hS => ?_)
  rw [← e_z4] at hP
  refine lv_aload_n hx hb dX12_openUp_30 rfl (lv_at hl 0 rfl) ?_
  refine ge_12_2 hx hb hts (inU inW_X12) hown hK hP k_172 (hts _ (List.mem_cons_of_mem _ lw_1436)) dX12_openUp_31 ?_
  refine lv_if_ne (tgt := 41) hx hb dX12_openUp_34 (by decide) (fun c5 => ?_) (fun c5 => ?_)
  · rw [if_neg c5] at h
    exact x_vret hx hb hr hlocks hK hP hS h dX12_openUp_41
  · rw [if_pos c5] at h
    refine lv_aload_n hx hb dX12_openUp_37 rfl (lv_at hl 0 rfl) ?_
    obtain ⟨z7, h6, h⟩ := bv_s h
    refine x_Vv (Rz := z7) (As := []) (rest := []) ⟨hx, hb, hml, hown, hts⟩ hK hP hS (kd_lt k_172 (by decide)) (cell_12 k_172) rfl (m_X12_token hG   h6) (cwV 0 hts (gV lw_1680 lw_1682 lw_46 lw_125 lw_1683) rfl rfl rfl (by decide +kernel) (rmd_ok (by decide) (by decide))) rfl hl.1 rfl (Nat.le_of_ble_eq_true rfl) dX12_openUp_38 ⟨Nat.le_refl _, Nat.le_refl _⟩ (fun H locs hP hS => ?_)
    exact x_vret hx hb hr hlocks hK hP hS h dX12_openUp_41
def fn_X12_unit_44 (k2 : Int32 → St → Option (St)) (v1 : Int32) (z : St) : Option (St) := bv (fn_X12_openUp  21 z) (fun z2 => k2 v1 z2)
set_option maxHeartbeats 4000000 in
set_option maxRecDepth 100000 in
theorem pf_X12_unit_44 {p : Program} {l : Launch} {e : Env} {s : State} {m : MethodId} {args : Array Value} {below : List Frame} {meth : Method} {c : Code} {G : wG} (C : CX p s m args meth c cX12_unit 3 (wsU yX12_unit cX12_unit 3 none) RX12 none G) {Rz : St} {k2 : Int32 → St → Option (St)} (hk_2 : ∀ (v1 : Int32) (z : St)  (H : Heap) (locs : List Loc) (ls : Array Slot), WP G z H → va_S (AW G) s.heap H locs → lv_has ls 3 [(0, .ref (G.2.2 172)), (1, .int v1)] → k2 v1 z = some Rz → W p l e (rmd 4) s m args below meth c H locs 0 0 (QV below args s G Rz) (F0 m 2 ls [])) (v1 : Int32) (z : St)  {H : Heap} {locs : List Loc} {ls : Array Slot} (hP : WP G z H) (hS : va_S (AW G) s.heap H locs) (hl : lv_has ls 3 [(0, .ref (G.2.2 172)), (1, .int v1)]) (h : fn_X12_unit_44  k2 v1 z = some Rz) : W p l e (rmd 4) s m args below meth c H locs 0 0 (QV below args s G Rz) (F0 m 44 ls []) := by
  obtain ⟨hx, hb, hml, hown, hts, hr, hlocks, hK, hG⟩ := id C
  unfold fn_X12_unit_44 at h
  refine lv_aload_n hx hb dX12_unit_44 rfl (lv_at hl 0 rfl) ?_
  refine lv_bipush (v := 21) hx hb dX12_unit_45 (by decide) ?_
  obtain ⟨z2, h1, h⟩ := bv_s h
  refine x_Vv (Rz := z2) (As := [.int 21]) (rest := []) ⟨hx, hb, hml, hown, hts⟩ hK hP hS (kd_lt k_172 (by decide)) (cell_12 k_172) rfl (m_X12_openUp hG   h1) (cwV 1 hts (gV lw_1779 lw_1781 lw_63 lw_125 lw_1782) rfl rfl rfl (by decide +kernel) (rmd_ok (by decide) (by decide))) rfl hl.1 rfl (Nat.le_of_ble_eq_true rfl) dX12_unit_47 ⟨Nat.le_refl _, Nat.le_refl _⟩ (fun H locs hP hS => ?_)
  refine lv_goto (tgt := 2) hx hb dX12_unit_50 (by decide) ?_
  exact hk_2 v1 z2  _ _ _ hP hS (lv_sub hl [0, 1] rfl) h
def fn_X12_unit_83 (k2 : Int32 → St → Option (St)) (v1 : Int32) (z : St) : Option (St) := bv (fn_X12_countUnit   z) (fun z2 => bv (fn_X12_openUp  20 z2) (fun z4 => k2 v1 z4))
set_option maxHeartbeats 4000000 in
set_option maxRecDepth 100000 in
theorem pf_X12_unit_83 {p : Program} {l : Launch} {e : Env} {s : State} {m : MethodId} {args : Array Value} {below : List Frame} {meth : Method} {c : Code} {G : wG} (C : CX p s m args meth c cX12_unit 3 (wsU yX12_unit cX12_unit 3 none) RX12 none G) {Rz : St} {k2 : Int32 → St → Option (St)} (hk_2 : ∀ (v1 : Int32) (z : St)  (H : Heap) (locs : List Loc) (ls : Array Slot), WP G z H → va_S (AW G) s.heap H locs → lv_has ls 3 [(0, .ref (G.2.2 172)), (1, .int v1)] → k2 v1 z = some Rz → W p l e (rmd 4) s m args below meth c H locs 0 0 (QV below args s G Rz) (F0 m 2 ls [])) (v1 : Int32) (z : St)  {H : Heap} {locs : List Loc} {ls : Array Slot} (hP : WP G z H) (hS : va_S (AW G) s.heap H locs) (hl : lv_has ls 3 [(0, .ref (G.2.2 172)), (1, .int v1)]) (h : fn_X12_unit_83  k2 v1 z = some Rz) : W p l e (rmd 4) s m args below meth c H locs 0 0 (QV below args s G Rz) (F0 m 83 ls []) := by
  obtain ⟨hx, hb, hml, hown, hts, hr, hlocks, hK, hG⟩ := id C
  unfold fn_X12_unit_83 at h
  refine lv_aload_n hx hb dX12_unit_83 rfl (lv_at hl 0 rfl) ?_
  obtain ⟨z2, h1, h⟩ := bv_s h
  refine x_Vv (Rz := z2) (As := []) (rest := []) ⟨hx, hb, hml, hown, hts⟩ hK hP hS (kd_lt k_172 (by decide)) (cell_12 k_172) rfl (m_X12_countUnit hG   h1) (cwV 0 hts (gV lw_1787 lw_1789 lw_65 lw_125 lw_1790) rfl rfl rfl (by decide +kernel) (rmd_ok (by decide) (by decide))) rfl hl.1 rfl (Nat.le_of_ble_eq_true rfl) dX12_unit_84 ⟨Nat.le_refl _, Nat.le_refl _⟩ (fun H locs hP hS => ?_)
  refine lv_aload_n hx hb dX12_unit_87 rfl (lv_at hl 0 rfl) ?_
  refine lv_bipush (v := 20) hx hb dX12_unit_88 (by decide) ?_
  obtain ⟨z4, h3, h⟩ := bv_s h
  refine x_Vv (Rz := z4) (As := [.int 20]) (rest := []) ⟨hx, hb, hml, hown, hts⟩ hK hP hS (kd_lt k_172 (by decide)) (cell_12 k_172) rfl (m_X12_openUp hG   h3) (cwV 1 hts (gV lw_1779 lw_1781 lw_63 lw_125 lw_1782) rfl rfl rfl (by decide +kernel) (rmd_ok (by decide) (by decide))) rfl hl.1 rfl (Nat.le_of_ble_eq_true rfl) dX12_unit_90 ⟨Nat.le_refl _, Nat.le_refl _⟩ (fun H locs hP hS => ?_)
  refine lv_goto (tgt := 2) hx hb dX12_unit_93 (by decide) ?_
  exact hk_2 v1 z4  _ _ _ hP hS (lv_sub hl [0, 1] rfl) h
def fn_X12_unit_78 (k2 : Int32 → St → Option (St)) (v1 : Int32) (z : St) : Option (St) := bv (fn_X12_wrong  2 z) (fun z2 => fn_X12_unit_83  k2 v1 z2)
set_option maxHeartbeats 4000000 in
set_option maxRecDepth 100000 in
theorem pf_X12_unit_78 {p : Program} {l : Launch} {e : Env} {s : State} {m : MethodId} {args : Array Value} {below : List Frame} {meth : Method} {c : Code} {G : wG} (C : CX p s m args meth c cX12_unit 3 (wsU yX12_unit cX12_unit 3 none) RX12 none G) {Rz : St} {k2 : Int32 → St → Option (St)} (hk_2 : ∀ (v1 : Int32) (z : St)  (H : Heap) (locs : List Loc) (ls : Array Slot), WP G z H → va_S (AW G) s.heap H locs → lv_has ls 3 [(0, .ref (G.2.2 172)), (1, .int v1)] → k2 v1 z = some Rz → W p l e (rmd 4) s m args below meth c H locs 0 0 (QV below args s G Rz) (F0 m 2 ls [])) (v1 : Int32) (z : St)  {H : Heap} {locs : List Loc} {ls : Array Slot} (hP : WP G z H) (hS : va_S (AW G) s.heap H locs) (hl : lv_has ls 3 [(0, .ref (G.2.2 172)), (1, .int v1)]) (h : fn_X12_unit_78  k2 v1 z = some Rz) : W p l e (rmd 4) s m args below meth c H locs 0 0 (QV below args s G Rz) (F0 m 78 ls []) := by
  obtain ⟨hx, hb, hml, hown, hts, hr, hlocks, hK, hG⟩ := id C
  unfold fn_X12_unit_78 at h
  refine lv_aload_n hx hb dX12_unit_78 rfl (lv_at hl 0 rfl) ?_
  refine lv_iconst (v := 2) hx hb dX12_unit_79 (by decide) ?_
  obtain ⟨z2, h1, h⟩ := bv_s h
  refine x_Vv (Rz := z2) (As := [.int 2]) (rest := []) ⟨hx, hb, hml, hown, hts⟩ hK hP hS (kd_lt k_172 (by decide)) (cell_12 k_172) rfl (m_X12_wrong hG   h1) (cwV 1 hts (gV lw_1740 lw_1742 lw_54 lw_125 lw_1743) rfl rfl rfl (by decide +kernel) (rmd_ok (by decide) (by decide))) rfl hl.1 rfl (Nat.le_of_ble_eq_true rfl) dX12_unit_80 ⟨Nat.le_refl _, Nat.le_refl _⟩ (fun H locs hP hS => ?_)
  exact pf_X12_unit_83 C  hk_2 v1 z2  hP hS (lv_sub hl [0, 1] rfl) h
def fn_X12_unit_53 (k2 : Int32 → St → Option (St)) (v1 : Int32) (z : St) : Option (St) := (if (z.1 172 6) = 40 then bd (fn_X12_isFull   z) (fun r3 z4 => (if r3 = 0 then (if (z4.1 172 25) ≤ 6 then fn_X12_unit_83  k2 v1 z4 else fn_X12_unit_78  k2 v1 z4) else fn_X12_unit_78  k2 v1 z4)) else k2 0 z)
set_option maxHeartbeats 4000000 in
set_option maxRecDepth 100000 in
theorem pf_X12_unit_53 {p : Program} {l : Launch} {e : Env} {s : State} {m : MethodId} {args : Array Value} {below : List Frame} {meth : Method} {c : Code} {G : wG} (C : CX p s m args meth c cX12_unit 3 (wsU yX12_unit cX12_unit 3 none) RX12 none G) {Rz : St} {k2 : Int32 → St → Option (St)} (hk_2 : ∀ (v1 : Int32) (z : St)  (H : Heap) (locs : List Loc) (ls : Array Slot), WP G z H → va_S (AW G) s.heap H locs → lv_has ls 3 [(0, .ref (G.2.2 172)), (1, .int v1)] → k2 v1 z = some Rz → W p l e (rmd 4) s m args below meth c H locs 0 0 (QV below args s G Rz) (F0 m 2 ls [])) (v1 : Int32) (z : St)  {H : Heap} {locs : List Loc} {ls : Array Slot} (hP : WP G z H) (hS : va_S (AW G) s.heap H locs) (hl : lv_has ls 3 [(0, .ref (G.2.2 172)), (1, .int v1)]) (h : fn_X12_unit_53  k2 v1 z = some Rz) : W p l e (rmd 4) s m args below meth c H locs 0 0 (QV below args s G Rz) (F0 m 53 ls []) := by
  obtain ⟨hx, hb, hml, hown, hts, hr, hlocks, hK, hG⟩ := id C
  unfold fn_X12_unit_53 at h
  refine lv_aload_n hx hb dX12_unit_53 rfl (lv_at hl 0 rfl) ?_
  refine ge_12_6 hx hb hts (inU inW_X12) hown hK hP k_172 (hts _ (List.mem_cons_of_mem _ lw_1440)) dX12_unit_54 ?_
  refine lv_bipush (v := 40) hx hb dX12_unit_57 (by decide) ?_
  refine lv_icmp_ne (tgt := 96) hx hb dX12_unit_59 (by decide) (fun c1 => ?_) (fun c1 => ?_)
  · rw [if_neg c1] at h
    refine lv_iconst (v := 0) hx hb dX12_unit_96 (by decide) ?_
    refine lv_istore_n (lv' := [(1, .int 0), (0, .ref (G.2.2 172))]) hx hb dX12_unit_97 rfl hl (by decide) rfl (fun ls hl => ?_)
    refine lv_goto (tgt := 2) hx hb dX12_unit_98 (by decide) ?_
    exact hk_2 0 z  _ _ _ hP hS (lv_sub hl [1, 0] rfl) h
  · rw [if_pos c1] at h
    refine lv_aload_n hx hb dX12_unit_62 rfl (lv_at hl 0 rfl) ?_
    obtain ⟨r3, z4, h2, h⟩ := bd_s h
    refine x_Vi (Rz := (r3, z4)) (As := []) (rest := []) ⟨hx, hb, hml, hown, hts⟩ hK hP hS (kd_lt k_172 (by decide)) (cell_12 k_172) rfl (m_X12_isFull hG   h2) (cwV 0 hts (gV lw_1783 lw_1785 lw_64 lw_125 lw_1786) rfl rfl rfl (by decide +kernel) (rmd_ok (by decide) (by decide))) rfl hl.1 rfl (Nat.le_of_ble_eq_true rfl) dX12_unit_63 ⟨Nat.le_refl _, Nat.le_refl _⟩ (fun H locs hP hS => ?_)
    refine lv_if_ne (tgt := 78) hx hb dX12_unit_66 (by decide) (fun c5 => ?_) (fun c5 => ?_)
    · rw [if_neg c5] at h
      exact pf_X12_unit_78 C  hk_2 v1 z4  hP hS (lv_sub hl [0, 1] rfl) h
    · rw [if_pos c5] at h
      refine lv_aload_n hx hb dX12_unit_69 rfl (lv_at hl 0 rfl) ?_
      refine ge_12_25 hx hb hts (inU inW_X12) hown hK hP k_172 (hts _ (List.mem_cons_of_mem _ lw_1459)) dX12_unit_70 ?_
      refine lv_bipush (v := 6) hx hb dX12_unit_73 (by decide) ?_
      refine lv_icmp_le (tgt := 83) hx hb dX12_unit_75 (by decide) (fun c6 => ?_) (fun c6 => ?_)
      · rw [if_pos c6] at h
        exact pf_X12_unit_83 C  hk_2 v1 z4  hP hS (lv_sub hl [0, 1] rfl) h
      · rw [if_neg c6] at h
        exact pf_X12_unit_78 C  hk_2 v1 z4  hP hS (lv_sub hl [0, 1] rfl) h
def fn_X12_unit_172 (tv1 : Int32) (tv2 : Int32) (z : St) : Option (St) := bv (fn_X12_add  tv1 tv2 z) (fun z2 => bv (fn_X12_token   z2) (fun z4 => some z4))
set_option maxHeartbeats 4000000 in
set_option maxRecDepth 100000 in
theorem pf_X12_unit_172 {p : Program} {l : Launch} {e : Env} {s : State} {m : MethodId} {args : Array Value} {below : List Frame} {meth : Method} {c : Code} {G : wG} (C : CX p s m args meth c cX12_unit 3 (wsU yX12_unit cX12_unit 3 none) RX12 none G) {Rz : St} (tv1 : Int32) (tv2 : Int32) (z : St)  {H : Heap} {locs : List Loc} {ls : Array Slot} (hP : WP G z H) (hS : va_S (AW G) s.heap H locs) (hl : lv_has ls 3 [(0, .ref (G.2.2 172))]) (h : fn_X12_unit_172   tv1 tv2 z = some Rz) : W p l e (rmd 4) s m args below meth c H locs 0 0 (QV below args s G Rz) (F0 m 172 ls [.int tv2, .int tv1, .ref (G.2.2 172)]) := by
  obtain ⟨hx, hb, hml, hown, hts, hr, hlocks, hK, hG⟩ := id C
  unfold fn_X12_unit_172 at h
  obtain ⟨z2, h1, h⟩ := bv_s h
  refine x_Vv (Rz := z2) (As := [.int tv1, .int tv2]) (rest := []) ⟨hx, hb, hml, hown, hts⟩ hK hP hS (kd_lt k_172 (by decide)) (cell_12 k_172) rfl (m_X12_add hG   h1) (cwV 2 hts (gV lw_1795 lw_1797 lw_67 lw_125 lw_1798) rfl rfl rfl (by decide +kernel) (rmd_ok (by decide) (by decide))) rfl hl.1 rfl (Nat.le_of_ble_eq_true rfl) dX12_unit_172 ⟨Nat.le_refl _, Nat.le_refl _⟩ (fun H locs hP hS => ?_)
  refine lv_aload_n hx hb dX12_unit_175 rfl (lv_at hl 0 rfl) ?_
  obtain ⟨z4, h3, h⟩ := bv_s h
  refine x_Vv (Rz := z4) (As := []) (rest := []) ⟨hx, hb, hml, hown, hts⟩ hK hP hS (kd_lt k_172 (by decide)) (cell_12 k_172) rfl (m_X12_token hG   h3) (cwV 0 hts (gV lw_1680 lw_1682 lw_46 lw_125 lw_1683) rfl rfl rfl (by decide +kernel) (rmd_ok (by decide) (by decide))) rfl hl.1 rfl (Nat.le_of_ble_eq_true rfl) dX12_unit_176 ⟨Nat.le_refl _, Nat.le_refl _⟩ (fun H locs hP hS => ?_)
  exact x_vret hx hb hr hlocks hK hP hS h dX12_unit_179
def fn_X12_unit_160 (v2 : Int32) (tv1 : Int32) (z : St) : Option (St) := (if 0 ≤ v2 then fn_X12_unit_172   tv1 v2 z else fn_X12_unit_172   tv1 (z.1 172 8) z)
set_option maxHeartbeats 4000000 in
set_option maxRecDepth 100000 in
theorem pf_X12_unit_160 {p : Program} {l : Launch} {e : Env} {s : State} {m : MethodId} {args : Array Value} {below : List Frame} {meth : Method} {c : Code} {G : wG} (C : CX p s m args meth c cX12_unit 3 (wsU yX12_unit cX12_unit 3 none) RX12 none G) {Rz : St} (v2 : Int32) (tv1 : Int32) (z : St)  {H : Heap} {locs : List Loc} {ls : Array Slot} (hP : WP G z H) (hS : va_S (AW G) s.heap H locs) (hl : lv_has ls 3 [(0, .ref (G.2.2 172)), (2, .int v2)]) (h : fn_X12_unit_160   v2 tv1 z = some Rz) : W p l e (rmd 4) s m args below meth c H locs 0 0 (QV below args s G Rz) (F0 m 160 ls [.int tv1, .ref (G.2.2 172)]) := by
  obtain ⟨hx, hb, hml, hown, hts, hr, hlocks, hK, hG⟩ := id C
  unfold fn_X12_unit_160 at h
  refine lv_iload_n hx hb dX12_unit_160 rfl (lv_at hl 1 rfl) ?_
  refine lv_if_ge (tgt := 171) hx hb dX12_unit_161 (by decide) (fun c1 => ?_) (fun c1 => ?_)
  · rw [if_pos c1] at h
    refine lv_iload_n hx hb dX12_unit_171 rfl (lv_at hl 1 rfl) ?_
    exact pf_X12_unit_172 C   tv1 v2 z  hP hS (lv_sub hl [0] rfl) h
  · rw [if_neg c1] at h
    refine lv_aload_n hx hb dX12_unit_164 rfl (lv_at hl 0 rfl) ?_
    refine ge_12_8 hx hb hts (inU inW_X12) hown hK hP k_172 (hts _ (List.mem_cons_of_mem _ lw_1442)) dX12_unit_165 ?_
    refine lv_goto (tgt := 172) hx hb dX12_unit_168 (by decide) ?_
    exact pf_X12_unit_172 C   tv1 (z.1 172 8) z  hP hS (lv_sub hl [0] rfl) h
def fn_X12_unit_138 (v2 : Int32) (z : St) : Option (St) := (if (z.1 172 2) ≤ 0 then bv (fn_X12_countUnit   z) (fun z3 => (if 0 ≤ v2 then fn_X12_unit_160   v2 1 z3 else fn_X12_unit_160   v2 0 z3)) else some z)
set_option maxHeartbeats 4000000 in
set_option maxRecDepth 100000 in
theorem pf_X12_unit_138 {p : Program} {l : Launch} {e : Env} {s : State} {m : MethodId} {args : Array Value} {below : List Frame} {meth : Method} {c : Code} {G : wG} (C : CX p s m args meth c cX12_unit 3 (wsU yX12_unit cX12_unit 3 none) RX12 none G) {Rz : St} (v2 : Int32) (z : St)  {H : Heap} {locs : List Loc} {ls : Array Slot} (hP : WP G z H) (hS : va_S (AW G) s.heap H locs) (hl : lv_has ls 3 [(0, .ref (G.2.2 172)), (2, .int v2)]) (h : fn_X12_unit_138   v2 z = some Rz) : W p l e (rmd 4) s m args below meth c H locs 0 0 (QV below args s G Rz) (F0 m 138 ls []) := by
  obtain ⟨hx, hb, hml, hown, hts, hr, hlocks, hK, hG⟩ := id C
  unfold fn_X12_unit_138 at h
  refine lv_aload_n hx hb dX12_unit_138 rfl (lv_at hl 0 rfl) ?_
  refine ge_12_2 hx hb hts (inU inW_X12) hown hK hP k_172 (hts _ (List.mem_cons_of_mem _ lw_1436)) dX12_unit_139 ?_
  refine lv_if_le (tgt := 146) hx hb dX12_unit_142 (by decide) (fun c1 => ?_) (fun c1 => ?_)
  · rw [if_pos c1] at h
    refine lv_aload_n hx hb dX12_unit_146 rfl (lv_at hl 0 rfl) ?_
    obtain ⟨z3, h2, h⟩ := bv_s h
    refine x_Vv (Rz := z3) (As := []) (rest := []) ⟨hx, hb, hml, hown, hts⟩ hK hP hS (kd_lt k_172 (by decide)) (cell_12 k_172) rfl (m_X12_countUnit hG   h2) (cwV 0 hts (gV lw_1787 lw_1789 lw_65 lw_125 lw_1790) rfl rfl rfl (by decide +kernel) (rmd_ok (by decide) (by decide))) rfl hl.1 rfl (Nat.le_of_ble_eq_true rfl) dX12_unit_147 ⟨Nat.le_refl _, Nat.le_refl _⟩ (fun H locs hP hS => ?_)
    refine lv_aload_n hx hb dX12_unit_150 rfl (lv_at hl 0 rfl) ?_
    refine lv_iload_n hx hb dX12_unit_151 rfl (lv_at hl 1 rfl) ?_
    refine lv_if_ge (tgt := 159) hx hb dX12_unit_152 (by decide) (fun c4 => ?_) (fun c4 => ?_)
    · rw [if_pos c4] at h
      refine lv_iconst (v := 1) hx hb dX12_unit_159 (by decide) ?_
      exact pf_X12_unit_160 C   v2 1 z3  hP hS (lv_sub hl [0, 1] rfl) h
    · rw [if_neg c4] at h
      refine lv_iconst (v := 0) hx hb dX12_unit_155 (by decide) ?_
      refine lv_goto (tgt := 160) hx hb dX12_unit_156 (by decide) ?_
      exact pf_X12_unit_160 C   v2 0 z3  hP hS (lv_sub hl [0, 1] rfl) h
  · rw [if_neg c1] at h
    exact x_vret hx hb hr hlocks hK hP hS h dX12_unit_145
def fn_X12_unit_133 (v2 : Int32) (z : St) : Option (St) := bv (fn_X12_wrong  2 z) (fun z2 => fn_X12_unit_138   v2 z2)
set_option maxHeartbeats 4000000 in
set_option maxRecDepth 100000 in
theorem pf_X12_unit_133 {p : Program} {l : Launch} {e : Env} {s : State} {m : MethodId} {args : Array Value} {below : List Frame} {meth : Method} {c : Code} {G : wG} (C : CX p s m args meth c cX12_unit 3 (wsU yX12_unit cX12_unit 3 none) RX12 none G) {Rz : St} (v2 : Int32) (z : St)  {H : Heap} {locs : List Loc} {ls : Array Slot} (hP : WP G z H) (hS : va_S (AW G) s.heap H locs) (hl : lv_has ls 3 [(0, .ref (G.2.2 172)), (2, .int v2)]) (h : fn_X12_unit_133   v2 z = some Rz) : W p l e (rmd 4) s m args below meth c H locs 0 0 (QV below args s G Rz) (F0 m 133 ls []) := by
  obtain ⟨hx, hb, hml, hown, hts, hr, hlocks, hK, hG⟩ := id C
  unfold fn_X12_unit_133 at h
  refine lv_aload_n hx hb dX12_unit_133 rfl (lv_at hl 0 rfl) ?_
  refine lv_iconst (v := 2) hx hb dX12_unit_134 (by decide) ?_
  obtain ⟨z2, h1, h⟩ := bv_s h
  refine x_Vv (Rz := z2) (As := [.int 2]) (rest := []) ⟨hx, hb, hml, hown, hts⟩ hK hP hS (kd_lt k_172 (by decide)) (cell_12 k_172) rfl (m_X12_wrong hG   h1) (cwV 1 hts (gV lw_1740 lw_1742 lw_54 lw_125 lw_1743) rfl rfl rfl (by decide +kernel) (rmd_ok (by decide) (by decide))) rfl hl.1 rfl (Nat.le_of_ble_eq_true rfl) dX12_unit_135 ⟨Nat.le_refl _, Nat.le_refl _⟩ (fun H locs hP hS => ?_)
  exact pf_X12_unit_138 C   v2 z2  hP hS (lv_sub hl [0, 1] rfl) h
def fn_X12_unit_126 (v2 : Int32) (z : St) : Option (St) := bd (fn_X12_isFull   z) (fun r2 z3 => (if r2 = 0 then fn_X12_unit_138   v2 z3 else fn_X12_unit_133   v2 z3))
set_option maxHeartbeats 4000000 in
set_option maxRecDepth 100000 in
theorem pf_X12_unit_126 {p : Program} {l : Launch} {e : Env} {s : State} {m : MethodId} {args : Array Value} {below : List Frame} {meth : Method} {c : Code} {G : wG} (C : CX p s m args meth c cX12_unit 3 (wsU yX12_unit cX12_unit 3 none) RX12 none G) {Rz : St} (v2 : Int32) (z : St)  {H : Heap} {locs : List Loc} {ls : Array Slot} (hP : WP G z H) (hS : va_S (AW G) s.heap H locs) (hl : lv_has ls 3 [(0, .ref (G.2.2 172)), (2, .int v2)]) (h : fn_X12_unit_126   v2 z = some Rz) : W p l e (rmd 4) s m args below meth c H locs 0 0 (QV below args s G Rz) (F0 m 126 ls []) := by
  obtain ⟨hx, hb, hml, hown, hts, hr, hlocks, hK, hG⟩ := id C
  unfold fn_X12_unit_126 at h
  refine lv_aload_n hx hb dX12_unit_126 rfl (lv_at hl 0 rfl) ?_
  obtain ⟨r2, z3, h1, h⟩ := bd_s h
  refine x_Vi (Rz := (r2, z3)) (As := []) (rest := []) ⟨hx, hb, hml, hown, hts⟩ hK hP hS (kd_lt k_172 (by decide)) (cell_12 k_172) rfl (m_X12_isFull hG   h1) (cwV 0 hts (gV lw_1783 lw_1785 lw_64 lw_125 lw_1786) rfl rfl rfl (by decide +kernel) (rmd_ok (by decide) (by decide))) rfl hl.1 rfl (Nat.le_of_ble_eq_true rfl) dX12_unit_127 ⟨Nat.le_refl _, Nat.le_refl _⟩ (fun H locs hP hS => ?_)
  refine lv_if_eq (tgt := 138) hx hb dX12_unit_130 (by decide) (fun c4 => ?_) (fun c4 => ?_)
  · rw [if_pos c4] at h
    exact pf_X12_unit_138 C   v2 z3  hP hS (lv_sub hl [0, 1] rfl) h
  · rw [if_neg c4] at h
    exact pf_X12_unit_133 C   v2 z3  hP hS (lv_sub hl [0, 1] rfl) h
def fn_X12_unit_101  (z : St) : Option (St) := (if (z.1 172 2) ≤ 0 then bd (fn_X12_asked   z) (fun r3 z4 => (if (z4.1 172 6) = 2 then fn_X12_unit_126   r3 z4 else (if r3 < 0 then fn_X12_unit_133   r3 z4 else fn_X12_unit_126   r3 z4))) else some z)
set_option maxHeartbeats 4000000 in
set_option maxRecDepth 100000 in
theorem pf_X12_unit_101 {p : Program} {l : Launch} {e : Env} {s : State} {m : MethodId} {args : Array Value} {below : List Frame} {meth : Method} {c : Code} {G : wG} (C : CX p s m args meth c cX12_unit 3 (wsU yX12_unit cX12_unit 3 none) RX12 none G) {Rz : St}  (z : St)  {H : Heap} {locs : List Loc} {ls : Array Slot} (hP : WP G z H) (hS : va_S (AW G) s.heap H locs) (hl : lv_has ls 3 [(0, .ref (G.2.2 172))]) (h : fn_X12_unit_101    z = some Rz) : W p l e (rmd 4) s m args below meth c H locs 0 0 (QV below args s G Rz) (F0 m 101 ls []) := by
  obtain ⟨hx, hb, hml, hown, hts, hr, hlocks, hK, hG⟩ := id C
  unfold fn_X12_unit_101 at h
  refine lv_aload_n hx hb dX12_unit_101 rfl (lv_at hl 0 rfl) ?_
  refine ge_12_2 hx hb hts (inU inW_X12) hown hK hP k_172 (hts _ (List.mem_cons_of_mem _ lw_1436)) dX12_unit_102 ?_
  refine lv_if_le (tgt := 109) hx hb dX12_unit_105 (by decide) (fun c1 => ?_) (fun c1 => ?_)
  · rw [if_pos c1] at h
    refine lv_aload_n hx hb dX12_unit_109 rfl (lv_at hl 0 rfl) ?_
    obtain ⟨r3, z4, h2, h⟩ := bd_s h
    refine x_Vi (Rz := (r3, z4)) (As := []) (rest := []) ⟨hx, hb, hml, hown, hts⟩ hK hP hS (kd_lt k_172 (by decide)) (cell_12 k_172) rfl (m_X12_asked hG   h2) (cwV 0 hts (gV lw_1791 lw_1793 lw_66 lw_125 lw_1794) rfl rfl rfl (by decide +kernel) (rmd_ok (by decide) (by decide))) rfl hl.1 rfl (Nat.le_of_ble_eq_true rfl) dX12_unit_110 ⟨Nat.le_refl _, Nat.le_refl _⟩ (fun H locs hP hS => ?_)
    refine lv_istore_n (lv' := [(2, .int r3), (0, .ref (G.2.2 172))]) hx hb dX12_unit_113 rfl hl (by decide) rfl (fun ls hl => ?_)
    refine lv_aload_n hx hb dX12_unit_114 rfl (lv_at hl 1 rfl) ?_
    refine ge_12_6 hx hb hts (inU inW_X12) hown hK hP k_172 (hts _ (List.mem_cons_of_mem _ lw_1440)) dX12_unit_115 ?_
    refine lv_iconst (v := 2) hx hb dX12_unit_118 (by decide) ?_
    refine lv_icmp_eq (tgt := 126) hx hb dX12_unit_119 (by decide) (fun c5 => ?_) (fun c5 => ?_)
    · rw [if_pos c5] at h
      exact pf_X12_unit_126 C   r3 z4  hP hS (lv_sub hl [1, 0] rfl) h
    · rw [if_neg c5] at h
      refine lv_iload_n hx hb dX12_unit_122 rfl (lv_at hl 0 rfl) ?_
      refine lv_if_lt (tgt := 133) hx hb dX12_unit_123 (by decide) (fun c6 => ?_) (fun c6 => ?_)
      · rw [if_pos c6] at h
        exact pf_X12_unit_133 C   r3 z4  hP hS (lv_sub hl [1, 0] rfl) h
      · rw [if_neg c6] at h
        exact pf_X12_unit_126 C   r3 z4  hP hS (lv_sub hl [1, 0] rfl) h
  · rw [if_neg c1] at h
    exact x_vret hx hb hr hlocks hK hP hS h dX12_unit_108
def fn_X12_unit_2 : Nat → Int32 → St → Option (St)
  | 0, _, _ => none
  | n + 1, v1, z => (if v1 = 0 then fn_X12_unit_101    z else (if (z.1 172 2) = 0 then bd (fn_X12_isWord  7237492 z) (fun r4 z5 => (if r4 = 0 then fn_X12_unit_53  (fn_X12_unit_2   n) v1 z5 else bd (fn_X12_mayNot   z5) (fun r8 z9 => (if r8 = 0 then fn_X12_unit_53  (fn_X12_unit_2   n) v1 z9 else (if (z9.1 172 25) ≤ 6 then fn_X12_unit_44  (fn_X12_unit_2   n) v1 z9 else bv (fn_X12_wrong  2 z9) (fun z13 => fn_X12_unit_44  (fn_X12_unit_2   n) v1 z13)))))) else fn_X12_unit_101    z))
set_option maxHeartbeats 4000000 in
set_option maxRecDepth 100000 in
theorem pf_X12_unit_2 {p : Program} {l : Launch} {e : Env} {s : State} {m : MethodId} {args : Array Value} {below : List Frame} {meth : Method} {c : Code} {G : wG} (C : CX p s m args meth c cX12_unit 3 (wsU yX12_unit cX12_unit 3 none) RX12 none G) {Rz : St} : ∀ (n : Nat) (v1 : Int32) (z : St)  (H : Heap) (locs : List Loc) (ls : Array Slot), WP G z H → va_S (AW G) s.heap H locs → lv_has ls 3 [(0, .ref (G.2.2 172)), (1, .int v1)] → fn_X12_unit_2   n v1 z = some Rz → W p l e (rmd 4) s m args below meth c H locs 0 0 (QV below args s G Rz) (F0 m 2 ls []) := by
  obtain ⟨hx, hb, hml, hown, hts, hr, hlocks, hK, hG⟩ := id C
  intro n
  induction n with
  | zero => intro v1 z  H locs ls hP hS hl h; cases h
  | succ n ih =>
    intro v1 z  H locs ls hP hS hl h
    rw [fn_X12_unit_2] at h
    refine lv_iload_n hx hb dX12_unit_2 rfl (lv_at hl 1 rfl) ?_
    refine lv_if_eq (tgt := 101) hx hb dX12_unit_3 (by decide) (fun c1 => ?_) (fun c1 => ?_)
    · rw [if_pos c1] at h
      exact pf_X12_unit_101 C    z  hP hS (lv_sub hl [0] rfl) h
    · rw [if_neg c1] at h
      refine lv_aload_n hx hb dX12_unit_6 rfl (lv_at hl 0 rfl) ?_
      refine ge_12_2 hx hb hts (inU inW_X12) hown hK hP k_172 (hts _ (List.mem_cons_of_mem _ lw_1436)) dX12_unit_7 ?_
      refine lv_if_ne (tgt := 101) hx hb dX12_unit_10 (by decide) (fun c2 => ?_) (fun c2 => ?_)
      · rw [if_neg c2] at h
        exact pf_X12_unit_101 C    z  hP hS (lv_sub hl [0] rfl) h
      · rw [if_pos c2] at h
        refine lv_aload_n hx hb dX12_unit_13 rfl (lv_at hl 0 rfl) ?_
        refine lv_ldc2 (v := 7237492) hx hb hown (hts _ (List.mem_cons_of_mem _ lw_1739)) dX12_unit_14 ?_
        obtain ⟨r4, z5, h3, h⟩ := bd_s h
        refine x_Vi (Rz := (r4, z5)) (As := [.long 7237492]) (rest := []) ⟨hx, hb, hml, hown, hts⟩ hK hP hS (kd_lt k_172 (by decide)) (cell_12 k_172) rfl (m_X12_isWord hG   h3) (cwV 1 hts (gV lw_1702 lw_1704 lw_49 lw_125 lw_1705) rfl rfl rfl (by decide +kernel) (rmd_ok (by decide) (by decide))) rfl hl.1 rfl (Nat.le_of_ble_eq_true rfl) dX12_unit_17 ⟨Nat.le_refl _, Nat.le_refl _⟩ (fun H locs hP hS => ?_)
        refine lv_if_eq (tgt := 53) hx hb dX12_unit_20 (by decide) (fun c6 => ?_) (fun c6 => ?_)
        · rw [if_pos c6] at h
          exact pf_X12_unit_53 C  ih v1 z5  hP hS (lv_sub hl [0, 1] rfl) h
        · rw [if_neg c6] at h
          refine lv_aload_n hx hb dX12_unit_23 rfl (lv_at hl 0 rfl) ?_
          obtain ⟨r8, z9, h7, h⟩ := bd_s h
          refine x_Vi (Rz := (r8, z9)) (As := []) (rest := []) ⟨hx, hb, hml, hown, hts⟩ hK hP hS (kd_lt k_172 (by decide)) (cell_12 k_172) rfl (m_X12_mayNot hG   h7) (cwV 0 hts (gV lw_1772 lw_1774 lw_62 lw_125 lw_1775) rfl rfl rfl (by decide +kernel) (rmd_ok (by decide) (by decide))) rfl hl.1 rfl (Nat.le_of_ble_eq_true rfl) dX12_unit_24 ⟨Nat.le_refl _, Nat.le_refl _⟩ (fun H locs hP hS => ?_)
          refine lv_if_eq (tgt := 53) hx hb dX12_unit_27 (by decide) (fun c10 => ?_) (fun c10 => ?_)
          · rw [if_pos c10] at h
            exact pf_X12_unit_53 C  ih v1 z9  hP hS (lv_sub hl [0, 1] rfl) h
          · rw [if_neg c10] at h
            refine lv_aload_n hx hb dX12_unit_30 rfl (lv_at hl 0 rfl) ?_
            refine ge_12_25 hx hb hts (inU inW_X12) hown hK hP k_172 (hts _ (List.mem_cons_of_mem _ lw_1459)) dX12_unit_31 ?_
            refine lv_bipush (v := 6) hx hb dX12_unit_34 (by decide) ?_
            refine lv_icmp_le (tgt := 44) hx hb dX12_unit_36 (by decide) (fun c11 => ?_) (fun c11 => ?_)
            · rw [if_pos c11] at h
              exact pf_X12_unit_44 C  ih v1 z9  hP hS (lv_sub hl [0, 1] rfl) h
            · rw [if_neg c11] at h
              refine lv_aload_n hx hb dX12_unit_39 rfl (lv_at hl 0 rfl) ?_
              refine lv_iconst (v := 2) hx hb dX12_unit_40 (by decide) ?_
              obtain ⟨z13, h12, h⟩ := bv_s h
              refine x_Vv (Rz := z13) (As := [.int 2]) (rest := []) ⟨hx, hb, hml, hown, hts⟩ hK hP hS (kd_lt k_172 (by decide)) (cell_12 k_172) rfl (m_X12_wrong hG   h12) (cwV 1 hts (gV lw_1740 lw_1742 lw_54 lw_125 lw_1743) rfl rfl rfl (by decide +kernel) (rmd_ok (by decide) (by decide))) rfl hl.1 rfl (Nat.le_of_ble_eq_true rfl) dX12_unit_41 ⟨Nat.le_refl _, Nat.le_refl _⟩ (fun H locs hP hS => ?_)
              exact pf_X12_unit_44 C  ih v1 z13  hP hS (lv_sub hl [0, 1] rfl) h
def fn_X12_unit  (z : St) : Option (St) := fn_X12_unit_2   fu 1 z
set_option maxHeartbeats 4000000 in
set_option maxRecDepth 100000 in
theorem m_X12_unit {l : Launch} {G : wG} (hG : Ok G)  {z : St} {Rz : St}  (h : fn_X12_unit   z = some Rz) : Met l yX12_unit (wsU yX12_unit cX12_unit 3 none) (rmd 4) (va_Pc [.ref (G.2.2 172)] (Pre G z)) (va_Qv (fun u => u = Rz) (Pre G) (AW G)) 0 0 (AW G) := by
  refine Met.ofW (cc := cX12_unit) (maxL := 3) (ret := none) (by decide) rfl ?_
  intro p e s m args below meth c s₁ B hml hv
  obtain ⟨rfl, hP, hK⟩ := hv
  have C : CX p s m ([.ref (G.2.2 172)] : List Value).toArray meth c cX12_unit 3 (wsU yX12_unit cX12_unit 3 none) RX12 none G := ⟨B.exec, B.bytes, hml, findClass_of_methodNamed B.named, atoms_spec (ws := (wsU yX12_unit cX12_unit 3 none)) B.pre, B.returns, B.notSynchronized, hK, hG⟩
  obtain ⟨hx, hb, -, hown, hts, hr, hlocks, -, -⟩ := id C
  have hS : va_S (AW G) s.heap s.heap [] := va_S.rf
  have hl := lv_entry [.ref (G.2.2 172)] (n := 3) (Nat.le_of_ble_eq_true rfl)
  rw [lg_entry_eq]
  generalize (lg_sl [.ref (G.2.2 172)] ++ List.replicate (3 - (lg_sl [.ref (G.2.2 172)]).length) Slot.unset).toArray = ls at hl ⊢
  have hl : lv_has ls 3 [(0, .ref (G.2.2 172))] := hl
  unfold fn_X12_unit at h
  refine lv_iconst (v := 1) hx hb dX12_unit_0 (by decide) ?_
  refine lv_istore_n (lv' := [(1, .int 1), (0, .ref (G.2.2 172))]) hx hb dX12_unit_1 rfl hl (by decide) rfl (fun ls hl => ?_)
  exact pf_X12_unit_2 C   fu 1 z  _ _ _ hP hS (lv_sub hl [1, 0] rfl) h
def fn_X12_sign  (z : St) : Option (Int32 × St) := bd (fn_X12_isWord  6385252 z) (fun r2 z3 => (if r2 = 0 then bd (fn_X12_isWord  28530 z3) (fun r6 z7 => (if r6 = 0 then (if (z7.1 172 6) = 60 then some ((z7.1 172 6), z7) else (if (z7.1 172 6) = 62 then some ((z7.1 172 6), z7) else (if (z7.1 172 6) = 61 then some ((z7.1 172 6), z7) else (if (z7.1 172 6) = 43 then some ((z7.1 172 6), z7) else (if (z7.1 172 6) = 45 then some ((z7.1 172 6), z7) else (if (z7.1 172 6) = 42 then some ((z7.1 172 6), z7) else (if (z7.1 172 6) = 47 then some ((z7.1 172 6), z7) else (if (z7.1 172 6) = 37 then some ((z7.1 172 6), z7) else some (0, z7))))))))) else some (124, z7))) else some (38, z3)))
set_option maxHeartbeats 4000000 in
set_option maxRecDepth 100000 in
theorem m_X12_sign {l : Launch} {G : wG} (hG : Ok G)  {z : St} {Rz : Int32 × St}  (h : fn_X12_sign   z = some Rz) : Met l yX12_sign (wsU yX12_sign cX12_sign 1 (some .int)) (rmd 2) (va_Pc [.ref (G.2.2 172)] (Pre G z)) (va_Qi (fun r u => (r, u) = Rz) (Pre G) (AW G)) 0 0 (AW G) := by
  refine Met.ofW (cc := cX12_sign) (maxL := 1) (ret := (some .int)) (by decide) rfl ?_
  intro p e s m args below meth c s₁ B hml hv
  obtain ⟨rfl, hP, hK⟩ := hv
  have C : CX p s m ([.ref (G.2.2 172)] : List Value).toArray meth c cX12_sign 1 (wsU yX12_sign cX12_sign 1 (some .int)) RX12 (some .int) G := ⟨B.exec, B.bytes, hml, findClass_of_methodNamed B.named, atoms_spec (ws := (wsU yX12_sign cX12_sign 1 (some .int))) B.pre, B.returns, B.notSynchronized, hK, hG⟩
  obtain ⟨hx, hb, -, hown, hts, hr, hlocks, -, -⟩ := id C
  have hS : va_S (AW G) s.heap s.heap [] := va_S.rf
  have hl := lv_entry [.ref (G.2.2 172)] (n := 1) (Nat.le_of_ble_eq_true rfl)
  rw [lg_entry_eq]
  generalize (lg_sl [.ref (G.2.2 172)] ++ List.replicate (1 - (lg_sl [.ref (G.2.2 172)]).length) Slot.unset).toArray = ls at hl ⊢
  have hl : lv_has ls 1 [(0, .ref (G.2.2 172))] := hl
  unfold fn_X12_sign at h
  refine lv_aload_n hx hb dX12_sign_0 rfl (lv_at hl 0 rfl) ?_
  refine lv_ldc2 (v := 6385252) hx hb hown (hts _ (List.mem_cons_of_mem _ lw_1737)) dX12_sign_1 ?_
  obtain ⟨r2, z3, h1, h⟩ := bd_s h
  refine x_Vi (Rz := (r2, z3)) (As := [.long 6385252]) (rest := []) ⟨hx, hb, hml, hown, hts⟩ hK hP hS (kd_lt k_172 (by decide)) (cell_12 k_172) rfl (m_X12_isWord hG   h1) (cwV 1 hts (gV lw_1702 lw_1704 lw_49 lw_125 lw_1705) rfl rfl rfl (by decide +kernel) (rmd_ok (by decide) (by decide))) rfl hl.1 rfl (Nat.le_of_ble_eq_true rfl) dX12_sign_4 ⟨Nat.le_refl _, Nat.le_refl _⟩ (fun H locs hP hS => ?_)
  refine lv_if_eq (tgt := 13) hx hb dX12_sign_7 (by decide) (fun c4 => ?_) (fun c4 => ?_)
  · rw [if_pos c4] at h
    refine lv_aload_n hx hb dX12_sign_13 rfl (lv_at hl 0 rfl) ?_
    refine lv_ldc2 (v := 28530) hx hb hown (hts _ (List.mem_cons_of_mem _ lw_1738)) dX12_sign_14 ?_
    obtain ⟨r6, z7, h5, h⟩ := bd_s h
    refine x_Vi (Rz := (r6, z7)) (As := [.long 28530]) (rest := []) ⟨hx, hb, hml, hown, hts⟩ hK hP hS (kd_lt k_172 (by decide)) (cell_12 k_172) rfl (m_X12_isWord hG   h5) (cwV 1 hts (gV lw_1702 lw_1704 lw_49 lw_125 lw_1705) rfl rfl rfl (by decide +kernel) (rmd_ok (by decide) (by decide))) rfl hl.1 rfl (Nat.le_of_ble_eq_true rfl) dX12_sign_17 ⟨Nat.le_refl _, Nat.le_refl _⟩ (fun H locs hP hS => ?_)
    refine lv_if_eq (tgt := 26) hx hb dX12_sign_20 (by decide) (fun c8 => ?_) (fun c8 => ?_)
    · rw [if_pos c8] at h
      refine lv_aload_n hx hb dX12_sign_26 rfl (lv_at hl 0 rfl) ?_
      refine ge_12_6 hx hb hts (inU inW_X12) hown hK hP k_172 (hts _ (List.mem_cons_of_mem _ lw_1440)) dX12_sign_27 ?_
      refine lv_bipush (v := 60) hx hb dX12_sign_30 (by decide) ?_
      refine lv_icmp_eq (tgt := 98) hx hb dX12_sign_32 (by decide) (fun c9 => ?_) (fun c9 => ?_)
      · rw [if_pos c9] at h
        refine lv_aload_n hx hb dX12_sign_98 rfl (lv_at hl 0 rfl) ?_
        refine ge_12_6 hx hb hts (inU inW_X12) hown hK hP k_172 (hts _ (List.mem_cons_of_mem _ lw_1440)) dX12_sign_99 ?_
        refine lv_goto (tgt := 106) hx hb dX12_sign_102 (by decide) ?_
        exact x_iret hx hb hr hlocks hK hP hS h dX12_sign_106
      · rw [if_neg c9] at h
        refine lv_aload_n hx hb dX12_sign_35 rfl (lv_at hl 0 rfl) ?_
        refine ge_12_6 hx hb hts (inU inW_X12) hown hK hP k_172 (hts _ (List.mem_cons_of_mem _ lw_1440)) dX12_sign_36 ?_
        refine lv_bipush (v := 62) hx hb dX12_sign_39 (by decide) ?_
        refine lv_icmp_eq (tgt := 98) hx hb dX12_sign_41 (by decide) (fun c10 => ?_) (fun c10 => ?_)
        · rw [if_pos c10] at h
          refine lv_aload_n hx hb dX12_sign_98 rfl (lv_at hl 0 rfl) ?_
          refine ge_12_6 hx hb hts (inU inW_X12) hown hK hP k_172 (hts _ (List.mem_cons_of_mem _ lw_1440)) dX12_sign_99 ?_
          refine lv_goto (tgt := 106) hx hb dX12_sign_102 (by decide) ?_
          exact x_iret hx hb hr hlocks hK hP hS h dX12_sign_106
        · rw [if_neg c10] at h
          refine lv_aload_n hx hb dX12_sign_44 rfl (lv_at hl 0 rfl) ?_
          refine ge_12_6 hx hb hts (inU inW_X12) hown hK hP k_172 (hts _ (List.mem_cons_of_mem _ lw_1440)) dX12_sign_45 ?_
          refine lv_bipush (v := 61) hx hb dX12_sign_48 (by decide) ?_
          refine lv_icmp_eq (tgt := 98) hx hb dX12_sign_50 (by decide) (fun c11 => ?_) (fun c11 => ?_)
          · rw [if_pos c11] at h
            refine lv_aload_n hx hb dX12_sign_98 rfl (lv_at hl 0 rfl) ?_
            refine ge_12_6 hx hb hts (inU inW_X12) hown hK hP k_172 (hts _ (List.mem_cons_of_mem _ lw_1440)) dX12_sign_99 ?_
            refine lv_goto (tgt := 106) hx hb dX12_sign_102 (by decide) ?_
            exact x_iret hx hb hr hlocks hK hP hS h dX12_sign_106
          · rw [if_neg c11] at h
            refine lv_aload_n hx hb dX12_sign_53 rfl (lv_at hl 0 rfl) ?_
            refine ge_12_6 hx hb hts (inU inW_X12) hown hK hP k_172 (hts _ (List.mem_cons_of_mem _ lw_1440)) dX12_sign_54 ?_
            refine lv_bipush (v := 43) hx hb dX12_sign_57 (by decide) ?_
            refine lv_icmp_eq (tgt := 98) hx hb dX12_sign_59 (by decide) (fun c12 => ?_) (fun c12 => ?_)
            · rw [if_pos c12] at h
              refine lv_aload_n hx hb dX12_sign_98 rfl (lv_at hl 0 rfl) ?_
              refine ge_12_6 hx hb hts (inU inW_X12) hown hK hP k_172 (hts _ (List.mem_cons_of_mem _ lw_1440)) dX12_sign_99 ?_
              refine lv_goto (tgt := 106) hx hb dX12_sign_102 (by decide) ?_
              exact x_iret hx hb hr hlocks hK hP hS h dX12_sign_106
            · rw [if_neg c12] at h
              refine lv_aload_n hx hb dX12_sign_62 rfl (lv_at hl 0 rfl) ?_
              refine ge_12_6 hx hb hts (inU inW_X12) hown hK hP k_172 (hts _ (List.mem_cons_of_mem _ lw_1440)) dX12_sign_63 ?_
              refine lv_bipush (v := 45) hx hb dX12_sign_66 (by decide) ?_
              refine lv_icmp_eq (tgt := 98) hx hb dX12_sign_68 (by decide) (fun c13 => ?_) (fun c13 => ?_)
              · rw [if_pos c13] at h
                refine lv_aload_n hx hb dX12_sign_98 rfl (lv_at hl 0 rfl) ?_
                refine ge_12_6 hx hb hts (inU inW_X12) hown hK hP k_172 (hts _ (List.mem_cons_of_mem _ lw_1440)) dX12_sign_99 ?_
                refine lv_goto (tgt := 106) hx hb dX12_sign_102 (by decide) ?_
                exact x_iret hx hb hr hlocks hK hP hS h dX12_sign_106
              · rw [if_neg c13] at h
                refine lv_aload_n hx hb dX12_sign_71 rfl (lv_at hl 0 rfl) ?_
                refine ge_12_6 hx hb hts (inU inW_X12) hown hK hP k_172 (hts _ (List.mem_cons_of_mem _ lw_1440)) dX12_sign_72 ?_
                refine lv_bipush (v := 42) hx hb dX12_sign_75 (by decide) ?_
                refine lv_icmp_eq (tgt := 98) hx hb dX12_sign_77 (by decide) (fun c14 => ?_) (fun c14 => ?_)
                · rw [if_pos c14] at h
                  refine lv_aload_n hx hb dX12_sign_98 rfl (lv_at hl 0 rfl) ?_
                  refine ge_12_6 hx hb hts (inU inW_X12) hown hK hP k_172 (hts _ (List.mem_cons_of_mem _ lw_1440)) dX12_sign_99 ?_
                  refine lv_goto (tgt := 106) hx hb dX12_sign_102 (by decide) ?_
                  exact x_iret hx hb hr hlocks hK hP hS h dX12_sign_106
                · rw [if_neg c14] at h
                  refine lv_aload_n hx hb dX12_sign_80 rfl (lv_at hl 0 rfl) ?_
                  refine ge_12_6 hx hb hts (inU inW_X12) hown hK hP k_172 (hts _ (List.mem_cons_of_mem _ lw_1440)) dX12_sign_81 ?_
                  refine lv_bipush (v := 47) hx hb dX12_sign_84 (by decide) ?_
                  refine lv_icmp_eq (tgt := 98) hx hb dX12_sign_86 (by decide) (fun c15 => ?_) (fun c15 => ?_)
                  · rw [if_pos c15] at h
                    refine lv_aload_n hx hb dX12_sign_98 rfl (lv_at hl 0 rfl) ?_
                    refine ge_12_6 hx hb hts (inU inW_X12) hown hK hP k_172 (hts _ (List.mem_cons_of_mem _ lw_1440)) dX12_sign_99 ?_
                    refine lv_goto (tgt := 106) hx hb dX12_sign_102 (by decide) ?_
                    exact x_iret hx hb hr hlocks hK hP hS h dX12_sign_106
                  · rw [if_neg c15] at h
                    refine lv_aload_n hx hb dX12_sign_89 rfl (lv_at hl 0 rfl) ?_
                    refine ge_12_6 hx hb hts (inU inW_X12) hown hK hP k_172 (hts _ (List.mem_cons_of_mem _ lw_1440)) dX12_sign_90 ?_
                    refine lv_bipush (v := 37) hx hb dX12_sign_93 (by decide) ?_
                    refine lv_icmp_ne (tgt := 105) hx hb dX12_sign_95 (by decide) (fun c16 => ?_) (fun c16 => ?_)
                    · rw [if_neg c16] at h
                      refine lv_iconst (v := 0) hx hb dX12_sign_105 (by decide) ?_
                      exact x_iret hx hb hr hlocks hK hP hS h dX12_sign_106
                    · rw [if_pos c16] at h
                      refine lv_aload_n hx hb dX12_sign_98 rfl (lv_at hl 0 rfl) ?_
                      refine ge_12_6 hx hb hts (inU inW_X12) hown hK hP k_172 (hts _ (List.mem_cons_of_mem _ lw_1440)) dX12_sign_99 ?_
                      refine lv_goto (tgt := 106) hx hb dX12_sign_102 (by decide) ?_
                      exact x_iret hx hb hr hlocks hK hP hS h dX12_sign_106
    · rw [if_neg c8] at h
      refine lv_bipush (v := 124) hx hb dX12_sign_23 (by decide) ?_
      exact x_iret hx hb hr hlocks hK hP hS h dX12_sign_25
  · rw [if_neg c4] at h
    refine lv_bipush (v := 38) hx hb dX12_sign_10 (by decide) ?_
    exact x_iret hx hb hr hlocks hK hP hS h dX12_sign_12
def fn_X12_hasBracket_32 (k4 : Int32 → Int32 → St → Option (Int32 × St)) (v2 : Int32) (tv0 : Int32) (z : St) : Option (Int32 × St) := k4 tv0 (v2 + 1) z
set_option maxHeartbeats 4000000 in
set_option maxRecDepth 100000 in
theorem pf_X12_hasBracket_32 {p : Program} {l : Launch} {e : Env} {s : State} {m : MethodId} {args : Array Value} {below : List Frame} {meth : Method} {c : Code} {G : wG} (C : CX p s m args meth c cX12_hasBracket 3 (wsU yX12_hasBracket cX12_hasBracket 3 (some .boolean)) RX12 (some .boolean) G) {Rz : Int32 × St} {k4 : Int32 → Int32 → St → Option (Int32 × St)} (hk_4 : ∀ (v1 : Int32) (v2 : Int32) (z : St)  (H : Heap) (locs : List Loc) (ls : Array Slot), WP G z H → va_S (AW G) s.heap H locs → lv_has ls 3 [(0, .ref (G.2.2 172)), (1, .int v1), (2, .int v2)] → k4 v1 v2 z = some Rz → W p l e (rmd 1) s m args below meth c H locs 0 0 (QI below args s G Rz) (F0 m 4 ls [])) (v2 : Int32) (tv0 : Int32) (z : St)  {H : Heap} {locs : List Loc} {ls : Array Slot} (hP : WP G z H) (hS : va_S (AW G) s.heap H locs) (hl : lv_has ls 3 [(0, .ref (G.2.2 172)), (2, .int v2)]) (h : fn_X12_hasBracket_32  k4 v2 tv0 z = some Rz) : W p l e (rmd 1) s m args below meth c H locs 0 0 (QI below args s G Rz) (F0 m 32 ls [.int tv0]) := by
  obtain ⟨hx, hb, hml, hown, hts, hr, hlocks, hK, hG⟩ := id C
  unfold fn_X12_hasBracket_32 at h
  refine lv_istore_n (lv' := [(1, .int tv0), (0, .ref (G.2.2 172)), (2, .int v2)]) hx hb dX12_hasBracket_32 rfl hl (by decide) rfl (fun ls hl => ?_)
  refine lv_iinc (v := (v2 + 1)) (lv' := [(2, .int (v2 + 1)), (1, .int tv0), (0, .ref (G.2.2 172))]) hx hb dX12_hasBracket_33 hl (k := 2) rfl rfl (by decide) rfl (fun ls hl => ?_)
  refine lv_goto (tgt := 4) hx hb dX12_hasBracket_36 (by decide) ?_
  exact hk_4 tv0 (v2 + 1) z  _ _ _ hP hS (lv_sub hl [2, 1, 0] rfl) h
def fn_X12_hasBracket_27 (k4 : Int32 → Int32 → St → Option (Int32 × St)) (v2 : Int32) (z : St) : Option (Int32 × St) := fn_X12_hasBracket_32  k4 v2 1 z
set_option maxHeartbeats 4000000 in
set_option maxRecDepth 100000 in
theorem pf_X12_hasBracket_27 {p : Program} {l : Launch} {e : Env} {s : State} {m : MethodId} {args : Array Value} {below : List Frame} {meth : Method} {c : Code} {G : wG} (C : CX p s m args meth c cX12_hasBracket 3 (wsU yX12_hasBracket cX12_hasBracket 3 (some .boolean)) RX12 (some .boolean) G) {Rz : Int32 × St} {k4 : Int32 → Int32 → St → Option (Int32 × St)} (hk_4 : ∀ (v1 : Int32) (v2 : Int32) (z : St)  (H : Heap) (locs : List Loc) (ls : Array Slot), WP G z H → va_S (AW G) s.heap H locs → lv_has ls 3 [(0, .ref (G.2.2 172)), (1, .int v1), (2, .int v2)] → k4 v1 v2 z = some Rz → W p l e (rmd 1) s m args below meth c H locs 0 0 (QI below args s G Rz) (F0 m 4 ls [])) (v2 : Int32) (z : St)  {H : Heap} {locs : List Loc} {ls : Array Slot} (hP : WP G z H) (hS : va_S (AW G) s.heap H locs) (hl : lv_has ls 3 [(0, .ref (G.2.2 172)), (2, .int v2)]) (h : fn_X12_hasBracket_27  k4 v2 z = some Rz) : W p l e (rmd 1) s m args below meth c H locs 0 0 (QI below args s G Rz) (F0 m 27 ls []) := by
  obtain ⟨hx, hb, hml, hown, hts, hr, hlocks, hK, hG⟩ := id C
  unfold fn_X12_hasBracket_27 at h
  refine lv_iconst (v := 1) hx hb dX12_hasBracket_27 (by decide) ?_
  refine lv_goto (tgt := 32) hx hb dX12_hasBracket_28 (by decide) ?_
  exact pf_X12_hasBracket_32 C  hk_4 v2 1 z  hP hS (lv_sub hl [0, 1] rfl) h
def fn_X12_hasBracket_4 : Nat → Int32 → Int32 → St → Option (Int32 × St)
  | 0, _, _, _ => none
  | n + 1, v1, v2, z => (if (z.1 172 21) ≤ v2 then gd (zok v1) (some (v1, z)) else (if v1 = 0 then gd (ix v2 160) ((if (z.1 181 (Int32.toNatClampNeg v2)) = 20 then fn_X12_hasBracket_27  (fn_X12_hasBracket_4   n) v2 z else fn_X12_hasBracket_32  (fn_X12_hasBracket_4   n) v2 0 z)) else fn_X12_hasBracket_27  (fn_X12_hasBracket_4   n) v2 z))
set_option maxHeartbeats 4000000 in
set_option maxRecDepth 100000 in
theorem pf_X12_hasBracket_4 {p : Program} {l : Launch} {e : Env} {s : State} {m : MethodId} {args : Array Value} {below : List Frame} {meth : Method} {c : Code} {G : wG} (C : CX p s m args meth c cX12_hasBracket 3 (wsU yX12_hasBracket cX12_hasBracket 3 (some .boolean)) RX12 (some .boolean) G) {Rz : Int32 × St} : ∀ (n : Nat) (v1 : Int32) (v2 : Int32) (z : St)  (H : Heap) (locs : List Loc) (ls : Array Slot), WP G z H → va_S (AW G) s.heap H locs → lv_has ls 3 [(0, .ref (G.2.2 172)), (1, .int v1), (2, .int v2)] → fn_X12_hasBracket_4   n v1 v2 z = some Rz → W p l e (rmd 1) s m args below meth c H locs 0 0 (QI below args s G Rz) (F0 m 4 ls []) := by
  obtain ⟨hx, hb, hml, hown, hts, hr, hlocks, hK, hG⟩ := id C
  intro n
  induction n with
  | zero => intro v1 v2 z  H locs ls hP hS hl h; cases h
  | succ n ih =>
    intro v1 v2 z  H locs ls hP hS hl h
    rw [fn_X12_hasBracket_4] at h
    refine lv_iload_n hx hb dX12_hasBracket_4 rfl (lv_at hl 2 rfl) ?_
    refine lv_aload_n hx hb dX12_hasBracket_5 rfl (lv_at hl 0 rfl) ?_
    refine ge_12_21 hx hb hts (inU inW_X12) hown hK hP k_172 (hts _ (List.mem_cons_of_mem _ lw_1455)) dX12_hasBracket_6 ?_
    refine lv_icmp_ge (tgt := 39) hx hb dX12_hasBracket_9 (by decide) (fun c1 => ?_) (fun c1 => ?_)
    · rw [if_pos c1] at h
      refine lv_iload_n hx hb dX12_hasBracket_39 rfl (lv_at hl 1 rfl) ?_
      obtain ⟨g2, h⟩ := gd_s h
      exact x_zret hx hb hr hlocks hK hP hS g2 h dX12_hasBracket_40
    · rw [if_neg c1] at h
      refine lv_iload_n hx hb dX12_hasBracket_12 rfl (lv_at hl 1 rfl) ?_
      refine lv_if_ne (tgt := 27) hx hb dX12_hasBracket_13 (by decide) (fun c3 => ?_) (fun c3 => ?_)
      · rw [if_neg c3] at h
        exact pf_X12_hasBracket_27 C  ih v2 z  hP hS (lv_sub hl [0, 2] rfl) h
      · rw [if_pos c3] at h
        refine lv_aload_n hx hb dX12_hasBracket_16 rfl (lv_at hl 0 rfl) ?_
        refine ge_12_17 hx hb hts (inU inW_X12) hown hK hP k_172 (hts _ (List.mem_cons_of_mem _ lw_1451)) dX12_hasBracket_17 ?_
        refine lv_iload_n hx hb dX12_hasBracket_20 rfl (lv_at hl 2 rfl) ?_
        obtain ⟨g4, h⟩ := gd_s h
        refine xl_14 hx hb hK hP k_181 l_181 (ix_in g4) dX12_hasBracket_21 ?_
        refine lv_bipush (v := 20) hx hb dX12_hasBracket_22 (by decide) ?_
        refine lv_icmp_ne (tgt := 31) hx hb dX12_hasBracket_24 (by decide) (fun c5 => ?_) (fun c5 => ?_)
        · rw [if_neg c5] at h
          refine lv_iconst (v := 0) hx hb dX12_hasBracket_31 (by decide) ?_
          exact pf_X12_hasBracket_32 C  ih v2 0 z  hP hS (lv_sub hl [0, 2] rfl) h
        · rw [if_pos c5] at h
          exact pf_X12_hasBracket_27 C  ih v2 z  hP hS (lv_sub hl [0, 2] rfl) h
def fn_X12_hasBracket  (z : St) : Option (Int32 × St) := fn_X12_hasBracket_4   fu 0 0 z
set_option maxHeartbeats 4000000 in
set_option maxRecDepth 100000 in
theorem m_X12_hasBracket {l : Launch} {G : wG} (hG : Ok G)  {z : St} {Rz : Int32 × St}  (h : fn_X12_hasBracket   z = some Rz) : Met l yX12_hasBracket (wsU yX12_hasBracket cX12_hasBracket 3 (some .boolean)) (rmd 1) (va_Pc [.ref (G.2.2 172)] (Pre G z)) (va_Qi (fun r u => (r, u) = Rz) (Pre G) (AW G)) 0 0 (AW G) := by
  refine Met.ofW (cc := cX12_hasBracket) (maxL := 3) (ret := (some .boolean)) (by decide) rfl ?_
  intro p e s m args below meth c s₁ B hml hv
  obtain ⟨rfl, hP, hK⟩ := hv
  have C : CX p s m ([.ref (G.2.2 172)] : List Value).toArray meth c cX12_hasBracket 3 (wsU yX12_hasBracket cX12_hasBracket 3 (some .boolean)) RX12 (some .boolean) G := ⟨B.exec, B.bytes, hml, findClass_of_methodNamed B.named, atoms_spec (ws := (wsU yX12_hasBracket cX12_hasBracket 3 (some .boolean))) B.pre, B.returns, B.notSynchronized, hK, hG⟩
  obtain ⟨hx, hb, -, hown, hts, hr, hlocks, -, -⟩ := id C
  have hS : va_S (AW G) s.heap s.heap [] := va_S.rf
  have hl := lv_entry [.ref (G.2.2 172)] (n := 3) (Nat.le_of_ble_eq_true rfl)
  rw [lg_entry_eq]
  generalize (lg_sl [.ref (G.2.2 172)] ++ List.replicate (3 - (lg_sl [.ref (G.2.2 172)]).length) Slot.unset).toArray = ls at hl ⊢
  have hl : lv_has ls 3 [(0, .ref (G.2.2 172))] := hl
  unfold fn_X12_hasBracket at h
  refine lv_iconst (v := 0) hx hb dX12_hasBracket_0 (by decide) ?_
  refine lv_istore_n (lv' := [(1, .int 0), (0, .ref (G.2.2 172))]) hx hb dX12_hasBracket_1 rfl hl (by decide) rfl (fun ls hl => ?_)
  refine lv_iconst (v := 0) hx hb dX12_hasBracket_2 (by decide) ?_
  refine lv_istore_n (lv' := [(2, .int 0), (1, .int 0), (0, .ref (G.2.2 172))]) hx hb dX12_hasBracket_3 rfl hl (by decide) rfl (fun ls hl => ?_)
  exact pf_X12_hasBracket_4 C   fu 0 0 z  _ _ _ hP hS (lv_sub hl [2, 1, 0] rfl) h
def fn_X12_formula_174 (k50 : Int32 → St → Option (St)) (v2 : Int32) (z : St) : Option (St) := k50 v2 z
set_option maxHeartbeats 4000000 in
set_option maxRecDepth 100000 in
theorem pf_X12_formula_174 {p : Program} {l : Launch} {e : Env} {s : State} {m : MethodId} {args : Array Value} {below : List Frame} {meth : Method} {c : Code} {G : wG} (C : CX p s m args meth c cX12_formula 4 (wsU yX12_formula cX12_formula 4 none) RX12 none G) {Rz : St} {k50 : Int32 → St → Option (St)} (hk_50 : ∀ (v2 : Int32) (z : St)  (H : Heap) (locs : List Loc) (ls : Array Slot), WP G z H → va_S (AW G) s.heap H locs → lv_has ls 4 [(0, .ref (G.2.2 172)), (2, .int v2)] → k50 v2 z = some Rz → W p l e (rmd 5) s m args below meth c H locs 0 0 (QV below args s G Rz) (F0 m 50 ls [])) (v2 : Int32) (z : St)  {H : Heap} {locs : List Loc} {ls : Array Slot} (hP : WP G z H) (hS : va_S (AW G) s.heap H locs) (hl : lv_has ls 4 [(0, .ref (G.2.2 172)), (2, .int v2)]) (h : fn_X12_formula_174  k50 v2 z = some Rz) : W p l e (rmd 5) s m args below meth c H locs 0 0 (QV below args s G Rz) (F0 m 174 ls []) := by
  obtain ⟨hx, hb, hml, hown, hts, hr, hlocks, hK, hG⟩ := id C
  unfold fn_X12_formula_174 at h
  refine lv_goto (tgt := 50) hx hb dX12_formula_174 (by decide) ?_
  exact hk_50 v2 z  _ _ _ hP hS (lv_sub hl [0, 1] rfl) h
def fn_X12_formula_133 (k50 : Int32 → St → Option (St)) (v2 : Int32) (v3 : Int32) (z : St) : Option (St) := bd (fn_X12_tight  v3 z) (fun r2 z3 => bv (fn_X12_close  r2 z3) (fun z5 => gd (ix (z5.1 172 21) 160) (nm (sI z5 181 (Int32.toNatClampNeg (z5.1 172 21)) v3) (fun z7 => nm (sI z7 172 21 ((z7.1 172 21) + 1)) (fun z8 => bv (fn_X12_token   z8) (fun z10 => bv (fn_X12_unit   z10) (fun z12 => fn_X12_formula_174  k50 v2 z12)))))))
set_option maxHeartbeats 4000000 in
set_option maxRecDepth 100000 in
theorem pf_X12_formula_133 {p : Program} {l : Launch} {e : Env} {s : State} {m : MethodId} {args : Array Value} {below : List Frame} {meth : Method} {c : Code} {G : wG} (C : CX p s m args meth c cX12_formula 4 (wsU yX12_formula cX12_formula 4 none) RX12 none G) {Rz : St} {k50 : Int32 → St → Option (St)} (hk_50 : ∀ (v2 : Int32) (z : St)  (H : Heap) (locs : List Loc) (ls : Array Slot), WP G z H → va_S (AW G) s.heap H locs → lv_has ls 4 [(0, .ref (G.2.2 172)), (2, .int v2)] → k50 v2 z = some Rz → W p l e (rmd 5) s m args below meth c H locs 0 0 (QV below args s G Rz) (F0 m 50 ls [])) (v2 : Int32) (v3 : Int32) (z : St)  {H : Heap} {locs : List Loc} {ls : Array Slot} (hP : WP G z H) (hS : va_S (AW G) s.heap H locs) (hl : lv_has ls 4 [(0, .ref (G.2.2 172)), (2, .int v2), (3, .int v3)]) (h : fn_X12_formula_133  k50 v2 v3 z = some Rz) : W p l e (rmd 5) s m args below meth c H locs 0 0 (QV below args s G Rz) (F0 m 133 ls []) := by
  obtain ⟨hx, hb, hml, hown, hts, hr, hlocks, hK, hG⟩ := id C
  unfold fn_X12_formula_133 at h
  refine lv_aload_n hx hb dX12_formula_133 rfl (lv_at hl 0 rfl) ?_
  refine lv_iload_n hx hb dX12_formula_134 rfl (lv_at hl 2 rfl) ?_
  obtain ⟨r2, z3, h1, h⟩ := bd_s h
  refine x_Si (Rz := (r2, z3)) (As := [.int v3]) (rest := [.ref (G.2.2 172)]) ⟨hx, hb, hml, hown, hts⟩ hK hP hS (m_X12_tight hG   h1) (va_cwS 1 hts (gS lw_1776 lw_1777 lw_125 lw_1778) rfl rfl rfl (by decide +kernel) (rmd_ok (by decide) (by decide))) rfl hl.1 rfl (Nat.le_of_ble_eq_true rfl) dX12_formula_135 ⟨Nat.le_refl _, Nat.le_refl _⟩ (fun H locs hP hS => ?_)
  obtain ⟨z5, h4, h⟩ := bv_s h
  refine x_Vv (Rz := z5) (As := [.int r2]) (rest := []) ⟨hx, hb, hml, hown, hts⟩ hK hP hS (kd_lt k_172 (by decide)) (cell_12 k_172) rfl (m_X12_close hG   h4) (cwV 1 hts (gV lw_1807 lw_1809 lw_70 lw_125 lw_1810) rfl rfl rfl (by decide +kernel) (rmd_ok (by decide) (by decide))) rfl hl.1 rfl (Nat.le_of_ble_eq_true rfl) dX12_formula_138 ⟨Nat.le_refl _, Nat.le_refl _⟩ (fun H locs hP hS => ?_)
  refine lv_aload_n hx hb dX12_formula_141 rfl (lv_at hl 0 rfl) ?_
  refine ge_12_17 hx hb hts (inU inW_X12) hown hK hP k_172 (hts _ (List.mem_cons_of_mem _ lw_1451)) dX12_formula_142 ?_
  refine lv_aload_n hx hb dX12_formula_145 rfl (lv_at hl 0 rfl) ?_
  refine ge_12_21 hx hb hts (inU inW_X12) hown hK hP k_172 (hts _ (List.mem_cons_of_mem _ lw_1455)) dX12_formula_146 ?_
  refine lv_iload_n hx hb dX12_formula_149 rfl (lv_at hl 2 rfl) ?_
  obtain ⟨g6, h⟩ := gd_s h
  obtain ⟨z7, e_z7, h⟩ := nm_s h
  refine xs_14 hx hb hK hG hP hS k_181 l_181 (ix_in g6) dX12_formula_150 (fun H locs hP hS => ?_)
  rw [← e_z7] at hP
  refine lv_aload_n hx hb dX12_formula_151 rfl (lv_at hl 0 rfl) ?_
  refine lv_dup hx hb dX12_formula_152 rfl ?_
  refine ge_12_21 hx hb hts (inU inW_X12) hown hK hP k_172 (hts _ (List.mem_cons_of_mem _ lw_1455)) dX12_formula_153 ?_
  refine lv_iconst (v := 1) hx hb dX12_formula_156 (by decide) ?_
  refine lv_iadd hx hb dX12_formula_157 ?_
  obtain ⟨z8, e_z8, h⟩ := nm_s h
  refine pu_12_21 hx hb hts (inU inW_X12) hown hK hG hP hS k_172 (hts _ (List.mem_cons_of_mem _ lw_1455)) dX12_formula_158 (fun H locs hP hS => ?_)
  rw [← e_z8] at hP
  refine lv_aload_n hx hb dX12_formula_161 rfl (lv_at hl 0 rfl) ?_
  obtain ⟨z10, h9, h⟩ := bv_s h
  refine x_Vv (Rz := z10) (As := []) (rest := []) ⟨hx, hb, hml, hown, hts⟩ hK hP hS (kd_lt k_172 (by decide)) (cell_12 k_172) rfl (m_X12_token hG   h9) (cwV 0 hts (gV lw_1680 lw_1682 lw_46 lw_125 lw_1683) rfl rfl rfl (by decide +kernel) (rmd_ok (by decide) (by decide))) rfl hl.1 rfl (Nat.le_of_ble_eq_true rfl) dX12_formula_162 ⟨Nat.le_refl _, Nat.le_refl _⟩ (fun H locs hP hS => ?_)
  refine lv_aload_n hx hb dX12_formula_165 rfl (lv_at hl 0 rfl) ?_
  obtain ⟨z12, h11, h⟩ := bv_s h
  refine x_Vv (Rz := z12) (As := []) (rest := []) ⟨hx, hb, hml, hown, hts⟩ hK hP hS (kd_lt k_172 (by decide)) (cell_12 k_172) rfl (m_X12_unit hG   h11) (cwV 0 hts (gV lw_1768 lw_1770 lw_61 lw_125 lw_1771) rfl rfl rfl (by decide +kernel) (rmd_ok (by decide) (by decide))) rfl hl.1 rfl (Nat.le_of_ble_eq_true rfl) dX12_formula_166 ⟨Nat.le_refl _, Nat.le_refl _⟩ (fun H locs hP hS => ?_)
  refine lv_goto (tgt := 174) hx hb dX12_formula_169 (by decide) ?_
  exact pf_X12_formula_174 C  hk_50 v2 z12  hP hS (lv_sub hl [0, 1] rfl) h
def fn_X12_formula_172 (k50 : Int32 → St → Option (St))  (z : St) : Option (St) := fn_X12_formula_174  k50 0 z
set_option maxHeartbeats 4000000 in
set_option maxRecDepth 100000 in
theorem pf_X12_formula_172 {p : Program} {l : Launch} {e : Env} {s : State} {m : MethodId} {args : Array Value} {below : List Frame} {meth : Method} {c : Code} {G : wG} (C : CX p s m args meth c cX12_formula 4 (wsU yX12_formula cX12_formula 4 none) RX12 none G) {Rz : St} {k50 : Int32 → St → Option (St)} (hk_50 : ∀ (v2 : Int32) (z : St)  (H : Heap) (locs : List Loc) (ls : Array Slot), WP G z H → va_S (AW G) s.heap H locs → lv_has ls 4 [(0, .ref (G.2.2 172)), (2, .int v2)] → k50 v2 z = some Rz → W p l e (rmd 5) s m args below meth c H locs 0 0 (QV below args s G Rz) (F0 m 50 ls []))  (z : St)  {H : Heap} {locs : List Loc} {ls : Array Slot} (hP : WP G z H) (hS : va_S (AW G) s.heap H locs) (hl : lv_has ls 4 [(0, .ref (G.2.2 172))]) (h : fn_X12_formula_172  k50  z = some Rz) : W p l e (rmd 5) s m args below meth c H locs 0 0 (QV below args s G Rz) (F0 m 172 ls []) := by
  obtain ⟨hx, hb, hml, hown, hts, hr, hlocks, hK, hG⟩ := id C
  unfold fn_X12_formula_172 at h
  refine lv_iconst (v := 0) hx hb dX12_formula_172 (by decide) ?_
  refine lv_istore_n (lv' := [(2, .int 0), (0, .ref (G.2.2 172))]) hx hb dX12_formula_173 rfl hl (by decide) rfl (fun ls hl => ?_)
  exact pf_X12_formula_174 C  hk_50 0 z  hP hS (lv_sub hl [1, 0] rfl) h
def fn_X12_formula_114 (k50 : Int32 → St → Option (St)) (v2 : Int32) (v3 : Int32) (z : St) : Option (St) := (if v3 = 0 then fn_X12_formula_172  k50  z else bd (fn_X12_tight  v3 z) (fun r3 z4 => (if r3 = 4 then bd (fn_X12_hasRelation   z4) (fun r7 z8 => (if r7 = 0 then fn_X12_formula_133  k50 v2 v3 z8 else fn_X12_formula_172  k50  z8)) else fn_X12_formula_133  k50 v2 v3 z4)))
set_option maxHeartbeats 4000000 in
set_option maxRecDepth 100000 in
theorem pf_X12_formula_114 {p : Program} {l : Launch} {e : Env} {s : State} {m : MethodId} {args : Array Value} {below : List Frame} {meth : Method} {c : Code} {G : wG} (C : CX p s m args meth c cX12_formula 4 (wsU yX12_formula cX12_formula 4 none) RX12 none G) {Rz : St} {k50 : Int32 → St → Option (St)} (hk_50 : ∀ (v2 : Int32) (z : St)  (H : Heap) (locs : List Loc) (ls : Array Slot), WP G z H → va_S (AW G) s.heap H locs → lv_has ls 4 [(0, .ref (G.2.2 172)), (2, .int v2)] → k50 v2 z = some Rz → W p l e (rmd 5) s m args below meth c H locs 0 0 (QV below args s G Rz) (F0 m 50 ls [])) (v2 : Int32) (v3 : Int32) (z : St)  {H : Heap} {locs : List Loc} {ls : Array Slot} (hP : WP G z H) (hS : va_S (AW G) s.heap H locs) (hl : lv_has ls 4 [(0, .ref (G.2.2 172)), (2, .int v2), (3, .int v3)]) (h : fn_X12_formula_114  k50 v2 v3 z = some Rz) : W p l e (rmd 5) s m args below meth c H locs 0 0 (QV below args s G Rz) (F0 m 114 ls []) := by
  obtain ⟨hx, hb, hml, hown, hts, hr, hlocks, hK, hG⟩ := id C
  unfold fn_X12_formula_114 at h
  refine lv_iload_n hx hb dX12_formula_114 rfl (lv_at hl 2 rfl) ?_
  refine lv_if_eq (tgt := 172) hx hb dX12_formula_115 (by decide) (fun c1 => ?_) (fun c1 => ?_)
  · rw [if_pos c1] at h
    exact pf_X12_formula_172 C  hk_50  z  hP hS (lv_sub hl [0] rfl) h
  · rw [if_neg c1] at h
    refine lv_iload_n hx hb dX12_formula_118 rfl (lv_at hl 2 rfl) ?_
    obtain ⟨r3, z4, h2, h⟩ := bd_s h
    refine x_Si (Rz := (r3, z4)) (As := [.int v3]) (rest := []) ⟨hx, hb, hml, hown, hts⟩ hK hP hS (m_X12_tight hG   h2) (va_cwS 1 hts (gS lw_1776 lw_1777 lw_125 lw_1778) rfl rfl rfl (by decide +kernel) (rmd_ok (by decide) (by decide))) rfl hl.1 rfl (Nat.le_of_ble_eq_true rfl) dX12_formula_119 ⟨Nat.le_refl _, Nat.le_refl _⟩ (fun H locs hP hS => ?_)
    refine lv_iconst (v := 4) hx hb dX12_formula_122 (by decide) ?_
    refine lv_icmp_ne (tgt := 133) hx hb dX12_formula_123 (by decide) (fun c5 => ?_) (fun c5 => ?_)
    · rw [if_neg c5] at h
      exact pf_X12_formula_133 C  hk_50 v2 v3 z4  hP hS (lv_sub hl [0, 1, 2] rfl) h
    · rw [if_pos c5] at h
      refine lv_aload_n hx hb dX12_formula_126 rfl (lv_at hl 0 rfl) ?_
      obtain ⟨r7, z8, h6, h⟩ := bd_s h
      refine x_Vi (Rz := (r7, z8)) (As := []) (rest := []) ⟨hx, hb, hml, hown, hts⟩ hK hP hS (kd_lt k_172 (by decide)) (cell_12 k_172) rfl (m_X12_hasRelation hG   h6) (cwV 0 hts (gV lw_1811 lw_1813 lw_71 lw_125 lw_1814) rfl rfl rfl (by decide +kernel) (rmd_ok (by decide) (by decide))) rfl hl.1 rfl (Nat.le_of_ble_eq_true rfl) dX12_formula_127 ⟨Nat.le_refl _, Nat.le_refl _⟩ (fun H locs hP hS => ?_)
      refine lv_if_ne (tgt := 172) hx hb dX12_formula_130 (by decide) (fun c9 => ?_) (fun c9 => ?_)
      · rw [if_neg c9] at h
        exact pf_X12_formula_172 C  hk_50  z8  hP hS (lv_sub hl [0] rfl) h
      · rw [if_pos c9] at h
        exact pf_X12_formula_133 C  hk_50 v2 v3 z8  hP hS (lv_sub hl [0, 1, 2] rfl) h
def fn_X12_formula_196  (z : St) : Option (St) := (if (z.1 172 2) = 0 then bv (fn_X12_close  0 z) (fun z3 => some z3) else some z)
set_option maxHeartbeats 4000000 in
set_option maxRecDepth 100000 in
theorem pf_X12_formula_196 {p : Program} {l : Launch} {e : Env} {s : State} {m : MethodId} {args : Array Value} {below : List Frame} {meth : Method} {c : Code} {G : wG} (C : CX p s m args meth c cX12_formula 4 (wsU yX12_formula cX12_formula 4 none) RX12 none G) {Rz : St}  (z : St)  {H : Heap} {locs : List Loc} {ls : Array Slot} (hP : WP G z H) (hS : va_S (AW G) s.heap H locs) (hl : lv_has ls 4 [(0, .ref (G.2.2 172))]) (h : fn_X12_formula_196    z = some Rz) : W p l e (rmd 5) s m args below meth c H locs 0 0 (QV below args s G Rz) (F0 m 196 ls []) := by
  obtain ⟨hx, hb, hml, hown, hts, hr, hlocks, hK, hG⟩ := id C
  unfold fn_X12_formula_196 at h
  refine lv_aload_n hx hb dX12_formula_196 rfl (lv_at hl 0 rfl) ?_
  refine ge_12_2 hx hb hts (inU inW_X12) hown hK hP k_172 (hts _ (List.mem_cons_of_mem _ lw_1436)) dX12_formula_197 ?_
  refine lv_if_ne (tgt := 208) hx hb dX12_formula_200 (by decide) (fun c1 => ?_) (fun c1 => ?_)
  · rw [if_neg c1] at h
    exact x_vret hx hb hr hlocks hK hP hS h dX12_formula_208
  · rw [if_pos c1] at h
    refine lv_aload_n hx hb dX12_formula_203 rfl (lv_at hl 0 rfl) ?_
    refine lv_iconst (v := 0) hx hb dX12_formula_204 (by decide) ?_
    obtain ⟨z3, h2, h⟩ := bv_s h
    refine x_Vv (Rz := z3) (As := [.int 0]) (rest := []) ⟨hx, hb, hml, hown, hts⟩ hK hP hS (kd_lt k_172 (by decide)) (cell_12 k_172) rfl (m_X12_close hG   h2) (cwV 1 hts (gV lw_1807 lw_1809 lw_70 lw_125 lw_1810) rfl rfl rfl (by decide +kernel) (rmd_ok (by decide) (by decide))) rfl hl.1 rfl (Nat.le_of_ble_eq_true rfl) dX12_formula_205 ⟨Nat.le_refl _, Nat.le_refl _⟩ (fun H locs hP hS => ?_)
    exact x_vret hx hb hr hlocks hK hP hS h dX12_formula_208
def fn_X12_formula_177  (z : St) : Option (St) := (if (z.1 172 2) = 0 then bd (fn_X12_hasBracket   z) (fun r3 z4 => (if r3 = 0 then fn_X12_formula_196    z4 else bv (fn_X12_wrong  2 z4) (fun z7 => fn_X12_formula_196    z7))) else fn_X12_formula_196    z)
set_option maxHeartbeats 4000000 in
set_option maxRecDepth 100000 in
theorem pf_X12_formula_177 {p : Program} {l : Launch} {e : Env} {s : State} {m : MethodId} {args : Array Value} {below : List Frame} {meth : Method} {c : Code} {G : wG} (C : CX p s m args meth c cX12_formula 4 (wsU yX12_formula cX12_formula 4 none) RX12 none G) {Rz : St}  (z : St)  {H : Heap} {locs : List Loc} {ls : Array Slot} (hP : WP G z H) (hS : va_S (AW G) s.heap H locs) (hl : lv_has ls 4 [(0, .ref (G.2.2 172))]) (h : fn_X12_formula_177    z = some Rz) : W p l e (rmd 5) s m args below meth c H locs 0 0 (QV below args s G Rz) (F0 m 177 ls []) := by
  obtain ⟨hx, hb, hml, hown, hts, hr, hlocks, hK, hG⟩ := id C
  unfold fn_X12_formula_177 at h
  refine lv_aload_n hx hb dX12_formula_177 rfl (lv_at hl 0 rfl) ?_
  refine ge_12_2 hx hb hts (inU inW_X12) hown hK hP k_172 (hts _ (List.mem_cons_of_mem _ lw_1436)) dX12_formula_178 ?_
  refine lv_if_ne (tgt := 196) hx hb dX12_formula_181 (by decide) (fun c1 => ?_) (fun c1 => ?_)
  · rw [if_neg c1] at h
    exact pf_X12_formula_196 C    z  hP hS (lv_sub hl [0] rfl) h
  · rw [if_pos c1] at h
    refine lv_aload_n hx hb dX12_formula_184 rfl (lv_at hl 0 rfl) ?_
    obtain ⟨r3, z4, h2, h⟩ := bd_s h
    refine x_Vi (Rz := (r3, z4)) (As := []) (rest := []) ⟨hx, hb, hml, hown, hts⟩ hK hP hS (kd_lt k_172 (by decide)) (cell_12 k_172) rfl (m_X12_hasBracket hG   h2) (cwV 0 hts (gV lw_1803 lw_1805 lw_69 lw_125 lw_1806) rfl rfl rfl (by decide +kernel) (rmd_ok (by decide) (by decide))) rfl hl.1 rfl (Nat.le_of_ble_eq_true rfl) dX12_formula_185 ⟨Nat.le_refl _, Nat.le_refl _⟩ (fun H locs hP hS => ?_)
    refine lv_if_eq (tgt := 196) hx hb dX12_formula_188 (by decide) (fun c5 => ?_) (fun c5 => ?_)
    · rw [if_pos c5] at h
      exact pf_X12_formula_196 C    z4  hP hS (lv_sub hl [0] rfl) h
    · rw [if_neg c5] at h
      refine lv_aload_n hx hb dX12_formula_191 rfl (lv_at hl 0 rfl) ?_
      refine lv_iconst (v := 2) hx hb dX12_formula_192 (by decide) ?_
      obtain ⟨z7, h6, h⟩ := bv_s h
      refine x_Vv (Rz := z7) (As := [.int 2]) (rest := []) ⟨hx, hb, hml, hown, hts⟩ hK hP hS (kd_lt k_172 (by decide)) (cell_12 k_172) rfl (m_X12_wrong hG   h6) (cwV 1 hts (gV lw_1740 lw_1742 lw_54 lw_125 lw_1743) rfl rfl rfl (by decide +kernel) (rmd_ok (by decide) (by decide))) rfl hl.1 rfl (Nat.le_of_ble_eq_true rfl) dX12_formula_193 ⟨Nat.le_refl _, Nat.le_refl _⟩ (fun H locs hP hS => ?_)
      exact pf_X12_formula_196 C    z7  hP hS (lv_sub hl [0] rfl) h
def fn_X12_formula_50 : Nat → Int32 → St → Option (St)
  | 0, _, _ => none
  | n + 1, v2, z => (if v2 = 0 then fn_X12_formula_177    z else (if (z.1 172 2) = 0 then bd (fn_X12_sign   z) (fun r4 z5 => (if (z5.1 172 6) = 41 then bd (fn_X12_hasBracket   z5) (fun r8 z9 => (if r8 = 0 then fn_X12_formula_114  (fn_X12_formula_50   n) v2 r4 z9 else bv (fn_X12_close  0 z9) (fun z12 => nm (sI z12 172 21 ((z12.1 172 21) - 1)) (fun z13 => nm (sI z13 172 25 ((z13.1 172 25) - 1)) (fun z14 => bv (fn_X12_token   z14) (fun z16 => fn_X12_formula_174  (fn_X12_formula_50   n) v2 z16)))))) else fn_X12_formula_114  (fn_X12_formula_50   n) v2 r4 z5)) else fn_X12_formula_177    z))
set_option maxHeartbeats 4000000 in
set_option maxRecDepth 100000 in
theorem pf_X12_formula_50 {p : Program} {l : Launch} {e : Env} {s : State} {m : MethodId} {args : Array Value} {below : List Frame} {meth : Method} {c : Code} {G : wG} (C : CX p s m args meth c cX12_formula 4 (wsU yX12_formula cX12_formula 4 none) RX12 none G) {Rz : St} : ∀ (n : Nat) (v2 : Int32) (z : St)  (H : Heap) (locs : List Loc) (ls : Array Slot), WP G z H → va_S (AW G) s.heap H locs → lv_has ls 4 [(0, .ref (G.2.2 172)), (2, .int v2)] → fn_X12_formula_50   n v2 z = some Rz → W p l e (rmd 5) s m args below meth c H locs 0 0 (QV below args s G Rz) (F0 m 50 ls []) := by
  obtain ⟨hx, hb, hml, hown, hts, hr, hlocks, hK, hG⟩ := id C
  intro n
  induction n with
  | zero => intro v2 z  H locs ls hP hS hl h; cases h
  | succ n ih =>
    intro v2 z  H locs ls hP hS hl h
    rw [fn_X12_formula_50] at h
    refine lv_iload_n hx hb dX12_formula_50 rfl (lv_at hl 1 rfl) ?_
    refine lv_if_eq (tgt := 177) hx hb dX12_formula_51 (by decide) (fun c1 => ?_) (fun c1 => ?_)
    · rw [if_pos c1] at h
      exact pf_X12_formula_177 C    z  hP hS (lv_sub hl [0] rfl) h
    · rw [if_neg c1] at h
      refine lv_aload_n hx hb dX12_formula_54 rfl (lv_at hl 0 rfl) ?_
      refine ge_12_2 hx hb hts (inU inW_X12) hown hK hP k_172 (hts _ (List.mem_cons_of_mem _ lw_1436)) dX12_formula_55 ?_
      refine lv_if_ne (tgt := 177) hx hb dX12_formula_58 (by decide) (fun c2 => ?_) (fun c2 => ?_)
      · rw [if_neg c2] at h
        exact pf_X12_formula_177 C    z  hP hS (lv_sub hl [0] rfl) h
      · rw [if_pos c2] at h
        refine lv_aload_n hx hb dX12_formula_61 rfl (lv_at hl 0 rfl) ?_
        obtain ⟨r4, z5, h3, h⟩ := bd_s h
        refine x_Vi (Rz := (r4, z5)) (As := []) (rest := []) ⟨hx, hb, hml, hown, hts⟩ hK hP hS (kd_lt k_172 (by decide)) (cell_12 k_172) rfl (m_X12_sign hG   h3) (cwV 0 hts (gV lw_1799 lw_1801 lw_68 lw_125 lw_1802) rfl rfl rfl (by decide +kernel) (rmd_ok (by decide) (by decide))) rfl hl.1 rfl (Nat.le_of_ble_eq_true rfl) dX12_formula_62 ⟨Nat.le_refl _, Nat.le_refl _⟩ (fun H locs hP hS => ?_)
        refine lv_istore_n (lv' := [(3, .int r4), (0, .ref (G.2.2 172)), (2, .int v2)]) hx hb dX12_formula_65 rfl hl (by decide) rfl (fun ls hl => ?_)
        refine lv_aload_n hx hb dX12_formula_66 rfl (lv_at hl 1 rfl) ?_
        refine ge_12_6 hx hb hts (inU inW_X12) hown hK hP k_172 (hts _ (List.mem_cons_of_mem _ lw_1440)) dX12_formula_67 ?_
        refine lv_bipush (v := 41) hx hb dX12_formula_70 (by decide) ?_
        refine lv_icmp_ne (tgt := 114) hx hb dX12_formula_72 (by decide) (fun c6 => ?_) (fun c6 => ?_)
        · rw [if_neg c6] at h
          exact pf_X12_formula_114 C  ih v2 r4 z5  hP hS (lv_sub hl [1, 2, 0] rfl) h
        · rw [if_pos c6] at h
          refine lv_aload_n hx hb dX12_formula_75 rfl (lv_at hl 1 rfl) ?_
          obtain ⟨r8, z9, h7, h⟩ := bd_s h
          refine x_Vi (Rz := (r8, z9)) (As := []) (rest := []) ⟨hx, hb, hml, hown, hts⟩ hK hP hS (kd_lt k_172 (by decide)) (cell_12 k_172) rfl (m_X12_hasBracket hG   h7) (cwV 0 hts (gV lw_1803 lw_1805 lw_69 lw_125 lw_1806) rfl rfl rfl (by decide +kernel) (rmd_ok (by decide) (by decide))) rfl hl.1 rfl (Nat.le_of_ble_eq_true rfl) dX12_formula_76 ⟨Nat.le_refl _, Nat.le_refl _⟩ (fun H locs hP hS => ?_)
          refine lv_if_eq (tgt := 114) hx hb dX12_formula_79 (by decide) (fun c10 => ?_) (fun c10 => ?_)
          · rw [if_pos c10] at h
            exact pf_X12_formula_114 C  ih v2 r4 z9  hP hS (lv_sub hl [1, 2, 0] rfl) h
          · rw [if_neg c10] at h
            refine lv_aload_n hx hb dX12_formula_82 rfl (lv_at hl 1 rfl) ?_
            refine lv_iconst (v := 0) hx hb dX12_formula_83 (by decide) ?_
            obtain ⟨z12, h11, h⟩ := bv_s h
            refine x_Vv (Rz := z12) (As := [.int 0]) (rest := []) ⟨hx, hb, hml, hown, hts⟩ hK hP hS (kd_lt k_172 (by decide)) (cell_12 k_172) rfl (m_X12_close hG   h11) (cwV 1 hts (gV lw_1807 lw_1809 lw_70 lw_125 lw_1810) rfl rfl rfl (by decide +kernel) (rmd_ok (by decide) (by decide))) rfl hl.1 rfl (Nat.le_of_ble_eq_true rfl) dX12_formula_84 ⟨Nat.le_refl _, Nat.le_refl _⟩ (fun H locs hP hS => ?_)
            refine lv_aload_n hx hb dX12_formula_87 rfl (lv_at hl 1 rfl) ?_
            refine lv_dup hx hb dX12_formula_88 rfl ?_
            refine ge_12_21 hx hb hts (inU inW_X12) hown hK hP k_172 (hts _ (List.mem_cons_of_mem _ lw_1455)) dX12_formula_89 ?_
            refine lv_iconst (v := 1) hx hb dX12_formula_92 (by decide) ?_
            refine lv_isub hx hb dX12_formula_93 ?_
            obtain ⟨z13, e_z13, h⟩ := nm_s h
            refine pu_12_21 hx hb hts (inU inW_X12) hown hK hG hP hS k_172 (hts _ (List.mem_cons_of_mem _ lw_1455)) dX12_formula_94 (fun H locs hP hS => ?_)
            rw [← e_z13] at hP
            refine lv_aload_n hx hb dX12_formula_97 rfl (lv_at hl 1 rfl) ?_
            refine lv_dup hx hb dX12_formula_98 rfl ?_
            refine ge_12_25 hx hb hts (inU inW_X12) hown hK hP k_172 (hts _ (List.mem_cons_of_mem _ lw_1459)) dX12_formula_99 ?_
            refine lv_iconst (v := 1) hx hb dX12_formula_102 (by decide) ?_
            refine lv_isub hx hb dX12_formula_103 ?_
            obtain ⟨z14, e_z14, h⟩ := nm_s h
            refine pu_12_25 hx hb hts (inU inW_X12) hown hK hG hP hS k_172 (hts _ (List.mem_cons_of_mem _ lw_1459)) dX12_formula_104 (fun H locs hP hS => ?_)
            rw [← e_z14] at hP
            refine lv_aload_n hx hb dX12_formula_107 rfl (lv_at hl 1 rfl) ?_
            obtain ⟨z16, h15, h⟩ := bv_s h
            refine x_Vv (Rz := z16) (As := []) (rest := []) ⟨hx, hb, hml, hown, hts⟩ hK hP hS (kd_lt k_172 (by decide)) (cell_12 k_172) rfl (m_X12_token hG   h15) (cwV 0 hts (gV lw_1680 lw_1682 lw_46 lw_125 lw_1683) rfl rfl rfl (by decide +kernel) (rmd_ok (by decide) (by decide))) rfl hl.1 rfl (Nat.le_of_ble_eq_true rfl) dX12_formula_108 ⟨Nat.le_refl _, Nat.le_refl _⟩ (fun H locs hP hS => ?_)
            refine lv_goto (tgt := 174) hx hb dX12_formula_111 (by decide) ?_
            exact pf_X12_formula_174 C  ih v2 z16  hP hS (lv_sub hl [1, 2] rfl) h
def fn_X12_formula (v1 : Int32) (z : St) : Option (St) := bv (fn_X12_token   z) (fun z2 => nm (sI z2 172 20 v1) (fun z3 => gd (ix (z3.1 172 20) 2) (nm (sI z3 183 (Int32.toNatClampNeg (z3.1 172 20)) 1) (fun z5 => gd (ix (z5.1 172 20) 2) (nm (sI z5 177 (Int32.toNatClampNeg (z5.1 172 20)) 0) (fun z7 => nm (sI z7 172 21 0) (fun z8 => nm (sI z8 172 25 0) (fun z9 => nm (sI z9 172 24 0) (fun z10 => bv (fn_X12_unit   z10) (fun z12 => fn_X12_formula_50   fu 1 z12))))))))))
set_option maxHeartbeats 4000000 in
set_option maxRecDepth 100000 in
theorem m_X12_formula {l : Launch} {G : wG} (hG : Ok G) {v1 : Int32} {z : St} {Rz : St}  (h : fn_X12_formula  v1 z = some Rz) : Met l yX12_formula (wsU yX12_formula cX12_formula 4 none) (rmd 5) (va_Pc [.ref (G.2.2 172), .int v1] (Pre G z)) (va_Qv (fun u => u = Rz) (Pre G) (AW G)) 0 0 (AW G) := by
  refine Met.ofW (cc := cX12_formula) (maxL := 4) (ret := none) (by decide) rfl ?_
  intro p e s m args below meth c s₁ B hml hv
  obtain ⟨rfl, hP, hK⟩ := hv
  have C : CX p s m ([.ref (G.2.2 172), .int v1] : List Value).toArray meth c cX12_formula 4 (wsU yX12_formula cX12_formula 4 none) RX12 none G := ⟨B.exec, B.bytes, hml, findClass_of_methodNamed B.named, atoms_spec (ws := (wsU yX12_formula cX12_formula 4 none)) B.pre, B.returns, B.notSynchronized, hK, hG⟩
  obtain ⟨hx, hb, -, hown, hts, hr, hlocks, -, -⟩ := id C
  have hS : va_S (AW G) s.heap s.heap [] := va_S.rf
  have hl := lv_entry [.ref (G.2.2 172), .int v1] (n := 4) (Nat.le_of_ble_eq_true rfl)
  rw [lg_entry_eq]
  generalize (lg_sl [.ref (G.2.2 172), .int v1] ++ List.replicate (4 - (lg_sl [.ref (G.2.2 172), .int v1]).length) Slot.unset).toArray = ls at hl ⊢
  have hl : lv_has ls 4 [(0, .ref (G.2.2 172)), (1, .int v1)] := hl
  unfold fn_X12_formula at h
  refine lv_aload_n hx hb dX12_formula_0 rfl (lv_at hl 0 rfl) ?_
  obtain ⟨z2, h1, h⟩ := bv_s h
  refine x_Vv (Rz := z2) (As := []) (rest := []) ⟨hx, hb, hml, hown, hts⟩ hK hP hS (kd_lt k_172 (by decide)) (cell_12 k_172) rfl (m_X12_token hG   h1) (cwV 0 hts (gV lw_1680 lw_1682 lw_46 lw_125 lw_1683) rfl rfl rfl (by decide +kernel) (rmd_ok (by decide) (by decide))) rfl hl.1 rfl (Nat.le_of_ble_eq_true rfl) dX12_formula_1 ⟨Nat.le_refl _, Nat.le_refl _⟩ (fun H locs hP hS => ?_)
  refine lv_aload_n hx hb dX12_formula_4 rfl (lv_at hl 0 rfl) ?_
  refine lv_iload_n hx hb dX12_formula_5 rfl (lv_at hl 1 rfl) ?_
  obtain ⟨z3, e_z3, h⟩ := nm_s h
  refine pu_12_20 hx hb hts (inU inW_X12) hown hK hG hP hS k_172 (hts _ (List.mem_cons_of_mem _ lw_1454)) dX12_formula_6 (fun H locs hP hS => ?_)
  rw [← e_z3] at hP
  refine lv_aload_n hx hb dX12_formula_9 rfl (lv_at hl 0 rfl) ?_
  refine ge_12_19 hx hb hts (inU inW_X12) hown hK hP k_172 (hts _ (List.mem_cons_of_mem _ lw_1453)) dX12_formula_10 ?_
  refine lv_aload_n hx hb dX12_formula_13 rfl (lv_at hl 0 rfl) ?_
  refine ge_12_20 hx hb hts (inU inW_X12) hown hK hP k_172 (hts _ (List.mem_cons_of_mem _ lw_1454)) dX12_formula_14 ?_
  refine lv_iconst (v := 1) hx hb dX12_formula_17 (by decide) ?_
  obtain ⟨g4, h⟩ := gd_s h
  obtain ⟨z5, e_z5, h⟩ := nm_s h
  refine xs_16 hx hb hK hG hP hS k_183 l_183 (ix_in g4) rfl dX12_formula_18 (fun H locs hP hS => ?_)
  rw [← e_z5] at hP
  refine lv_aload_n hx hb dX12_formula_19 rfl (lv_at hl 0 rfl) ?_
  refine ge_12_13 hx hb hts (inU inW_X12) hown hK hP k_172 (hts _ (List.mem_cons_of_mem _ lw_1447)) dX12_formula_20 ?_
  refine lv_aload_n hx hb dX12_formula_23 rfl (lv_at hl 0 rfl) ?_
  refine ge_12_20 hx hb hts (inU inW_X12) hown hK hP k_172 (hts _ (List.mem_cons_of_mem _ lw_1454)) dX12_formula_24 ?_
  refine lv_iconst (v := 0) hx hb dX12_formula_27 (by decide) ?_
  obtain ⟨g6, h⟩ := gd_s h
  obtain ⟨z7, e_z7, h⟩ := nm_s h
  refine xs_14 hx hb hK hG hP hS k_177 l_177 (ix_in g6) dX12_formula_28 (fun H locs hP hS => ?_)
  rw [← e_z7] at hP
  refine lv_aload_n hx hb dX12_formula_29 rfl (lv_at hl 0 rfl) ?_
  refine lv_iconst (v := 0) hx hb dX12_formula_30 (by decide) ?_
  obtain ⟨z8, e_z8, h⟩ := nm_s h
  refine pu_12_21 hx hb hts (inU inW_X12) hown hK hG hP hS k_172 (hts _ (List.mem_cons_of_mem _ lw_1455)) dX12_formula_31 (fun H locs hP hS => ?_)
  rw [← e_z8] at hP
  refine lv_aload_n hx hb dX12_formula_34 rfl (lv_at hl 0 rfl) ?_
  refine lv_iconst (v := 0) hx hb dX12_formula_35 (by decide) ?_
  obtain ⟨z9, e_z9, h⟩ := nm_s h
  refine pu_12_25 hx hb hts (inU inW_X12) hown hK hG hP hS k_172 (hts _ (List.mem_cons_of_mem _ lw_1459)) dX12_formula_36 (fun H locs hP hS => ?_)
  rw [← e_z9] at hP
  refine lv_aload_n hx hb dX12_formula_39 rfl (lv_at hl 0 rfl) ?_
  refine lv_iconst (v := 0) hx hb dX12_formula_40 (by decide) ?_
  obtain ⟨z10, e_z10, h⟩ := nm_s h
  refine pu_12_24 hx hb hts (inU inW_X12) hown hK hG hP hS k_172 (hts _ (List.mem_cons_of_mem _ lw_1458)) dX12_formula_41 (fun H locs hP hS => ?_)
  rw [← e_z10] at hP
  refine lv_aload_n hx hb dX12_formula_44 rfl (lv_at hl 0 rfl) ?_
  obtain ⟨z12, h11, h⟩ := bv_s h
  refine x_Vv (Rz := z12) (As := []) (rest := []) ⟨hx, hb, hml, hown, hts⟩ hK hP hS (kd_lt k_172 (by decide)) (cell_12 k_172) rfl (m_X12_unit hG   h11) (cwV 0 hts (gV lw_1768 lw_1770 lw_61 lw_125 lw_1771) rfl rfl rfl (by decide +kernel) (rmd_ok (by decide) (by decide))) rfl hl.1 rfl (Nat.le_of_ble_eq_true rfl) dX12_formula_45 ⟨Nat.le_refl _, Nat.le_refl _⟩ (fun H locs hP hS => ?_)
  refine lv_iconst (v := 1) hx hb dX12_formula_48 (by decide) ?_
  refine lv_istore_n (lv' := [(2, .int 1), (0, .ref (G.2.2 172)), (1, .int v1)]) hx hb dX12_formula_49 rfl hl (by decide) rfl (fun ls hl => ?_)
  exact pf_X12_formula_50 C   fu 1 z12  _ _ _ hP hS (lv_sub hl [1, 0] rfl) h
def fn_X12_truth (v0 : Int32) (z : St) : Option (Int32 × St) := (if v0 = 0 then some (0, z) else some (1, z))
set_option maxHeartbeats 4000000 in
set_option maxRecDepth 100000 in
theorem m_X12_truth {l : Launch} {G : wG} (hG : Ok G) {v0 : Int32} {z : St} {Rz : Int32 × St}  (h : fn_X12_truth  v0 z = some Rz) : Met l yX12_truth (wsU yX12_truth cX12_truth 1 (some .int)) (rmd 1) (va_Pc [.int v0] (Pre G z)) (va_Qi (fun r u => (r, u) = Rz) (Pre G) (AW G)) 0 0 (AW G) := by
  refine Met.ofW (cc := cX12_truth) (maxL := 1) (ret := (some .int)) (by decide) rfl ?_
  intro p e s m args below meth c s₁ B hml hv
  obtain ⟨rfl, hP, hK⟩ := hv
  have C : CX p s m ([.int v0] : List Value).toArray meth c cX12_truth 1 (wsU yX12_truth cX12_truth 1 (some .int)) RX12 (some .int) G := ⟨B.exec, B.bytes, hml, findClass_of_methodNamed B.named, atoms_spec (ws := (wsU yX12_truth cX12_truth 1 (some .int))) B.pre, B.returns, B.notSynchronized, hK, hG⟩
  obtain ⟨hx, hb, -, hown, hts, hr, hlocks, -, -⟩ := id C
  have hS : va_S (AW G) s.heap s.heap [] := va_S.rf
  have hl := lv_entry [.int v0] (n := 1) (Nat.le_of_ble_eq_true rfl)
  rw [lg_entry_eq]
  generalize (lg_sl [.int v0] ++ List.replicate (1 - (lg_sl [.int v0]).length) Slot.unset).toArray = ls at hl ⊢
  have hl : lv_has ls 1 [(0, .int v0)] := hl
  unfold fn_X12_truth at h
  refine lv_iload_n hx hb dX12_truth_0 rfl (lv_at hl 0 rfl) ?_
  refine lv_if_eq (tgt := 8) hx hb dX12_truth_1 (by decide) (fun c1 => ?_) (fun c1 => ?_)
  · rw [if_pos c1] at h
    refine lv_iconst (v := 0) hx hb dX12_truth_8 (by decide) ?_
    exact x_iret hx hb hr hlocks hK hP hS h dX12_truth_9
  · rw [if_neg c1] at h
    refine lv_iconst (v := 1) hx hb dX12_truth_4 (by decide) ?_
    refine lv_goto (tgt := 9) hx hb dX12_truth_5 (by decide) ?_
    exact x_iret hx hb hr hlocks hK hP hS h dX12_truth_9
def fn_X12_done_166 (tv0 : Int32) (z : St) : Option (Int32 × St) := bd (fn_X12_truth  tv0 z) (fun r2 z3 => some (r2, z3))
set_option maxHeartbeats 4000000 in
set_option maxRecDepth 100000 in
theorem pf_X12_done_166 {p : Program} {l : Launch} {e : Env} {s : State} {m : MethodId} {args : Array Value} {below : List Frame} {meth : Method} {c : Code} {G : wG} (C : CX p s m args meth c cX12_done 3 (wsU yX12_done cX12_done 3 (some .int)) RX12 (some .int) G) {Rz : Int32 × St} (tv0 : Int32) (z : St)  {H : Heap} {locs : List Loc} {ls : Array Slot} (hP : WP G z H) (hS : va_S (AW G) s.heap H locs) (hl : lv_has ls 3 []) (h : fn_X12_done_166   tv0 z = some Rz) : W p l e (rmd 2) s m args below meth c H locs 0 0 (QI below args s G Rz) (F0 m 166 ls [.int tv0]) := by
  obtain ⟨hx, hb, hml, hown, hts, hr, hlocks, hK, hG⟩ := id C
  unfold fn_X12_done_166 at h
  obtain ⟨r2, z3, h1, h⟩ := bd_s h
  refine x_Si (Rz := (r2, z3)) (As := [.int tv0]) (rest := []) ⟨hx, hb, hml, hown, hts⟩ hK hP hS (m_X12_truth hG   h1) (va_cwS 1 hts (gS lw_1842 lw_1843 lw_125 lw_1844) rfl rfl rfl (by decide +kernel) (rmd_ok (by decide) (by decide))) rfl hl.1 rfl (Nat.le_of_ble_eq_true rfl) dX12_done_166 ⟨Nat.le_refl _, Nat.le_refl _⟩ (fun H locs hP hS => ?_)
  exact x_iret hx hb hr hlocks hK hP hS h dX12_done_169
def fn_X12_done_180 (tv0 : Int32) (z : St) : Option (Int32 × St) := bd (fn_X12_truth  tv0 z) (fun r2 z3 => some (r2, z3))
set_option maxHeartbeats 4000000 in
set_option maxRecDepth 100000 in
theorem pf_X12_done_180 {p : Program} {l : Launch} {e : Env} {s : State} {m : MethodId} {args : Array Value} {below : List Frame} {meth : Method} {c : Code} {G : wG} (C : CX p s m args meth c cX12_done 3 (wsU yX12_done cX12_done 3 (some .int)) RX12 (some .int) G) {Rz : Int32 × St} (tv0 : Int32) (z : St)  {H : Heap} {locs : List Loc} {ls : Array Slot} (hP : WP G z H) (hS : va_S (AW G) s.heap H locs) (hl : lv_has ls 3 []) (h : fn_X12_done_180   tv0 z = some Rz) : W p l e (rmd 2) s m args below meth c H locs 0 0 (QI below args s G Rz) (F0 m 180 ls [.int tv0]) := by
  obtain ⟨hx, hb, hml, hown, hts, hr, hlocks, hK, hG⟩ := id C
  unfold fn_X12_done_180 at h
  obtain ⟨r2, z3, h1, h⟩ := bd_s h
  refine x_Si (Rz := (r2, z3)) (As := [.int tv0]) (rest := []) ⟨hx, hb, hml, hown, hts⟩ hK hP hS (m_X12_truth hG   h1) (va_cwS 1 hts (gS lw_1842 lw_1843 lw_125 lw_1844) rfl rfl rfl (by decide +kernel) (rmd_ok (by decide) (by decide))) rfl hl.1 rfl (Nat.le_of_ble_eq_true rfl) dX12_done_180 ⟨Nat.le_refl _, Nat.le_refl _⟩ (fun H locs hP hS => ?_)
  exact x_iret hx hb hr hlocks hK hP hS h dX12_done_183
def fn_X12_done_194 (tv0 : Int32) (z : St) : Option (Int32 × St) := bd (fn_X12_truth  tv0 z) (fun r2 z3 => some (r2, z3))
set_option maxHeartbeats 4000000 in
set_option maxRecDepth 100000 in
theorem pf_X12_done_194 {p : Program} {l : Launch} {e : Env} {s : State} {m : MethodId} {args : Array Value} {below : List Frame} {meth : Method} {c : Code} {G : wG} (C : CX p s m args meth c cX12_done 3 (wsU yX12_done cX12_done 3 (some .int)) RX12 (some .int) G) {Rz : Int32 × St} (tv0 : Int32) (z : St)  {H : Heap} {locs : List Loc} {ls : Array Slot} (hP : WP G z H) (hS : va_S (AW G) s.heap H locs) (hl : lv_has ls 3 []) (h : fn_X12_done_194   tv0 z = some Rz) : W p l e (rmd 2) s m args below meth c H locs 0 0 (QI below args s G Rz) (F0 m 194 ls [.int tv0]) := by
  obtain ⟨hx, hb, hml, hown, hts, hr, hlocks, hK, hG⟩ := id C
  unfold fn_X12_done_194 at h
  obtain ⟨r2, z3, h1, h⟩ := bd_s h
  refine x_Si (Rz := (r2, z3)) (As := [.int tv0]) (rest := []) ⟨hx, hb, hml, hown, hts⟩ hK hP hS (m_X12_truth hG   h1) (va_cwS 1 hts (gS lw_1842 lw_1843 lw_125 lw_1844) rfl rfl rfl (by decide +kernel) (rmd_ok (by decide) (by decide))) rfl hl.1 rfl (Nat.le_of_ble_eq_true rfl) dX12_done_194 ⟨Nat.le_refl _, Nat.le_refl _⟩ (fun H locs hP hS => ?_)
  exact x_iret hx hb hr hlocks hK hP hS h dX12_done_197
def fn_X12_done_211 (tv0 : Int32) (z : St) : Option (Int32 × St) := bd (fn_X12_truth  tv0 z) (fun r2 z3 => some (r2, z3))
set_option maxHeartbeats 4000000 in
set_option maxRecDepth 100000 in
theorem pf_X12_done_211 {p : Program} {l : Launch} {e : Env} {s : State} {m : MethodId} {args : Array Value} {below : List Frame} {meth : Method} {c : Code} {G : wG} (C : CX p s m args meth c cX12_done 3 (wsU yX12_done cX12_done 3 (some .int)) RX12 (some .int) G) {Rz : Int32 × St} (tv0 : Int32) (z : St)  {H : Heap} {locs : List Loc} {ls : Array Slot} (hP : WP G z H) (hS : va_S (AW G) s.heap H locs) (hl : lv_has ls 3 []) (h : fn_X12_done_211   tv0 z = some Rz) : W p l e (rmd 2) s m args below meth c H locs 0 0 (QI below args s G Rz) (F0 m 211 ls [.int tv0]) := by
  obtain ⟨hx, hb, hml, hown, hts, hr, hlocks, hK, hG⟩ := id C
  unfold fn_X12_done_211 at h
  obtain ⟨r2, z3, h1, h⟩ := bd_s h
  refine x_Si (Rz := (r2, z3)) (As := [.int tv0]) (rest := []) ⟨hx, hb, hml, hown, hts⟩ hK hP hS (m_X12_truth hG   h1) (va_cwS 1 hts (gS lw_1842 lw_1843 lw_125 lw_1844) rfl rfl rfl (by decide +kernel) (rmd_ok (by decide) (by decide))) rfl hl.1 rfl (Nat.le_of_ble_eq_true rfl) dX12_done_211 ⟨Nat.le_refl _, Nat.le_refl _⟩ (fun H locs hP hS => ?_)
  exact x_iret hx hb hr hlocks hK hP hS h dX12_done_214
def fn_X12_done_210  (z : St) : Option (Int32 × St) := fn_X12_done_211   0 z
set_option maxHeartbeats 4000000 in
set_option maxRecDepth 100000 in
theorem pf_X12_done_210 {p : Program} {l : Launch} {e : Env} {s : State} {m : MethodId} {args : Array Value} {below : List Frame} {meth : Method} {c : Code} {G : wG} (C : CX p s m args meth c cX12_done 3 (wsU yX12_done cX12_done 3 (some .int)) RX12 (some .int) G) {Rz : Int32 × St}  (z : St)  {H : Heap} {locs : List Loc} {ls : Array Slot} (hP : WP G z H) (hS : va_S (AW G) s.heap H locs) (hl : lv_has ls 3 []) (h : fn_X12_done_210    z = some Rz) : W p l e (rmd 2) s m args below meth c H locs 0 0 (QI below args s G Rz) (F0 m 210 ls []) := by
  obtain ⟨hx, hb, hml, hown, hts, hr, hlocks, hK, hG⟩ := id C
  unfold fn_X12_done_210 at h
  refine lv_iconst (v := 0) hx hb dX12_done_210 (by decide) ?_
  exact pf_X12_done_211 C   0 z  hP hS (lv_sub hl [] rfl) h
def fn_X12_done_228 (tv0 : Int32) (z : St) : Option (Int32 × St) := bd (fn_X12_truth  tv0 z) (fun r2 z3 => some (r2, z3))
set_option maxHeartbeats 4000000 in
set_option maxRecDepth 100000 in
theorem pf_X12_done_228 {p : Program} {l : Launch} {e : Env} {s : State} {m : MethodId} {args : Array Value} {below : List Frame} {meth : Method} {c : Code} {G : wG} (C : CX p s m args meth c cX12_done 3 (wsU yX12_done cX12_done 3 (some .int)) RX12 (some .int) G) {Rz : Int32 × St} (tv0 : Int32) (z : St)  {H : Heap} {locs : List Loc} {ls : Array Slot} (hP : WP G z H) (hS : va_S (AW G) s.heap H locs) (hl : lv_has ls 3 []) (h : fn_X12_done_228   tv0 z = some Rz) : W p l e (rmd 2) s m args below meth c H locs 0 0 (QI below args s G Rz) (F0 m 228 ls [.int tv0]) := by
  obtain ⟨hx, hb, hml, hown, hts, hr, hlocks, hK, hG⟩ := id C
  unfold fn_X12_done_228 at h
  obtain ⟨r2, z3, h1, h⟩ := bd_s h
  refine x_Si (Rz := (r2, z3)) (As := [.int tv0]) (rest := []) ⟨hx, hb, hml, hown, hts⟩ hK hP hS (m_X12_truth hG   h1) (va_cwS 1 hts (gS lw_1842 lw_1843 lw_125 lw_1844) rfl rfl rfl (by decide +kernel) (rmd_ok (by decide) (by decide))) rfl hl.1 rfl (Nat.le_of_ble_eq_true rfl) dX12_done_228 ⟨Nat.le_refl _, Nat.le_refl _⟩ (fun H locs hP hS => ?_)
  exact x_iret hx hb hr hlocks hK hP hS h dX12_done_231
def fn_X12_done_223  (z : St) : Option (Int32 × St) := fn_X12_done_228   1 z
set_option maxHeartbeats 4000000 in
set_option maxRecDepth 100000 in
theorem pf_X12_done_223 {p : Program} {l : Launch} {e : Env} {s : State} {m : MethodId} {args : Array Value} {below : List Frame} {meth : Method} {c : Code} {G : wG} (C : CX p s m args meth c cX12_done 3 (wsU yX12_done cX12_done 3 (some .int)) RX12 (some .int) G) {Rz : Int32 × St}  (z : St)  {H : Heap} {locs : List Loc} {ls : Array Slot} (hP : WP G z H) (hS : va_S (AW G) s.heap H locs) (hl : lv_has ls 3 []) (h : fn_X12_done_223    z = some Rz) : W p l e (rmd 2) s m args below meth c H locs 0 0 (QI below args s G Rz) (F0 m 223 ls []) := by
  obtain ⟨hx, hb, hml, hown, hts, hr, hlocks, hK, hG⟩ := id C
  unfold fn_X12_done_223 at h
  refine lv_iconst (v := 1) hx hb dX12_done_223 (by decide) ?_
  refine lv_goto (tgt := 228) hx hb dX12_done_224 (by decide) ?_
  exact pf_X12_done_228 C   1 z  hP hS (lv_sub hl [] rfl) h
def fn_X12_done (v0 : Int32) (v1 : Int32) (v2 : Int32) (z : St) : Option (Int32 × St) := (if v0 = 37 then (if v2 = 0 then some (0, z) else gd (v2 != 0) (some ((v1 - v1 / v2 * v2), z))) else (if v0 = 38 then (if v1 = 0 then fn_X12_done_210    z else (if v2 = 0 then fn_X12_done_210    z else fn_X12_done_211   1 z)) else (if v0 = 39 then (if v1 = 0 then (if v2 = 0 then fn_X12_done_228   0 z else fn_X12_done_223    z) else fn_X12_done_223    z) else (if v0 = 40 then (if v1 = 0 then (if v2 = 0 then fn_X12_done_228   0 z else fn_X12_done_223    z) else fn_X12_done_223    z) else (if v0 = 41 then (if v1 = 0 then (if v2 = 0 then fn_X12_done_228   0 z else fn_X12_done_223    z) else fn_X12_done_223    z) else (if v0 = 42 then some ((v1 * v2), z) else (if v0 = 43 then some ((v1 + v2), z) else (if v0 = 44 then (if v1 = 0 then (if v2 = 0 then fn_X12_done_228   0 z else fn_X12_done_223    z) else fn_X12_done_223    z) else (if v0 = 45 then some ((v1 - v2), z) else (if v0 = 46 then (if v1 = 0 then (if v2 = 0 then fn_X12_done_228   0 z else fn_X12_done_223    z) else fn_X12_done_223    z) else (if v0 = 47 then (if v2 = 0 then some (0, z) else gd (v2 != 0) (some ((v1 / v2), z))) else (if v0 = 48 then (if v1 = 0 then (if v2 = 0 then fn_X12_done_228   0 z else fn_X12_done_223    z) else fn_X12_done_223    z) else (if v0 = 49 then (if v1 = 0 then (if v2 = 0 then fn_X12_done_228   0 z else fn_X12_done_223    z) else fn_X12_done_223    z) else (if v0 = 50 then (if v1 = 0 then (if v2 = 0 then fn_X12_done_228   0 z else fn_X12_done_223    z) else fn_X12_done_223    z) else (if v0 = 51 then (if v1 = 0 then (if v2 = 0 then fn_X12_done_228   0 z else fn_X12_done_223    z) else fn_X12_done_223    z) else (if v0 = 52 then (if v1 = 0 then (if v2 = 0 then fn_X12_done_228   0 z else fn_X12_done_223    z) else fn_X12_done_223    z) else (if v0 = 53 then (if v1 = 0 then (if v2 = 0 then fn_X12_done_228   0 z else fn_X12_done_223    z) else fn_X12_done_223    z) else (if v0 = 54 then (if v1 = 0 then (if v2 = 0 then fn_X12_done_228   0 z else fn_X12_done_223    z) else fn_X12_done_223    z) else (if v0 = 55 then (if v1 = 0 then (if v2 = 0 then fn_X12_done_228   0 z else fn_X12_done_223    z) else fn_X12_done_223    z) else (if v0 = 56 then (if v1 = 0 then (if v2 = 0 then fn_X12_done_228   0 z else fn_X12_done_223    z) else fn_X12_done_223    z) else (if v0 = 57 then (if v1 = 0 then (if v2 = 0 then fn_X12_done_228   0 z else fn_X12_done_223    z) else fn_X12_done_223    z) else (if v0 = 58 then (if v1 = 0 then (if v2 = 0 then fn_X12_done_228   0 z else fn_X12_done_223    z) else fn_X12_done_223    z) else (if v0 = 59 then (if v1 = 0 then (if v2 = 0 then fn_X12_done_228   0 z else fn_X12_done_223    z) else fn_X12_done_223    z) else (if v0 = 60 then (if v2 ≤ v1 then fn_X12_done_166   0 z else fn_X12_done_166   1 z) else (if v0 = 61 then (if v1 = v2 then fn_X12_done_194   1 z else fn_X12_done_194   0 z) else (if v0 = 62 then (if v1 ≤ v2 then fn_X12_done_180   0 z else fn_X12_done_180   1 z) else ((if v1 = 0 then (if v2 = 0 then fn_X12_done_228   0 z else fn_X12_done_223    z) else fn_X12_done_223    z))))))))))))))))))))))))))))
set_option maxHeartbeats 4000000 in
set_option maxRecDepth 100000 in
theorem m_X12_done {l : Launch} {G : wG} (hG : Ok G) {v0 : Int32} {v1 : Int32} {v2 : Int32} {z : St} {Rz : Int32 × St}  (h : fn_X12_done  v0 v1 v2 z = some Rz) : Met l yX12_done (wsU yX12_done cX12_done 3 (some .int)) (rmd 2) (va_Pc [.int v0, .int v1, .int v2] (Pre G z)) (va_Qi (fun r u => (r, u) = Rz) (Pre G) (AW G)) 0 0 (AW G) := by
  refine Met.ofW (cc := cX12_done) (maxL := 3) (ret := (some .int)) (by decide) rfl ?_
  intro p e s m args below meth c s₁ B hml hv
  obtain ⟨rfl, hP, hK⟩ := hv
  have C : CX p s m ([.int v0, .int v1, .int v2] : List Value).toArray meth c cX12_done 3 (wsU yX12_done cX12_done 3 (some .int)) RX12 (some .int) G := ⟨B.exec, B.bytes, hml, findClass_of_methodNamed B.named, atoms_spec (ws := (wsU yX12_done cX12_done 3 (some .int))) B.pre, B.returns, B.notSynchronized, hK, hG⟩
  obtain ⟨hx, hb, -, hown, hts, hr, hlocks, -, -⟩ := id C
  have hS : va_S (AW G) s.heap s.heap [] := va_S.rf
  have hl := lv_entry [.int v0, .int v1, .int v2] (n := 3) (Nat.le_of_ble_eq_true rfl)
  rw [lg_entry_eq]
  generalize (lg_sl [.int v0, .int v1, .int v2] ++ List.replicate (3 - (lg_sl [.int v0, .int v1, .int v2]).length) Slot.unset).toArray = ls at hl ⊢
  have hl : lv_has ls 3 [(0, .int v0), (1, .int v1), (2, .int v2)] := hl
  unfold fn_X12_done at h
  refine lv_iload_n hx hb dX12_done_0 rfl (lv_at hl 0 rfl) ?_
  by_cases c1 : v0 = 37
  · rw [if_pos c1] at h
    refine lv_tableIn (off := 143) (tgt := 144) hx hb dX12_done_1 (by rw [c1]; decide) (by rw [c1]; decide) (by rw [c1]; rfl) (by decide) ?_
    refine lv_iload_n hx hb dX12_done_144 rfl (lv_at hl 2 rfl) ?_
    refine lv_if_ne (tgt := 152) hx hb dX12_done_145 (by decide) (fun c2 => ?_) (fun c2 => ?_)
    · rw [if_neg c2] at h
      refine lv_iload_n hx hb dX12_done_152 rfl (lv_at hl 1 rfl) ?_
      refine lv_iload_n hx hb dX12_done_153 rfl (lv_at hl 2 rfl) ?_
      obtain ⟨g3, h⟩ := gd_s h
      refine lv_irem hx hb dX12_done_154 (bne_z g3) ?_
      exact x_iret hx hb hr hlocks hK hP hS h dX12_done_155
    · rw [if_pos c2] at h
      refine lv_iconst (v := 0) hx hb dX12_done_148 (by decide) ?_
      refine lv_goto (tgt := 155) hx hb dX12_done_149 (by decide) ?_
      exact x_iret hx hb hr hlocks hK hP hS h dX12_done_155
  rw [if_neg c1] at h
  by_cases c4 : v0 = 38
  · rw [if_pos c4] at h
    refine lv_tableIn (off := 197) (tgt := 198) hx hb dX12_done_1 (by rw [c4]; decide) (by rw [c4]; decide) (by rw [c4]; rfl) (by decide) ?_
    refine lv_iload_n hx hb dX12_done_198 rfl (lv_at hl 1 rfl) ?_
    refine lv_if_eq (tgt := 210) hx hb dX12_done_199 (by decide) (fun c5 => ?_) (fun c5 => ?_)
    · rw [if_pos c5] at h
      exact pf_X12_done_210 C    z  hP hS (lv_sub hl [] rfl) h
    · rw [if_neg c5] at h
      refine lv_iload_n hx hb dX12_done_202 rfl (lv_at hl 2 rfl) ?_
      refine lv_if_eq (tgt := 210) hx hb dX12_done_203 (by decide) (fun c6 => ?_) (fun c6 => ?_)
      · rw [if_pos c6] at h
        exact pf_X12_done_210 C    z  hP hS (lv_sub hl [] rfl) h
      · rw [if_neg c6] at h
        refine lv_iconst (v := 1) hx hb dX12_done_206 (by decide) ?_
        refine lv_goto (tgt := 211) hx hb dX12_done_207 (by decide) ?_
        exact pf_X12_done_211 C   1 z  hP hS (lv_sub hl [] rfl) h
  rw [if_neg c4] at h
  by_cases c7 : v0 = 39
  · rw [if_pos c7] at h
    refine lv_tableIn (off := 214) (tgt := 215) hx hb dX12_done_1 (by rw [c7]; decide) (by rw [c7]; decide) (by rw [c7]; rfl) (by decide) ?_
    refine lv_iload_n hx hb dX12_done_215 rfl (lv_at hl 1 rfl) ?_
    refine lv_if_ne (tgt := 223) hx hb dX12_done_216 (by decide) (fun c8 => ?_) (fun c8 => ?_)
    · rw [if_neg c8] at h
      exact pf_X12_done_223 C    z  hP hS (lv_sub hl [] rfl) h
    · rw [if_pos c8] at h
      refine lv_iload_n hx hb dX12_done_219 rfl (lv_at hl 2 rfl) ?_
      refine lv_if_eq (tgt := 227) hx hb dX12_done_220 (by decide) (fun c9 => ?_) (fun c9 => ?_)
      · rw [if_pos c9] at h
        refine lv_iconst (v := 0) hx hb dX12_done_227 (by decide) ?_
        exact pf_X12_done_228 C   0 z  hP hS (lv_sub hl [] rfl) h
      · rw [if_neg c9] at h
        exact pf_X12_done_223 C    z  hP hS (lv_sub hl [] rfl) h
  rw [if_neg c7] at h
  by_cases c10 : v0 = 40
  · rw [if_pos c10] at h
    refine lv_tableIn (off := 214) (tgt := 215) hx hb dX12_done_1 (by rw [c10]; decide) (by rw [c10]; decide) (by rw [c10]; rfl) (by decide) ?_
    refine lv_iload_n hx hb dX12_done_215 rfl (lv_at hl 1 rfl) ?_
    refine lv_if_ne (tgt := 223) hx hb dX12_done_216 (by decide) (fun c11 => ?_) (fun c11 => ?_)
    · rw [if_neg c11] at h
      exact pf_X12_done_223 C    z  hP hS (lv_sub hl [] rfl) h
    · rw [if_pos c11] at h
      refine lv_iload_n hx hb dX12_done_219 rfl (lv_at hl 2 rfl) ?_
      refine lv_if_eq (tgt := 227) hx hb dX12_done_220 (by decide) (fun c12 => ?_) (fun c12 => ?_)
      · rw [if_pos c12] at h
        refine lv_iconst (v := 0) hx hb dX12_done_227 (by decide) ?_
        exact pf_X12_done_228 C   0 z  hP hS (lv_sub hl [] rfl) h
      · rw [if_neg c12] at h
        exact pf_X12_done_223 C    z  hP hS (lv_sub hl [] rfl) h
  rw [if_neg c10] at h
  by_cases c13 : v0 = 41
  · rw [if_pos c13] at h
    refine lv_tableIn (off := 214) (tgt := 215) hx hb dX12_done_1 (by rw [c13]; decide) (by rw [c13]; decide) (by rw [c13]; rfl) (by decide) ?_
    refine lv_iload_n hx hb dX12_done_215 rfl (lv_at hl 1 rfl) ?_
    refine lv_if_ne (tgt := 223) hx hb dX12_done_216 (by decide) (fun c14 => ?_) (fun c14 => ?_)
    · rw [if_neg c14] at h
      exact pf_X12_done_223 C    z  hP hS (lv_sub hl [] rfl) h
    · rw [if_pos c14] at h
      refine lv_iload_n hx hb dX12_done_219 rfl (lv_at hl 2 rfl) ?_
      refine lv_if_eq (tgt := 227) hx hb dX12_done_220 (by decide) (fun c15 => ?_) (fun c15 => ?_)
      · rw [if_pos c15] at h
        refine lv_iconst (v := 0) hx hb dX12_done_227 (by decide) ?_
        exact pf_X12_done_228 C   0 z  hP hS (lv_sub hl [] rfl) h
      · rw [if_neg c15] at h
        exact pf_X12_done_223 C    z  hP hS (lv_sub hl [] rfl) h
  rw [if_neg c13] at h
  by_cases c16 : v0 = 42
  · rw [if_pos c16] at h
    refine lv_tableIn (off := 127) (tgt := 128) hx hb dX12_done_1 (by rw [c16]; decide) (by rw [c16]; decide) (by rw [c16]; rfl) (by decide) ?_
    refine lv_iload_n hx hb dX12_done_128 rfl (lv_at hl 1 rfl) ?_
    refine lv_iload_n hx hb dX12_done_129 rfl (lv_at hl 2 rfl) ?_
    refine lv_imul hx hb dX12_done_130 ?_
    exact x_iret hx hb hr hlocks hK hP hS h dX12_done_131
  rw [if_neg c16] at h
  by_cases c17 : v0 = 43
  · rw [if_pos c17] at h
    refine lv_tableIn (off := 119) (tgt := 120) hx hb dX12_done_1 (by rw [c17]; decide) (by rw [c17]; decide) (by rw [c17]; rfl) (by decide) ?_
    refine lv_iload_n hx hb dX12_done_120 rfl (lv_at hl 1 rfl) ?_
    refine lv_iload_n hx hb dX12_done_121 rfl (lv_at hl 2 rfl) ?_
    refine lv_iadd hx hb dX12_done_122 ?_
    exact x_iret hx hb hr hlocks hK hP hS h dX12_done_123
  rw [if_neg c17] at h
  by_cases c18 : v0 = 44
  · rw [if_pos c18] at h
    refine lv_tableIn (off := 214) (tgt := 215) hx hb dX12_done_1 (by rw [c18]; decide) (by rw [c18]; decide) (by rw [c18]; rfl) (by decide) ?_
    refine lv_iload_n hx hb dX12_done_215 rfl (lv_at hl 1 rfl) ?_
    refine lv_if_ne (tgt := 223) hx hb dX12_done_216 (by decide) (fun c19 => ?_) (fun c19 => ?_)
    · rw [if_neg c19] at h
      exact pf_X12_done_223 C    z  hP hS (lv_sub hl [] rfl) h
    · rw [if_pos c19] at h
      refine lv_iload_n hx hb dX12_done_219 rfl (lv_at hl 2 rfl) ?_
      refine lv_if_eq (tgt := 227) hx hb dX12_done_220 (by decide) (fun c20 => ?_) (fun c20 => ?_)
      · rw [if_pos c20] at h
        refine lv_iconst (v := 0) hx hb dX12_done_227 (by decide) ?_
        exact pf_X12_done_228 C   0 z  hP hS (lv_sub hl [] rfl) h
      · rw [if_neg c20] at h
        exact pf_X12_done_223 C    z  hP hS (lv_sub hl [] rfl) h
  rw [if_neg c18] at h
  by_cases c21 : v0 = 45
  · rw [if_pos c21] at h
    refine lv_tableIn (off := 123) (tgt := 124) hx hb dX12_done_1 (by rw [c21]; decide) (by rw [c21]; decide) (by rw [c21]; rfl) (by decide) ?_
    refine lv_iload_n hx hb dX12_done_124 rfl (lv_at hl 1 rfl) ?_
    refine lv_iload_n hx hb dX12_done_125 rfl (lv_at hl 2 rfl) ?_
    refine lv_isub hx hb dX12_done_126 ?_
    exact x_iret hx hb hr hlocks hK hP hS h dX12_done_127
  rw [if_neg c21] at h
  by_cases c22 : v0 = 46
  · rw [if_pos c22] at h
    refine lv_tableIn (off := 214) (tgt := 215) hx hb dX12_done_1 (by rw [c22]; decide) (by rw [c22]; decide) (by rw [c22]; rfl) (by decide) ?_
    refine lv_iload_n hx hb dX12_done_215 rfl (lv_at hl 1 rfl) ?_
    refine lv_if_ne (tgt := 223) hx hb dX12_done_216 (by decide) (fun c23 => ?_) (fun c23 => ?_)
    · rw [if_neg c23] at h
      exact pf_X12_done_223 C    z  hP hS (lv_sub hl [] rfl) h
    · rw [if_pos c23] at h
      refine lv_iload_n hx hb dX12_done_219 rfl (lv_at hl 2 rfl) ?_
      refine lv_if_eq (tgt := 227) hx hb dX12_done_220 (by decide) (fun c24 => ?_) (fun c24 => ?_)
      · rw [if_pos c24] at h
        refine lv_iconst (v := 0) hx hb dX12_done_227 (by decide) ?_
        exact pf_X12_done_228 C   0 z  hP hS (lv_sub hl [] rfl) h
      · rw [if_neg c24] at h
        exact pf_X12_done_223 C    z  hP hS (lv_sub hl [] rfl) h
  rw [if_neg c22] at h
  by_cases c25 : v0 = 47
  · rw [if_pos c25] at h
    refine lv_tableIn (off := 131) (tgt := 132) hx hb dX12_done_1 (by rw [c25]; decide) (by rw [c25]; decide) (by rw [c25]; rfl) (by decide) ?_
    refine lv_iload_n hx hb dX12_done_132 rfl (lv_at hl 2 rfl) ?_
    refine lv_if_ne (tgt := 140) hx hb dX12_done_133 (by decide) (fun c26 => ?_) (fun c26 => ?_)
    · rw [if_neg c26] at h
      refine lv_iload_n hx hb dX12_done_140 rfl (lv_at hl 1 rfl) ?_
      refine lv_iload_n hx hb dX12_done_141 rfl (lv_at hl 2 rfl) ?_
      obtain ⟨g27, h⟩ := gd_s h
      refine lv_idiv hx hb dX12_done_142 (bne_z g27) ?_
      exact x_iret hx hb hr hlocks hK hP hS h dX12_done_143
    · rw [if_pos c26] at h
      refine lv_iconst (v := 0) hx hb dX12_done_136 (by decide) ?_
      refine lv_goto (tgt := 143) hx hb dX12_done_137 (by decide) ?_
      exact x_iret hx hb hr hlocks hK hP hS h dX12_done_143
  rw [if_neg c25] at h
  by_cases c28 : v0 = 48
  · rw [if_pos c28] at h
    refine lv_tableIn (off := 214) (tgt := 215) hx hb dX12_done_1 (by rw [c28]; decide) (by rw [c28]; decide) (by rw [c28]; rfl) (by decide) ?_
    refine lv_iload_n hx hb dX12_done_215 rfl (lv_at hl 1 rfl) ?_
    refine lv_if_ne (tgt := 223) hx hb dX12_done_216 (by decide) (fun c29 => ?_) (fun c29 => ?_)
    · rw [if_neg c29] at h
      exact pf_X12_done_223 C    z  hP hS (lv_sub hl [] rfl) h
    · rw [if_pos c29] at h
      refine lv_iload_n hx hb dX12_done_219 rfl (lv_at hl 2 rfl) ?_
      refine lv_if_eq (tgt := 227) hx hb dX12_done_220 (by decide) (fun c30 => ?_) (fun c30 => ?_)
      · rw [if_pos c30] at h
        refine lv_iconst (v := 0) hx hb dX12_done_227 (by decide) ?_
        exact pf_X12_done_228 C   0 z  hP hS (lv_sub hl [] rfl) h
      · rw [if_neg c30] at h
        exact pf_X12_done_223 C    z  hP hS (lv_sub hl [] rfl) h
  rw [if_neg c28] at h
  by_cases c31 : v0 = 49
  · rw [if_pos c31] at h
    refine lv_tableIn (off := 214) (tgt := 215) hx hb dX12_done_1 (by rw [c31]; decide) (by rw [c31]; decide) (by rw [c31]; rfl) (by decide) ?_
    refine lv_iload_n hx hb dX12_done_215 rfl (lv_at hl 1 rfl) ?_
    refine lv_if_ne (tgt := 223) hx hb dX12_done_216 (by decide) (fun c32 => ?_) (fun c32 => ?_)
    · rw [if_neg c32] at h
      exact pf_X12_done_223 C    z  hP hS (lv_sub hl [] rfl) h
    · rw [if_pos c32] at h
      refine lv_iload_n hx hb dX12_done_219 rfl (lv_at hl 2 rfl) ?_
      refine lv_if_eq (tgt := 227) hx hb dX12_done_220 (by decide) (fun c33 => ?_) (fun c33 => ?_)
      · rw [if_pos c33] at h
        refine lv_iconst (v := 0) hx hb dX12_done_227 (by decide) ?_
        exact pf_X12_done_228 C   0 z  hP hS (lv_sub hl [] rfl) h
      · rw [if_neg c33] at h
        exact pf_X12_done_223 C    z  hP hS (lv_sub hl [] rfl) h
  rw [if_neg c31] at h
  by_cases c34 : v0 = 50
  · rw [if_pos c34] at h
    refine lv_tableIn (off := 214) (tgt := 215) hx hb dX12_done_1 (by rw [c34]; decide) (by rw [c34]; decide) (by rw [c34]; rfl) (by decide) ?_
    refine lv_iload_n hx hb dX12_done_215 rfl (lv_at hl 1 rfl) ?_
    refine lv_if_ne (tgt := 223) hx hb dX12_done_216 (by decide) (fun c35 => ?_) (fun c35 => ?_)
    · rw [if_neg c35] at h
      exact pf_X12_done_223 C    z  hP hS (lv_sub hl [] rfl) h
    · rw [if_pos c35] at h
      refine lv_iload_n hx hb dX12_done_219 rfl (lv_at hl 2 rfl) ?_
      refine lv_if_eq (tgt := 227) hx hb dX12_done_220 (by decide) (fun c36 => ?_) (fun c36 => ?_)
      · rw [if_pos c36] at h
        refine lv_iconst (v := 0) hx hb dX12_done_227 (by decide) ?_
        exact pf_X12_done_228 C   0 z  hP hS (lv_sub hl [] rfl) h
      · rw [if_neg c36] at h
        exact pf_X12_done_223 C    z  hP hS (lv_sub hl [] rfl) h
  rw [if_neg c34] at h
  by_cases c37 : v0 = 51
  · rw [if_pos c37] at h
    refine lv_tableIn (off := 214) (tgt := 215) hx hb dX12_done_1 (by rw [c37]; decide) (by rw [c37]; decide) (by rw [c37]; rfl) (by decide) ?_
    refine lv_iload_n hx hb dX12_done_215 rfl (lv_at hl 1 rfl) ?_
    refine lv_if_ne (tgt := 223) hx hb dX12_done_216 (by decide) (fun c38 => ?_) (fun c38 => ?_)
    · rw [if_neg c38] at h
      exact pf_X12_done_223 C    z  hP hS (lv_sub hl [] rfl) h
    · rw [if_pos c38] at h
      refine lv_iload_n hx hb dX12_done_219 rfl (lv_at hl 2 rfl) ?_
      refine lv_if_eq (tgt := 227) hx hb dX12_done_220 (by decide) (fun c39 => ?_) (fun c39 => ?_)
      · rw [if_pos c39] at h
        refine lv_iconst (v := 0) hx hb dX12_done_227 (by decide) ?_
        exact pf_X12_done_228 C   0 z  hP hS (lv_sub hl [] rfl) h
      · rw [if_neg c39] at h
        exact pf_X12_done_223 C    z  hP hS (lv_sub hl [] rfl) h
  rw [if_neg c37] at h
  by_cases c40 : v0 = 52
  · rw [if_pos c40] at h
    refine lv_tableIn (off := 214) (tgt := 215) hx hb dX12_done_1 (by rw [c40]; decide) (by rw [c40]; decide) (by rw [c40]; rfl) (by decide) ?_
    refine lv_iload_n hx hb dX12_done_215 rfl (lv_at hl 1 rfl) ?_
    refine lv_if_ne (tgt := 223) hx hb dX12_done_216 (by decide) (fun c41 => ?_) (fun c41 => ?_)
    · rw [if_neg c41] at h
      exact pf_X12_done_223 C    z  hP hS (lv_sub hl [] rfl) h
    · rw [if_pos c41] at h
      refine lv_iload_n hx hb dX12_done_219 rfl (lv_at hl 2 rfl) ?_
      refine lv_if_eq (tgt := 227) hx hb dX12_done_220 (by decide) (fun c42 => ?_) (fun c42 => ?_)
      · rw [if_pos c42] at h
        refine lv_iconst (v := 0) hx hb dX12_done_227 (by decide) ?_
        exact pf_X12_done_228 C   0 z  hP hS (lv_sub hl [] rfl) h
      · rw [if_neg c42] at h
        exact pf_X12_done_223 C    z  hP hS (lv_sub hl [] rfl) h
  rw [if_neg c40] at h
  by_cases c43 : v0 = 53
  · rw [if_pos c43] at h
    refine lv_tableIn (off := 214) (tgt := 215) hx hb dX12_done_1 (by rw [c43]; decide) (by rw [c43]; decide) (by rw [c43]; rfl) (by decide) ?_
    refine lv_iload_n hx hb dX12_done_215 rfl (lv_at hl 1 rfl) ?_
    refine lv_if_ne (tgt := 223) hx hb dX12_done_216 (by decide) (fun c44 => ?_) (fun c44 => ?_)
    · rw [if_neg c44] at h
      exact pf_X12_done_223 C    z  hP hS (lv_sub hl [] rfl) h
    · rw [if_pos c44] at h
      refine lv_iload_n hx hb dX12_done_219 rfl (lv_at hl 2 rfl) ?_
      refine lv_if_eq (tgt := 227) hx hb dX12_done_220 (by decide) (fun c45 => ?_) (fun c45 => ?_)
      · rw [if_pos c45] at h
        refine lv_iconst (v := 0) hx hb dX12_done_227 (by decide) ?_
        exact pf_X12_done_228 C   0 z  hP hS (lv_sub hl [] rfl) h
      · rw [if_neg c45] at h
        exact pf_X12_done_223 C    z  hP hS (lv_sub hl [] rfl) h
  rw [if_neg c43] at h
  by_cases c46 : v0 = 54
  · rw [if_pos c46] at h
    refine lv_tableIn (off := 214) (tgt := 215) hx hb dX12_done_1 (by rw [c46]; decide) (by rw [c46]; decide) (by rw [c46]; rfl) (by decide) ?_
    refine lv_iload_n hx hb dX12_done_215 rfl (lv_at hl 1 rfl) ?_
    refine lv_if_ne (tgt := 223) hx hb dX12_done_216 (by decide) (fun c47 => ?_) (fun c47 => ?_)
    · rw [if_neg c47] at h
      exact pf_X12_done_223 C    z  hP hS (lv_sub hl [] rfl) h
    · rw [if_pos c47] at h
      refine lv_iload_n hx hb dX12_done_219 rfl (lv_at hl 2 rfl) ?_
      refine lv_if_eq (tgt := 227) hx hb dX12_done_220 (by decide) (fun c48 => ?_) (fun c48 => ?_)
      · rw [if_pos c48] at h
        refine lv_iconst (v := 0) hx hb dX12_done_227 (by decide) ?_
        exact pf_X12_done_228 C   0 z  hP hS (lv_sub hl [] rfl) h
      · rw [if_neg c48] at h
        exact pf_X12_done_223 C    z  hP hS (lv_sub hl [] rfl) h
  rw [if_neg c46] at h
  by_cases c49 : v0 = 55
  · rw [if_pos c49] at h
    refine lv_tableIn (off := 214) (tgt := 215) hx hb dX12_done_1 (by rw [c49]; decide) (by rw [c49]; decide) (by rw [c49]; rfl) (by decide) ?_
    refine lv_iload_n hx hb dX12_done_215 rfl (lv_at hl 1 rfl) ?_
    refine lv_if_ne (tgt := 223) hx hb dX12_done_216 (by decide) (fun c50 => ?_) (fun c50 => ?_)
    · rw [if_neg c50] at h
      exact pf_X12_done_223 C    z  hP hS (lv_sub hl [] rfl) h
    · rw [if_pos c50] at h
      refine lv_iload_n hx hb dX12_done_219 rfl (lv_at hl 2 rfl) ?_
      refine lv_if_eq (tgt := 227) hx hb dX12_done_220 (by decide) (fun c51 => ?_) (fun c51 => ?_)
      · rw [if_pos c51] at h
        refine lv_iconst (v := 0) hx hb dX12_done_227 (by decide) ?_
        exact pf_X12_done_228 C   0 z  hP hS (lv_sub hl [] rfl) h
      · rw [if_neg c51] at h
        exact pf_X12_done_223 C    z  hP hS (lv_sub hl [] rfl) h
  rw [if_neg c49] at h
  by_cases c52 : v0 = 56
  · rw [if_pos c52] at h
    refine lv_tableIn (off := 214) (tgt := 215) hx hb dX12_done_1 (by rw [c52]; decide) (by rw [c52]; decide) (by rw [c52]; rfl) (by decide) ?_
    refine lv_iload_n hx hb dX12_done_215 rfl (lv_at hl 1 rfl) ?_
    refine lv_if_ne (tgt := 223) hx hb dX12_done_216 (by decide) (fun c53 => ?_) (fun c53 => ?_)
    · rw [if_neg c53] at h
      exact pf_X12_done_223 C    z  hP hS (lv_sub hl [] rfl) h
    · rw [if_pos c53] at h
      refine lv_iload_n hx hb dX12_done_219 rfl (lv_at hl 2 rfl) ?_
      refine lv_if_eq (tgt := 227) hx hb dX12_done_220 (by decide) (fun c54 => ?_) (fun c54 => ?_)
      · rw [if_pos c54] at h
        refine lv_iconst (v := 0) hx hb dX12_done_227 (by decide) ?_
        exact pf_X12_done_228 C   0 z  hP hS (lv_sub hl [] rfl) h
      · rw [if_neg c54] at h
        exact pf_X12_done_223 C    z  hP hS (lv_sub hl [] rfl) h
  rw [if_neg c52] at h
  by_cases c55 : v0 = 57
  · rw [if_pos c55] at h
    refine lv_tableIn (off := 214) (tgt := 215) hx hb dX12_done_1 (by rw [c55]; decide) (by rw [c55]; decide) (by rw [c55]; rfl) (by decide) ?_
    refine lv_iload_n hx hb dX12_done_215 rfl (lv_at hl 1 rfl) ?_
    refine lv_if_ne (tgt := 223) hx hb dX12_done_216 (by decide) (fun c56 => ?_) (fun c56 => ?_)
    · rw [if_neg c56] at h
      exact pf_X12_done_223 C    z  hP hS (lv_sub hl [] rfl) h
    · rw [if_pos c56] at h
      refine lv_iload_n hx hb dX12_done_219 rfl (lv_at hl 2 rfl) ?_
      refine lv_if_eq (tgt := 227) hx hb dX12_done_220 (by decide) (fun c57 => ?_) (fun c57 => ?_)
      · rw [if_pos c57] at h
        refine lv_iconst (v := 0) hx hb dX12_done_227 (by decide) ?_
        exact pf_X12_done_228 C   0 z  hP hS (lv_sub hl [] rfl) h
      · rw [if_neg c57] at h
        exact pf_X12_done_223 C    z  hP hS (lv_sub hl [] rfl) h
  rw [if_neg c55] at h
  by_cases c58 : v0 = 58
  · rw [if_pos c58] at h
    refine lv_tableIn (off := 214) (tgt := 215) hx hb dX12_done_1 (by rw [c58]; decide) (by rw [c58]; decide) (by rw [c58]; rfl) (by decide) ?_
    refine lv_iload_n hx hb dX12_done_215 rfl (lv_at hl 1 rfl) ?_
    refine lv_if_ne (tgt := 223) hx hb dX12_done_216 (by decide) (fun c59 => ?_) (fun c59 => ?_)
    · rw [if_neg c59] at h
      exact pf_X12_done_223 C    z  hP hS (lv_sub hl [] rfl) h
    · rw [if_pos c59] at h
      refine lv_iload_n hx hb dX12_done_219 rfl (lv_at hl 2 rfl) ?_
      refine lv_if_eq (tgt := 227) hx hb dX12_done_220 (by decide) (fun c60 => ?_) (fun c60 => ?_)
      · rw [if_pos c60] at h
        refine lv_iconst (v := 0) hx hb dX12_done_227 (by decide) ?_
        exact pf_X12_done_228 C   0 z  hP hS (lv_sub hl [] rfl) h
      · rw [if_neg c60] at h
        exact pf_X12_done_223 C    z  hP hS (lv_sub hl [] rfl) h
  rw [if_neg c58] at h
  by_cases c61 : v0 = 59
  · rw [if_pos c61] at h
    refine lv_tableIn (off := 214) (tgt := 215) hx hb dX12_done_1 (by rw [c61]; decide) (by rw [c61]; decide) (by rw [c61]; rfl) (by decide) ?_
    refine lv_iload_n hx hb dX12_done_215 rfl (lv_at hl 1 rfl) ?_
    refine lv_if_ne (tgt := 223) hx hb dX12_done_216 (by decide) (fun c62 => ?_) (fun c62 => ?_)
    · rw [if_neg c62] at h
      exact pf_X12_done_223 C    z  hP hS (lv_sub hl [] rfl) h
    · rw [if_pos c62] at h
      refine lv_iload_n hx hb dX12_done_219 rfl (lv_at hl 2 rfl) ?_
      refine lv_if_eq (tgt := 227) hx hb dX12_done_220 (by decide) (fun c63 => ?_) (fun c63 => ?_)
      · rw [if_pos c63] at h
        refine lv_iconst (v := 0) hx hb dX12_done_227 (by decide) ?_
        exact pf_X12_done_228 C   0 z  hP hS (lv_sub hl [] rfl) h
      · rw [if_neg c63] at h
        exact pf_X12_done_223 C    z  hP hS (lv_sub hl [] rfl) h
  rw [if_neg c61] at h
  by_cases c64 : v0 = 60
  · rw [if_pos c64] at h
    refine lv_tableIn (off := 155) (tgt := 156) hx hb dX12_done_1 (by rw [c64]; decide) (by rw [c64]; decide) (by rw [c64]; rfl) (by decide) ?_
    refine lv_iload_n hx hb dX12_done_156 rfl (lv_at hl 1 rfl) ?_
    refine lv_iload_n hx hb dX12_done_157 rfl (lv_at hl 2 rfl) ?_
    refine lv_icmp_ge (tgt := 165) hx hb dX12_done_158 (by decide) (fun c65 => ?_) (fun c65 => ?_)
    · rw [if_pos c65] at h
      refine lv_iconst (v := 0) hx hb dX12_done_165 (by decide) ?_
      exact pf_X12_done_166 C   0 z  hP hS (lv_sub hl [] rfl) h
    · rw [if_neg c65] at h
      refine lv_iconst (v := 1) hx hb dX12_done_161 (by decide) ?_
      refine lv_goto (tgt := 166) hx hb dX12_done_162 (by decide) ?_
      exact pf_X12_done_166 C   1 z  hP hS (lv_sub hl [] rfl) h
  rw [if_neg c64] at h
  by_cases c66 : v0 = 61
  · rw [if_pos c66] at h
    refine lv_tableIn (off := 183) (tgt := 184) hx hb dX12_done_1 (by rw [c66]; decide) (by rw [c66]; decide) (by rw [c66]; rfl) (by decide) ?_
    refine lv_iload_n hx hb dX12_done_184 rfl (lv_at hl 1 rfl) ?_
    refine lv_iload_n hx hb dX12_done_185 rfl (lv_at hl 2 rfl) ?_
    refine lv_icmp_ne (tgt := 193) hx hb dX12_done_186 (by decide) (fun c67 => ?_) (fun c67 => ?_)
    · rw [if_neg c67] at h
      refine lv_iconst (v := 0) hx hb dX12_done_193 (by decide) ?_
      exact pf_X12_done_194 C   0 z  hP hS (lv_sub hl [] rfl) h
    · rw [if_pos c67] at h
      refine lv_iconst (v := 1) hx hb dX12_done_189 (by decide) ?_
      refine lv_goto (tgt := 194) hx hb dX12_done_190 (by decide) ?_
      exact pf_X12_done_194 C   1 z  hP hS (lv_sub hl [] rfl) h
  rw [if_neg c66] at h
  by_cases c68 : v0 = 62
  · rw [if_pos c68] at h
    refine lv_tableIn (off := 169) (tgt := 170) hx hb dX12_done_1 (by rw [c68]; decide) (by rw [c68]; decide) (by rw [c68]; rfl) (by decide) ?_
    refine lv_iload_n hx hb dX12_done_170 rfl (lv_at hl 1 rfl) ?_
    refine lv_iload_n hx hb dX12_done_171 rfl (lv_at hl 2 rfl) ?_
    refine lv_icmp_le (tgt := 179) hx hb dX12_done_172 (by decide) (fun c69 => ?_) (fun c69 => ?_)
    · rw [if_pos c69] at h
      refine lv_iconst (v := 0) hx hb dX12_done_179 (by decide) ?_
      exact pf_X12_done_180 C   0 z  hP hS (lv_sub hl [] rfl) h
    · rw [if_neg c69] at h
      refine lv_iconst (v := 1) hx hb dX12_done_175 (by decide) ?_
      refine lv_goto (tgt := 180) hx hb dX12_done_176 (by decide) ?_
      exact pf_X12_done_180 C   1 z  hP hS (lv_sub hl [] rfl) h
  rw [if_neg c68] at h
  have n72 : (v0 : Int32).toInt < 37 ∨ 62 < (v0 : Int32).toInt := by
    have c1_n := lv_neT (a := 37) c1 (by decide)
    have c4_n := lv_neT (a := 38) c4 (by decide)
    have c7_n := lv_neT (a := 39) c7 (by decide)
    have c10_n := lv_neT (a := 40) c10 (by decide)
    have c13_n := lv_neT (a := 41) c13 (by decide)
    have c16_n := lv_neT (a := 42) c16 (by decide)
    have c17_n := lv_neT (a := 43) c17 (by decide)
    have c18_n := lv_neT (a := 44) c18 (by decide)
    have c21_n := lv_neT (a := 45) c21 (by decide)
    have c22_n := lv_neT (a := 46) c22 (by decide)
    have c25_n := lv_neT (a := 47) c25 (by decide)
    have c28_n := lv_neT (a := 48) c28 (by decide)
    have c31_n := lv_neT (a := 49) c31 (by decide)
    have c34_n := lv_neT (a := 50) c34 (by decide)
    have c37_n := lv_neT (a := 51) c37 (by decide)
    have c40_n := lv_neT (a := 52) c40 (by decide)
    have c43_n := lv_neT (a := 53) c43 (by decide)
    have c46_n := lv_neT (a := 54) c46 (by decide)
    have c49_n := lv_neT (a := 55) c49 (by decide)
    have c52_n := lv_neT (a := 56) c52 (by decide)
    have c55_n := lv_neT (a := 57) c55 (by decide)
    have c58_n := lv_neT (a := 58) c58 (by decide)
    have c61_n := lv_neT (a := 59) c61 (by decide)
    have c64_n := lv_neT (a := 60) c64 (by decide)
    have c66_n := lv_neT (a := 61) c66 (by decide)
    have c68_n := lv_neT (a := 62) c68 (by decide)
    omega
  refine lv_tableOut (tgt := 215) hx hb dX12_done_1 n72 (by decide) ?_
  refine lv_iload_n hx hb dX12_done_215 rfl (lv_at hl 1 rfl) ?_
  refine lv_if_ne (tgt := 223) hx hb dX12_done_216 (by decide) (fun c70 => ?_) (fun c70 => ?_)
  · rw [if_neg c70] at h
    exact pf_X12_done_223 C    z  hP hS (lv_sub hl [] rfl) h
  · rw [if_pos c70] at h
    refine lv_iload_n hx hb dX12_done_219 rfl (lv_at hl 2 rfl) ?_
    refine lv_if_eq (tgt := 227) hx hb dX12_done_220 (by decide) (fun c71 => ?_) (fun c71 => ?_)
    · rw [if_pos c71] at h
      refine lv_iconst (v := 0) hx hb dX12_done_227 (by decide) ?_
      exact pf_X12_done_228 C   0 z  hP hS (lv_sub hl [] rfl) h
    · rw [if_neg c71] at h
      exact pf_X12_done_223 C    z  hP hS (lv_sub hl [] rfl) h
def fn_X12_worked_174 (k16 : Int32 → Int32 → Int32 → St → Option (Int32 × St)) (v1 : Int32) (v3 : Int32) (v4 : Int32) (z : St) : Option (Int32 × St) := k16 v1 v3 (v4 + 1) z
set_option maxHeartbeats 4000000 in
set_option maxRecDepth 100000 in
theorem pf_X12_worked_174 {p : Program} {l : Launch} {e : Env} {s : State} {m : MethodId} {args : Array Value} {below : List Frame} {meth : Method} {c : Code} {G : wG} (C : CX p s m args meth c cX12_worked 5 (wsU yX12_worked cX12_worked 5 (some .int)) RX12 (some .int) G) {Rz : Int32 × St} {k16 : Int32 → Int32 → Int32 → St → Option (Int32 × St)} (hk_16 : ∀ (v1 : Int32) (v3 : Int32) (v4 : Int32) (z : St)  (H : Heap) (locs : List Loc) (ls : Array Slot), WP G z H → va_S (AW G) s.heap H locs → lv_has ls 5 [(0, .ref (G.2.2 172)), (1, .int v1), (3, .int v3), (4, .int v4)] → k16 v1 v3 v4 z = some Rz → W p l e (rmd 3) s m args below meth c H locs 0 0 (QI below args s G Rz) (F0 m 16 ls [])) (v1 : Int32) (v3 : Int32) (v4 : Int32) (z : St)  {H : Heap} {locs : List Loc} {ls : Array Slot} (hP : WP G z H) (hS : va_S (AW G) s.heap H locs) (hl : lv_has ls 5 [(0, .ref (G.2.2 172)), (1, .int v1), (3, .int v3), (4, .int v4)]) (h : fn_X12_worked_174  k16 v1 v3 v4 z = some Rz) : W p l e (rmd 3) s m args below meth c H locs 0 0 (QI below args s G Rz) (F0 m 174 ls []) := by
  obtain ⟨hx, hb, hml, hown, hts, hr, hlocks, hK, hG⟩ := id C
  unfold fn_X12_worked_174 at h
  refine lv_iinc (v := (v4 + 1)) (lv' := [(4, .int (v4 + 1)), (0, .ref (G.2.2 172)), (1, .int v1), (3, .int v3)]) hx hb dX12_worked_174 hl (k := 3) rfl rfl (by decide) rfl (fun ls hl => ?_)
  refine lv_goto (tgt := 16) hx hb dX12_worked_177 (by decide) ?_
  exact hk_16 v1 v3 (v4 + 1) z  _ _ _ hP hS (lv_sub hl [1, 2, 3, 0] rfl) h
def fn_X12_worked_91 (k16 : Int32 → Int32 → Int32 → St → Option (Int32 × St)) (v1 : Int32) (v3 : Int32) (v4 : Int32) (tv1 : Int32) (tv2 : Int32) (z : St) : Option (Int32 × St) := gd (ix tv1 64) (nm (sI z 182 (Int32.toNatClampNeg tv1) tv2) (fun z2 => fn_X12_worked_174  k16 v1 (v3 + 1) v4 z2))
set_option maxHeartbeats 4000000 in
set_option maxRecDepth 100000 in
theorem pf_X12_worked_91 {p : Program} {l : Launch} {e : Env} {s : State} {m : MethodId} {args : Array Value} {below : List Frame} {meth : Method} {c : Code} {G : wG} (C : CX p s m args meth c cX12_worked 5 (wsU yX12_worked cX12_worked 5 (some .int)) RX12 (some .int) G) {Rz : Int32 × St} {k16 : Int32 → Int32 → Int32 → St → Option (Int32 × St)} (hk_16 : ∀ (v1 : Int32) (v3 : Int32) (v4 : Int32) (z : St)  (H : Heap) (locs : List Loc) (ls : Array Slot), WP G z H → va_S (AW G) s.heap H locs → lv_has ls 5 [(0, .ref (G.2.2 172)), (1, .int v1), (3, .int v3), (4, .int v4)] → k16 v1 v3 v4 z = some Rz → W p l e (rmd 3) s m args below meth c H locs 0 0 (QI below args s G Rz) (F0 m 16 ls [])) (v1 : Int32) (v3 : Int32) (v4 : Int32) (tv1 : Int32) (tv2 : Int32) (z : St)  {H : Heap} {locs : List Loc} {ls : Array Slot} (hP : WP G z H) (hS : va_S (AW G) s.heap H locs) (hl : lv_has ls 5 [(0, .ref (G.2.2 172)), (1, .int v1), (3, .int v3), (4, .int v4)]) (h : fn_X12_worked_91  k16 v1 v3 v4 tv1 tv2 z = some Rz) : W p l e (rmd 3) s m args below meth c H locs 0 0 (QI below args s G Rz) (F0 m 91 ls [.int tv2, .int tv1, .ref (G.2.2 182)]) := by
  obtain ⟨hx, hb, hml, hown, hts, hr, hlocks, hK, hG⟩ := id C
  unfold fn_X12_worked_91 at h
  obtain ⟨g1, h⟩ := gd_s h
  obtain ⟨z2, e_z2, h⟩ := nm_s h
  refine xs_14 hx hb hK hG hP hS k_182 l_182 (ix_in g1) dX12_worked_91 (fun H locs hP hS => ?_)
  rw [← e_z2] at hP
  refine lv_iinc (v := (v3 + 1)) (lv' := [(3, .int (v3 + 1)), (0, .ref (G.2.2 172)), (1, .int v1), (4, .int v4)]) hx hb dX12_worked_92 hl (k := 2) rfl rfl (by decide) rfl (fun ls hl => ?_)
  refine lv_goto (tgt := 174) hx hb dX12_worked_95 (by decide) ?_
  exact pf_X12_worked_174 C  hk_16 v1 (v3 + 1) v4 z2  hP hS (lv_sub hl [1, 2, 0, 3] rfl) h
def fn_X12_worked_54 (k16 : Int32 → Int32 → Int32 → St → Option (Int32 × St)) (v1 : Int32) (v3 : Int32) (v4 : Int32) (z : St) : Option (Int32 × St) := gd (ix v4 640) ((if (z.1 178 (Int32.toNatClampNeg v4)) = 0 then gd (ix v4 640) (fn_X12_worked_91  k16 v1 v3 v4 v3 (z.1 179 (Int32.toNatClampNeg v4)) z) else gd (ix v4 640) (gd (ix (z.1 179 (Int32.toNatClampNeg v4)) 6) (fn_X12_worked_91  k16 v1 v3 v4 v3 (z.1 184 (Int32.toNatClampNeg (z.1 179 (Int32.toNatClampNeg v4)))) z))))
set_option maxHeartbeats 4000000 in
set_option maxRecDepth 100000 in
theorem pf_X12_worked_54 {p : Program} {l : Launch} {e : Env} {s : State} {m : MethodId} {args : Array Value} {below : List Frame} {meth : Method} {c : Code} {G : wG} (C : CX p s m args meth c cX12_worked 5 (wsU yX12_worked cX12_worked 5 (some .int)) RX12 (some .int) G) {Rz : Int32 × St} {k16 : Int32 → Int32 → Int32 → St → Option (Int32 × St)} (hk_16 : ∀ (v1 : Int32) (v3 : Int32) (v4 : Int32) (z : St)  (H : Heap) (locs : List Loc) (ls : Array Slot), WP G z H → va_S (AW G) s.heap H locs → lv_has ls 5 [(0, .ref (G.2.2 172)), (1, .int v1), (3, .int v3), (4, .int v4)] → k16 v1 v3 v4 z = some Rz → W p l e (rmd 3) s m args below meth c H locs 0 0 (QI below args s G Rz) (F0 m 16 ls [])) (v1 : Int32) (v3 : Int32) (v4 : Int32) (z : St)  {H : Heap} {locs : List Loc} {ls : Array Slot} (hP : WP G z H) (hS : va_S (AW G) s.heap H locs) (hl : lv_has ls 5 [(0, .ref (G.2.2 172)), (1, .int v1), (3, .int v3), (4, .int v4)]) (h : fn_X12_worked_54  k16 v1 v3 v4 z = some Rz) : W p l e (rmd 3) s m args below meth c H locs 0 0 (QI below args s G Rz) (F0 m 54 ls []) := by
  obtain ⟨hx, hb, hml, hown, hts, hr, hlocks, hK, hG⟩ := id C
  unfold fn_X12_worked_54 at h
  refine lv_aload_n hx hb dX12_worked_54 rfl (lv_at hl 0 rfl) ?_
  refine ge_12_18 hx hb hts (inU inW_X12) hown hK hP k_172 (hts _ (List.mem_cons_of_mem _ lw_1452)) dX12_worked_55 ?_
  refine lv_iload_n hx hb dX12_worked_58 rfl (lv_at hl 2 rfl) ?_
  refine lv_aload_n hx hb dX12_worked_59 rfl (lv_at hl 0 rfl) ?_
  refine ge_12_14 hx hb hts (inU inW_X12) hown hK hP k_172 (hts _ (List.mem_cons_of_mem _ lw_1448)) dX12_worked_60 ?_
  refine lv_iload hx hb dX12_worked_63 (lv_at hl 3 rfl) ?_
  obtain ⟨g1, h⟩ := gd_s h
  refine xl_14 hx hb hK hP k_178 l_178 (ix_in g1) dX12_worked_65 ?_
  refine lv_if_ne (tgt := 79) hx hb dX12_worked_66 (by decide) (fun c2 => ?_) (fun c2 => ?_)
  · rw [if_neg c2] at h
    refine lv_aload_n hx hb dX12_worked_79 rfl (lv_at hl 0 rfl) ?_
    refine ge_12_26 hx hb hts (inU inW_X12) hown hK hP k_172 (hts _ (List.mem_cons_of_mem _ lw_1460)) dX12_worked_80 ?_
    refine lv_aload_n hx hb dX12_worked_83 rfl (lv_at hl 0 rfl) ?_
    refine ge_12_15 hx hb hts (inU inW_X12) hown hK hP k_172 (hts _ (List.mem_cons_of_mem _ lw_1449)) dX12_worked_84 ?_
    refine lv_iload hx hb dX12_worked_87 (lv_at hl 3 rfl) ?_
    obtain ⟨g3, h⟩ := gd_s h
    refine xl_14 hx hb hK hP k_179 l_179 (ix_in g3) dX12_worked_89 ?_
    obtain ⟨g4, h⟩ := gd_s h
    refine xl_14 hx hb hK hP k_184 l_184 (ix_in g4) dX12_worked_90 ?_
    exact pf_X12_worked_91 C  hk_16 v1 v3 v4 v3 (z.1 184 (Int32.toNatClampNeg (z.1 179 (Int32.toNatClampNeg v4)))) z  hP hS (lv_sub hl [0, 1, 2, 3] rfl) h
  · rw [if_pos c2] at h
    refine lv_aload_n hx hb dX12_worked_69 rfl (lv_at hl 0 rfl) ?_
    refine ge_12_15 hx hb hts (inU inW_X12) hown hK hP k_172 (hts _ (List.mem_cons_of_mem _ lw_1449)) dX12_worked_70 ?_
    refine lv_iload hx hb dX12_worked_73 (lv_at hl 3 rfl) ?_
    obtain ⟨g5, h⟩ := gd_s h
    refine xl_14 hx hb hK hP k_179 l_179 (ix_in g5) dX12_worked_75 ?_
    refine lv_goto (tgt := 91) hx hb dX12_worked_76 (by decide) ?_
    exact pf_X12_worked_91 C  hk_16 v1 v3 v4 v3 (z.1 179 (Int32.toNatClampNeg v4)) z  hP hS (lv_sub hl [0, 1, 2, 3] rfl) h
def fn_X12_worked_132 (k16 : Int32 → Int32 → Int32 → St → Option (Int32 × St)) (v1 : Int32) (v3 : Int32) (v4 : Int32) (tv1 : Int32) (tv2 : Int32) (z : St) : Option (Int32 × St) := bd (fn_X12_truth  tv2 z) (fun r2 z3 => gd (ix tv1 64) (nm (sI z3 182 (Int32.toNatClampNeg tv1) r2) (fun z5 => fn_X12_worked_174  k16 v1 v3 v4 z5)))
set_option maxHeartbeats 4000000 in
set_option maxRecDepth 100000 in
theorem pf_X12_worked_132 {p : Program} {l : Launch} {e : Env} {s : State} {m : MethodId} {args : Array Value} {below : List Frame} {meth : Method} {c : Code} {G : wG} (C : CX p s m args meth c cX12_worked 5 (wsU yX12_worked cX12_worked 5 (some .int)) RX12 (some .int) G) {Rz : Int32 × St} {k16 : Int32 → Int32 → Int32 → St → Option (Int32 × St)} (hk_16 : ∀ (v1 : Int32) (v3 : Int32) (v4 : Int32) (z : St)  (H : Heap) (locs : List Loc) (ls : Array Slot), WP G z H → va_S (AW G) s.heap H locs → lv_has ls 5 [(0, .ref (G.2.2 172)), (1, .int v1), (3, .int v3), (4, .int v4)] → k16 v1 v3 v4 z = some Rz → W p l e (rmd 3) s m args below meth c H locs 0 0 (QI below args s G Rz) (F0 m 16 ls [])) (v1 : Int32) (v3 : Int32) (v4 : Int32) (tv1 : Int32) (tv2 : Int32) (z : St)  {H : Heap} {locs : List Loc} {ls : Array Slot} (hP : WP G z H) (hS : va_S (AW G) s.heap H locs) (hl : lv_has ls 5 [(0, .ref (G.2.2 172)), (1, .int v1), (3, .int v3), (4, .int v4)]) (h : fn_X12_worked_132  k16 v1 v3 v4 tv1 tv2 z = some Rz) : W p l e (rmd 3) s m args below meth c H locs 0 0 (QI below args s G Rz) (F0 m 132 ls [.int tv2, .int tv1, .ref (G.2.2 182)]) := by
  obtain ⟨hx, hb, hml, hown, hts, hr, hlocks, hK, hG⟩ := id C
  unfold fn_X12_worked_132 at h
  obtain ⟨r2, z3, h1, h⟩ := bd_s h
  refine x_Si (Rz := (r2, z3)) (As := [.int tv2]) (rest := [.int tv1, .ref (G.2.2 182)]) ⟨hx, hb, hml, hown, hts⟩ hK hP hS (m_X12_truth hG   h1) (va_cwS 1 hts (gS lw_1842 lw_1843 lw_125 lw_1844) rfl rfl rfl (by decide +kernel) (rmd_ok (by decide) (by decide))) rfl hl.1 rfl (Nat.le_of_ble_eq_true rfl) dX12_worked_132 ⟨Nat.le_refl _, Nat.le_refl _⟩ (fun H locs hP hS => ?_)
  obtain ⟨g4, h⟩ := gd_s h
  obtain ⟨z5, e_z5, h⟩ := nm_s h
  refine xs_14 hx hb hK hG hP hS k_182 l_182 (ix_in g4) dX12_worked_135 (fun H locs hP hS => ?_)
  rw [← e_z5] at hP
  refine lv_goto (tgt := 174) hx hb dX12_worked_136 (by decide) ?_
  exact pf_X12_worked_174 C  hk_16 v1 v3 v4 z5  hP hS (lv_sub hl [0, 1, 2, 3] rfl) h
def fn_X12_worked_16 : Nat → Int32 → Int32 → Int32 → St → Option (Int32 × St)
  | 0, _, _, _, _ => none
  | n + 1, v1, v3, v4, z => gd (ix v1 2) ((if ((320 * v1) + (z.1 180 (Int32.toNatClampNeg v1))) ≤ v4 then some ((z.1 182 (Int32.toNatClampNeg 0)), z) else gd (ix v4 640) ((if (z.1 178 (Int32.toNatClampNeg v4)) = 0 then fn_X12_worked_54  (fn_X12_worked_16   n) v1 v3 v4 z else gd (ix v4 640) ((if (z.1 178 (Int32.toNatClampNeg v4)) = 1 then fn_X12_worked_54  (fn_X12_worked_16   n) v1 v3 v4 z else gd (ix v4 640) ((if (z.1 178 (Int32.toNatClampNeg v4)) = 2 then gd (ix (v3 - 1) 64) ((if (z.1 182 (Int32.toNatClampNeg (v3 - 1))) = 0 then fn_X12_worked_132  (fn_X12_worked_16   n) v1 v3 v4 (v3 - 1) 1 z else fn_X12_worked_132  (fn_X12_worked_16   n) v1 v3 v4 (v3 - 1) 0 z)) else gd (ix v4 640) (gd (ix ((v3 + (-1)) - 1) 64) (gd (ix (v3 + (-1)) 64) (bd (fn_X12_done  (z.1 179 (Int32.toNatClampNeg v4)) (z.1 182 (Int32.toNatClampNeg ((v3 + (-1)) - 1))) (z.1 182 (Int32.toNatClampNeg (v3 + (-1)))) z) (fun r13 z14 => gd (ix ((v3 + (-1)) - 1) 64) (nm (sI z14 182 (Int32.toNatClampNeg ((v3 + (-1)) - 1)) r13) (fun z16 => fn_X12_worked_174  (fn_X12_worked_16   n) v1 (v3 + (-1)) v4 z16))))))))))))))
set_option maxHeartbeats 4000000 in
set_option maxRecDepth 100000 in
theorem pf_X12_worked_16 {p : Program} {l : Launch} {e : Env} {s : State} {m : MethodId} {args : Array Value} {below : List Frame} {meth : Method} {c : Code} {G : wG} (C : CX p s m args meth c cX12_worked 5 (wsU yX12_worked cX12_worked 5 (some .int)) RX12 (some .int) G) {Rz : Int32 × St} : ∀ (n : Nat) (v1 : Int32) (v3 : Int32) (v4 : Int32) (z : St)  (H : Heap) (locs : List Loc) (ls : Array Slot), WP G z H → va_S (AW G) s.heap H locs → lv_has ls 5 [(0, .ref (G.2.2 172)), (1, .int v1), (3, .int v3), (4, .int v4)] → fn_X12_worked_16   n v1 v3 v4 z = some Rz → W p l e (rmd 3) s m args below meth c H locs 0 0 (QI below args s G Rz) (F0 m 16 ls []) := by
  obtain ⟨hx, hb, hml, hown, hts, hr, hlocks, hK, hG⟩ := id C
  intro n
  induction n with
  | zero => intro v1 v3 v4 z  H locs ls hP hS hl h; cases h
  | succ n ih =>
    intro v1 v3 v4 z  H locs ls hP hS hl h
    rw [fn_X12_worked_16] at h
    refine lv_iload hx hb dX12_worked_16 (lv_at hl 3 rfl) ?_
    refine lv_sipush (v := 320) hx hb dX12_worked_18 (by decide) ?_
    refine lv_iload_n hx hb dX12_worked_21 rfl (lv_at hl 1 rfl) ?_
    refine lv_imul hx hb dX12_worked_22 ?_
    refine lv_aload_n hx hb dX12_worked_23 rfl (lv_at hl 0 rfl) ?_
    refine ge_12_16 hx hb hts (inU inW_X12) hown hK hP k_172 (hts _ (List.mem_cons_of_mem _ lw_1450)) dX12_worked_24 ?_
    refine lv_iload_n hx hb dX12_worked_27 rfl (lv_at hl 1 rfl) ?_
    obtain ⟨g1, h⟩ := gd_s h
    refine xl_14 hx hb hK hP k_180 l_180 (ix_in g1) dX12_worked_28 ?_
    refine lv_iadd hx hb dX12_worked_29 ?_
    refine lv_icmp_ge (tgt := 180) hx hb dX12_worked_30 (by decide) (fun c2 => ?_) (fun c2 => ?_)
    · rw [if_pos c2] at h
      refine lv_aload_n hx hb dX12_worked_180 rfl (lv_at hl 0 rfl) ?_
      refine ge_12_18 hx hb hts (inU inW_X12) hown hK hP k_172 (hts _ (List.mem_cons_of_mem _ lw_1452)) dX12_worked_181 ?_
      refine lv_iconst (v := 0) hx hb dX12_worked_184 (by decide) ?_
      refine xl_14 hx hb hK hP k_182 l_182 (ix_in (by decide)) dX12_worked_185 ?_
      exact x_iret hx hb hr hlocks hK hP hS h dX12_worked_186
    · rw [if_neg c2] at h
      refine lv_aload_n hx hb dX12_worked_33 rfl (lv_at hl 0 rfl) ?_
      refine ge_12_14 hx hb hts (inU inW_X12) hown hK hP k_172 (hts _ (List.mem_cons_of_mem _ lw_1448)) dX12_worked_34 ?_
      refine lv_iload hx hb dX12_worked_37 (lv_at hl 3 rfl) ?_
      obtain ⟨g3, h⟩ := gd_s h
      refine xl_14 hx hb hK hP k_178 l_178 (ix_in g3) dX12_worked_39 ?_
      refine lv_if_eq (tgt := 54) hx hb dX12_worked_40 (by decide) (fun c4 => ?_) (fun c4 => ?_)
      · rw [if_pos c4] at h
        exact pf_X12_worked_54 C  ih v1 v3 v4 z  hP hS (lv_sub hl [0, 1, 2, 3] rfl) h
      · rw [if_neg c4] at h
        refine lv_aload_n hx hb dX12_worked_43 rfl (lv_at hl 0 rfl) ?_
        refine ge_12_14 hx hb hts (inU inW_X12) hown hK hP k_172 (hts _ (List.mem_cons_of_mem _ lw_1448)) dX12_worked_44 ?_
        refine lv_iload hx hb dX12_worked_47 (lv_at hl 3 rfl) ?_
        obtain ⟨g5, h⟩ := gd_s h
        refine xl_14 hx hb hK hP k_178 l_178 (ix_in g5) dX12_worked_49 ?_
        refine lv_iconst (v := 1) hx hb dX12_worked_50 (by decide) ?_
        refine lv_icmp_ne (tgt := 98) hx hb dX12_worked_51 (by decide) (fun c6 => ?_) (fun c6 => ?_)
        · rw [if_neg c6] at h
          refine lv_aload_n hx hb dX12_worked_98 rfl (lv_at hl 0 rfl) ?_
          refine ge_12_14 hx hb hts (inU inW_X12) hown hK hP k_172 (hts _ (List.mem_cons_of_mem _ lw_1448)) dX12_worked_99 ?_
          refine lv_iload hx hb dX12_worked_102 (lv_at hl 3 rfl) ?_
          obtain ⟨g7, h⟩ := gd_s h
          refine xl_14 hx hb hK hP k_178 l_178 (ix_in g7) dX12_worked_104 ?_
          refine lv_iconst (v := 2) hx hb dX12_worked_105 (by decide) ?_
          refine lv_icmp_ne (tgt := 139) hx hb dX12_worked_106 (by decide) (fun c8 => ?_) (fun c8 => ?_)
          · rw [if_neg c8] at h
            refine lv_iinc (v := (v3 + (-1))) (lv' := [(3, .int (v3 + (-1))), (0, .ref (G.2.2 172)), (1, .int v1), (4, .int v4)]) hx hb dX12_worked_139 hl (k := 2) rfl rfl (by decide) rfl (fun ls hl => ?_)
            refine lv_aload_n hx hb dX12_worked_142 rfl (lv_at hl 1 rfl) ?_
            refine ge_12_18 hx hb hts (inU inW_X12) hown hK hP k_172 (hts _ (List.mem_cons_of_mem _ lw_1452)) dX12_worked_143 ?_
            refine lv_iload_n hx hb dX12_worked_146 rfl (lv_at hl 0 rfl) ?_
            refine lv_iconst (v := 1) hx hb dX12_worked_147 (by decide) ?_
            refine lv_isub hx hb dX12_worked_148 ?_
            refine lv_aload_n hx hb dX12_worked_149 rfl (lv_at hl 1 rfl) ?_
            refine ge_12_15 hx hb hts (inU inW_X12) hown hK hP k_172 (hts _ (List.mem_cons_of_mem _ lw_1449)) dX12_worked_150 ?_
            refine lv_iload hx hb dX12_worked_153 (lv_at hl 3 rfl) ?_
            obtain ⟨g9, h⟩ := gd_s h
            refine xl_14 hx hb hK hP k_179 l_179 (ix_in g9) dX12_worked_155 ?_
            refine lv_aload_n hx hb dX12_worked_156 rfl (lv_at hl 1 rfl) ?_
            refine ge_12_18 hx hb hts (inU inW_X12) hown hK hP k_172 (hts _ (List.mem_cons_of_mem _ lw_1452)) dX12_worked_157 ?_
            refine lv_iload_n hx hb dX12_worked_160 rfl (lv_at hl 0 rfl) ?_
            refine lv_iconst (v := 1) hx hb dX12_worked_161 (by decide) ?_
            refine lv_isub hx hb dX12_worked_162 ?_
            obtain ⟨g10, h⟩ := gd_s h
            refine xl_14 hx hb hK hP k_182 l_182 (ix_in g10) dX12_worked_163 ?_
            refine lv_aload_n hx hb dX12_worked_164 rfl (lv_at hl 1 rfl) ?_
            refine ge_12_18 hx hb hts (inU inW_X12) hown hK hP k_172 (hts _ (List.mem_cons_of_mem _ lw_1452)) dX12_worked_165 ?_
            refine lv_iload_n hx hb dX12_worked_168 rfl (lv_at hl 0 rfl) ?_
            obtain ⟨g11, h⟩ := gd_s h
            refine xl_14 hx hb hK hP k_182 l_182 (ix_in g11) dX12_worked_169 ?_
            obtain ⟨r13, z14, h12, h⟩ := bd_s h
            refine x_Si (Rz := (r13, z14)) (As := [.int (z.1 179 (Int32.toNatClampNeg v4)), .int (z.1 182 (Int32.toNatClampNeg ((v3 + (-1)) - 1))), .int (z.1 182 (Int32.toNatClampNeg (v3 + (-1))))]) (rest := [.int ((v3 + (-1)) - 1), .ref (G.2.2 182)]) ⟨hx, hb, hml, hown, hts⟩ hK hP hS (m_X12_done hG   h12) (va_cwS 3 hts (gS lw_1869 lw_1870 lw_125 lw_1871) rfl rfl rfl (by decide +kernel) (rmd_ok (by decide) (by decide))) rfl hl.1 rfl (Nat.le_of_ble_eq_true rfl) dX12_worked_170 ⟨Nat.le_refl _, Nat.le_refl _⟩ (fun H locs hP hS => ?_)
            obtain ⟨g15, h⟩ := gd_s h
            obtain ⟨z16, e_z16, h⟩ := nm_s h
            refine xs_14 hx hb hK hG hP hS k_182 l_182 (ix_in g15) dX12_worked_173 (fun H locs hP hS => ?_)
            rw [← e_z16] at hP
            exact pf_X12_worked_174 C  ih v1 (v3 + (-1)) v4 z16  hP hS (lv_sub hl [1, 2, 0, 3] rfl) h
          · rw [if_pos c8] at h
            refine lv_aload_n hx hb dX12_worked_109 rfl (lv_at hl 0 rfl) ?_
            refine ge_12_18 hx hb hts (inU inW_X12) hown hK hP k_172 (hts _ (List.mem_cons_of_mem _ lw_1452)) dX12_worked_110 ?_
            refine lv_iload_n hx hb dX12_worked_113 rfl (lv_at hl 2 rfl) ?_
            refine lv_iconst (v := 1) hx hb dX12_worked_114 (by decide) ?_
            refine lv_isub hx hb dX12_worked_115 ?_
            refine lv_aload_n hx hb dX12_worked_116 rfl (lv_at hl 0 rfl) ?_
            refine ge_12_18 hx hb hts (inU inW_X12) hown hK hP k_172 (hts _ (List.mem_cons_of_mem _ lw_1452)) dX12_worked_117 ?_
            refine lv_iload_n hx hb dX12_worked_120 rfl (lv_at hl 2 rfl) ?_
            refine lv_iconst (v := 1) hx hb dX12_worked_121 (by decide) ?_
            refine lv_isub hx hb dX12_worked_122 ?_
            obtain ⟨g17, h⟩ := gd_s h
            refine xl_14 hx hb hK hP k_182 l_182 (ix_in g17) dX12_worked_123 ?_
            refine lv_if_ne (tgt := 131) hx hb dX12_worked_124 (by decide) (fun c18 => ?_) (fun c18 => ?_)
            · rw [if_neg c18] at h
              refine lv_iconst (v := 0) hx hb dX12_worked_131 (by decide) ?_
              exact pf_X12_worked_132 C  ih v1 v3 v4 (v3 - 1) 0 z  hP hS (lv_sub hl [0, 1, 2, 3] rfl) h
            · rw [if_pos c18] at h
              refine lv_iconst (v := 1) hx hb dX12_worked_127 (by decide) ?_
              refine lv_goto (tgt := 132) hx hb dX12_worked_128 (by decide) ?_
              exact pf_X12_worked_132 C  ih v1 v3 v4 (v3 - 1) 1 z  hP hS (lv_sub hl [0, 1, 2, 3] rfl) h
        · rw [if_pos c6] at h
          exact pf_X12_worked_54 C  ih v1 v3 v4 z  hP hS (lv_sub hl [0, 1, 2, 3] rfl) h
def fn_X12_worked (v1 : Int32) (v2 : Int32) (z : St) : Option (Int32 × St) := nm (sI z 182 (Int32.toNatClampNeg 0) v2) (fun z1 => nm (320 * v1) (fun v4_2 => fn_X12_worked_16   fu v1 0 v4_2 z1))
set_option maxHeartbeats 4000000 in
set_option maxRecDepth 100000 in
theorem m_X12_worked {l : Launch} {G : wG} (hG : Ok G) {v1 : Int32} {v2 : Int32} {z : St} {Rz : Int32 × St}  (h : fn_X12_worked  v1 v2 z = some Rz) : Met l yX12_worked (wsU yX12_worked cX12_worked 5 (some .int)) (rmd 3) (va_Pc [.ref (G.2.2 172), .int v1, .int v2] (Pre G z)) (va_Qi (fun r u => (r, u) = Rz) (Pre G) (AW G)) 0 0 (AW G) := by
  refine Met.ofW (cc := cX12_worked) (maxL := 5) (ret := (some .int)) (by decide) rfl ?_
  intro p e s m args below meth c s₁ B hml hv
  obtain ⟨rfl, hP, hK⟩ := hv
  have C : CX p s m ([.ref (G.2.2 172), .int v1, .int v2] : List Value).toArray meth c cX12_worked 5 (wsU yX12_worked cX12_worked 5 (some .int)) RX12 (some .int) G := ⟨B.exec, B.bytes, hml, findClass_of_methodNamed B.named, atoms_spec (ws := (wsU yX12_worked cX12_worked 5 (some .int))) B.pre, B.returns, B.notSynchronized, hK, hG⟩
  obtain ⟨hx, hb, -, hown, hts, hr, hlocks, -, -⟩ := id C
  have hS : va_S (AW G) s.heap s.heap [] := va_S.rf
  have hl := lv_entry [.ref (G.2.2 172), .int v1, .int v2] (n := 5) (Nat.le_of_ble_eq_true rfl)
  rw [lg_entry_eq]
  generalize (lg_sl [.ref (G.2.2 172), .int v1, .int v2] ++ List.replicate (5 - (lg_sl [.ref (G.2.2 172), .int v1, .int v2]).length) Slot.unset).toArray = ls at hl ⊢
  have hl : lv_has ls 5 [(0, .ref (G.2.2 172)), (1, .int v1), (2, .int v2)] := hl
  unfold fn_X12_worked at h
  refine lv_iconst (v := 0) hx hb dX12_worked_0 (by decide) ?_
  refine lv_istore_n (lv' := [(3, .int 0), (0, .ref (G.2.2 172)), (1, .int v1), (2, .int v2)]) hx hb dX12_worked_1 rfl hl (by decide) rfl (fun ls hl => ?_)
  refine lv_aload_n hx hb dX12_worked_2 rfl (lv_at hl 1 rfl) ?_
  refine ge_12_18 hx hb hts (inU inW_X12) hown hK hP k_172 (hts _ (List.mem_cons_of_mem _ lw_1452)) dX12_worked_3 ?_
  refine lv_iconst (v := 0) hx hb dX12_worked_6 (by decide) ?_
  refine lv_iload_n hx hb dX12_worked_7 rfl (lv_at hl 3 rfl) ?_
  obtain ⟨z1, e_z1, h⟩ := nm_s h
  refine xs_14 hx hb hK hG hP hS k_182 l_182 (ix_in (by decide)) dX12_worked_8 (fun H locs hP hS => ?_)
  rw [← e_z1] at hP
  refine lv_sipush (v := 320) hx hb dX12_worked_9 (by decide) ?_
  refine lv_iload_n hx hb dX12_worked_12 rfl (lv_at hl 2 rfl) ?_
  refine lv_imul hx hb dX12_worked_13 ?_
  obtain ⟨v4_2, e_v4_2, h⟩ := nm_s h
  refine x_top e_v4_2 ?_
  refine lv_istore (lv' := [(4, .int v4_2), (3, .int 0), (0, .ref (G.2.2 172)), (1, .int v1), (2, .int v2)]) hx hb dX12_worked_14 hl (by decide) rfl (fun ls hl => ?_)
  exact pf_X12_worked_16 C   fu v1 0 v4_2 z1  _ _ _ hP hS (lv_sub hl [2, 3, 1, 0] rfl) h
def fn_X12_readTier  (z : St) : Option (St) := bv (fn_X12_newName  0 (z.1 172 39) z) (fun z2 => nm (z2.1 172 39) (fun v1_3 => bd (fn_X12_toldNumber  1 8 z2) (fun r5 z6 => gd (ix v1_3 3) (nm (sI z6 185 (Int32.toNatClampNeg v1_3) r5) (fun z8 => bd (fn_X12_told  25209 1 8 z8) (fun r10 z11 => gd (ix v1_3 3) (nm (sI z11 186 (Int32.toNatClampNeg v1_3) r10) (fun z13 => bd (fn_X12_told  1751738216 1 9 z13) (fun r15 z16 => gd (ix v1_3 3) (nm (sI z16 187 (Int32.toNatClampNeg v1_3) r15) (fun z18 => (if (z18.1 172 2) = 0 then nm (sI z18 172 39 ((z18.1 172 39) + 1)) (fun z20 => some z20) else some z18))))))))))))
set_option maxHeartbeats 4000000 in
set_option maxRecDepth 100000 in
theorem m_X12_readTier {l : Launch} {G : wG} (hG : Ok G)  {z : St} {Rz : St}  (h : fn_X12_readTier   z = some Rz) : Met l yX12_readTier (wsU yX12_readTier cX12_readTier 2 none) (rmd 5) (va_Pc [.ref (G.2.2 172)] (Pre G z)) (va_Qv (fun u => u = Rz) (Pre G) (AW G)) 0 0 (AW G) := by
  refine Met.ofW (cc := cX12_readTier) (maxL := 2) (ret := none) (by decide) rfl ?_
  intro p e s m args below meth c s₁ B hml hv
  obtain ⟨rfl, hP, hK⟩ := hv
  have C : CX p s m ([.ref (G.2.2 172)] : List Value).toArray meth c cX12_readTier 2 (wsU yX12_readTier cX12_readTier 2 none) RX12 none G := ⟨B.exec, B.bytes, hml, findClass_of_methodNamed B.named, atoms_spec (ws := (wsU yX12_readTier cX12_readTier 2 none)) B.pre, B.returns, B.notSynchronized, hK, hG⟩
  obtain ⟨hx, hb, -, hown, hts, hr, hlocks, -, -⟩ := id C
  have hS : va_S (AW G) s.heap s.heap [] := va_S.rf
  have hl := lv_entry [.ref (G.2.2 172)] (n := 2) (Nat.le_of_ble_eq_true rfl)
  rw [lg_entry_eq]
  generalize (lg_sl [.ref (G.2.2 172)] ++ List.replicate (2 - (lg_sl [.ref (G.2.2 172)]).length) Slot.unset).toArray = ls at hl ⊢
  have hl : lv_has ls 2 [(0, .ref (G.2.2 172))] := hl
  unfold fn_X12_readTier at h
  refine lv_aload_n hx hb dX12_readTier_0 rfl (lv_at hl 0 rfl) ?_
  refine lv_iconst (v := 0) hx hb dX12_readTier_1 (by decide) ?_
  refine lv_aload_n hx hb dX12_readTier_2 rfl (lv_at hl 0 rfl) ?_
  refine ge_12_39 hx hb hts (inU inW_X12) hown hK hP k_172 (hts _ (List.mem_cons_of_mem _ lw_1473)) dX12_readTier_3 ?_
  obtain ⟨z2, h1, h⟩ := bv_s h
  refine x_Vv (Rz := z2) (As := [.int 0, .int (z.1 172 39)]) (rest := []) ⟨hx, hb, hml, hown, hts⟩ hK hP hS (kd_lt k_172 (by decide)) (cell_12 k_172) rfl (m_X12_newName hG   h1) (cwV 2 hts (gV lw_1710 lw_1712 lw_51 lw_125 lw_1713) rfl rfl rfl (by decide +kernel) (rmd_ok (by decide) (by decide))) rfl hl.1 rfl (Nat.le_of_ble_eq_true rfl) dX12_readTier_6 ⟨Nat.le_refl _, Nat.le_refl _⟩ (fun H locs hP hS => ?_)
  refine lv_aload_n hx hb dX12_readTier_9 rfl (lv_at hl 0 rfl) ?_
  refine ge_12_39 hx hb hts (inU inW_X12) hown hK hP k_172 (hts _ (List.mem_cons_of_mem _ lw_1473)) dX12_readTier_10 ?_
  obtain ⟨v1_3, e_v1_3, h⟩ := nm_s h
  refine x_top e_v1_3 ?_
  refine lv_istore_n (lv' := [(1, .int v1_3), (0, .ref (G.2.2 172))]) hx hb dX12_readTier_13 rfl hl (by decide) rfl (fun ls hl => ?_)
  refine lv_aload_n hx hb dX12_readTier_14 rfl (lv_at hl 1 rfl) ?_
  refine ge_12_27 hx hb hts (inU inW_X12) hown hK hP k_172 (hts _ (List.mem_cons_of_mem _ lw_1461)) dX12_readTier_15 ?_
  refine lv_iload_n hx hb dX12_readTier_18 rfl (lv_at hl 0 rfl) ?_
  refine lv_aload_n hx hb dX12_readTier_19 rfl (lv_at hl 1 rfl) ?_
  refine lv_iconst (v := 1) hx hb dX12_readTier_20 (by decide) ?_
  refine lv_bipush (v := 8) hx hb dX12_readTier_21 (by decide) ?_
  obtain ⟨r5, z6, h4, h⟩ := bd_s h
  refine x_Vi (Rz := (r5, z6)) (As := [.int 1, .int 8]) (rest := [.int v1_3, .ref (G.2.2 185)]) ⟨hx, hb, hml, hown, hts⟩ hK hP hS (kd_lt k_172 (by decide)) (cell_12 k_172) rfl (m_X12_toldNumber hG   h4) (cwV 2 hts (gV lw_1744 lw_1746 lw_55 lw_125 lw_1747) rfl rfl rfl (by decide +kernel) (rmd_ok (by decide) (by decide))) rfl hl.1 rfl (Nat.le_of_ble_eq_true rfl) dX12_readTier_23 ⟨Nat.le_refl _, Nat.le_refl _⟩ (fun H locs hP hS => ?_)
  obtain ⟨g7, h⟩ := gd_s h
  obtain ⟨z8, e_z8, h⟩ := nm_s h
  refine xs_14 hx hb hK hG hP hS k_185 l_185 (ix_in g7) dX12_readTier_26 (fun H locs hP hS => ?_)
  rw [← e_z8] at hP
  refine lv_aload_n hx hb dX12_readTier_27 rfl (lv_at hl 1 rfl) ?_
  refine ge_12_28 hx hb hts (inU inW_X12) hown hK hP k_172 (hts _ (List.mem_cons_of_mem _ lw_1462)) dX12_readTier_28 ?_
  refine lv_iload_n hx hb dX12_readTier_31 rfl (lv_at hl 0 rfl) ?_
  refine lv_aload_n hx hb dX12_readTier_32 rfl (lv_at hl 1 rfl) ?_
  refine lv_ldc2 (v := 25209) hx hb hown (hts _ (List.mem_cons_of_mem _ lw_1722)) dX12_readTier_33 ?_
  refine lv_iconst (v := 1) hx hb dX12_readTier_36 (by decide) ?_
  refine lv_bipush (v := 8) hx hb dX12_readTier_37 (by decide) ?_
  obtain ⟨r10, z11, h9, h⟩ := bd_s h
  refine x_Vi (Rz := (r10, z11)) (As := [.long 25209, .int 1, .int 8]) (rest := [.int v1_3, .ref (G.2.2 186)]) ⟨hx, hb, hml, hown, hts⟩ hK hP hS (kd_lt k_172 (by decide)) (cell_12 k_172) rfl (m_X12_told hG   h9) (cwV 3 hts (gV lw_1748 lw_1750 lw_56 lw_125 lw_1751) rfl rfl rfl (by decide +kernel) (rmd_ok (by decide) (by decide))) rfl hl.1 rfl (Nat.le_of_ble_eq_true rfl) dX12_readTier_39 ⟨Nat.le_refl _, Nat.le_refl _⟩ (fun H locs hP hS => ?_)
  obtain ⟨g12, h⟩ := gd_s h
  obtain ⟨z13, e_z13, h⟩ := nm_s h
  refine xs_14 hx hb hK hG hP hS k_186 l_186 (ix_in g12) dX12_readTier_42 (fun H locs hP hS => ?_)
  rw [← e_z13] at hP
  refine lv_aload_n hx hb dX12_readTier_43 rfl (lv_at hl 1 rfl) ?_
  refine ge_12_29 hx hb hts (inU inW_X12) hown hK hP k_172 (hts _ (List.mem_cons_of_mem _ lw_1463)) dX12_readTier_44 ?_
  refine lv_iload_n hx hb dX12_readTier_47 rfl (lv_at hl 0 rfl) ?_
  refine lv_aload_n hx hb dX12_readTier_48 rfl (lv_at hl 1 rfl) ?_
  refine lv_ldc2 (v := 1751738216) hx hb hown (hts _ (List.mem_cons_of_mem _ lw_1723)) dX12_readTier_49 ?_
  refine lv_iconst (v := 1) hx hb dX12_readTier_52 (by decide) ?_
  refine lv_bipush (v := 9) hx hb dX12_readTier_53 (by decide) ?_
  obtain ⟨r15, z16, h14, h⟩ := bd_s h
  refine x_Vi (Rz := (r15, z16)) (As := [.long 1751738216, .int 1, .int 9]) (rest := [.int v1_3, .ref (G.2.2 187)]) ⟨hx, hb, hml, hown, hts⟩ hK hP hS (kd_lt k_172 (by decide)) (cell_12 k_172) rfl (m_X12_told hG   h14) (cwV 3 hts (gV lw_1748 lw_1750 lw_56 lw_125 lw_1751) rfl rfl rfl (by decide +kernel) (rmd_ok (by decide) (by decide))) rfl hl.1 rfl (Nat.le_of_ble_eq_true rfl) dX12_readTier_55 ⟨Nat.le_refl _, Nat.le_refl _⟩ (fun H locs hP hS => ?_)
  obtain ⟨g17, h⟩ := gd_s h
  obtain ⟨z18, e_z18, h⟩ := nm_s h
  refine xs_14 hx hb hK hG hP hS k_187 l_187 (ix_in g17) dX12_readTier_58 (fun H locs hP hS => ?_)
  rw [← e_z18] at hP
  refine lv_aload_n hx hb dX12_readTier_59 rfl (lv_at hl 1 rfl) ?_
  refine ge_12_2 hx hb hts (inU inW_X12) hown hK hP k_172 (hts _ (List.mem_cons_of_mem _ lw_1436)) dX12_readTier_60 ?_
  refine lv_if_ne (tgt := 76) hx hb dX12_readTier_63 (by decide) (fun c19 => ?_) (fun c19 => ?_)
  · rw [if_neg c19] at h
    exact x_vret hx hb hr hlocks hK hP hS h dX12_readTier_76
  · rw [if_pos c19] at h
    refine lv_aload_n hx hb dX12_readTier_66 rfl (lv_at hl 1 rfl) ?_
    refine lv_dup hx hb dX12_readTier_67 rfl ?_
    refine ge_12_39 hx hb hts (inU inW_X12) hown hK hP k_172 (hts _ (List.mem_cons_of_mem _ lw_1473)) dX12_readTier_68 ?_
    refine lv_iconst (v := 1) hx hb dX12_readTier_71 (by decide) ?_
    refine lv_iadd hx hb dX12_readTier_72 ?_
    obtain ⟨z20, e_z20, h⟩ := nm_s h
    refine pu_12_39 hx hb hts (inU inW_X12) hown hK hG hP hS k_172 (hts _ (List.mem_cons_of_mem _ lw_1473)) dX12_readTier_73 (fun H locs hP hS => ?_)
    rw [← e_z20] at hP
    exact x_vret hx hb hr hlocks hK hP hS h dX12_readTier_76
def fn_X12_readGuest  (z : St) : Option (St) := bv (fn_X12_newName  3 (z.1 172 40) z) (fun z2 => nm (z2.1 172 40) (fun v1_3 => bd (fn_X12_told  512735736947 0 999 z2) (fun r5 z6 => gd (ix v1_3 6) (nm (sI z6 191 (Int32.toNatClampNeg v1_3) r5) (fun z8 => bd (fn_X12_option  495924372852 9 0 z8) (fun r10 z11 => gd (ix v1_3 6) (nm (sI z11 192 (Int32.toNatClampNeg v1_3) r10) (fun z13 => bd (fn_X12_option  427071202675 100 100 z13) (fun r15 z16 => gd (ix v1_3 6) (nm (sI z16 193 (Int32.toNatClampNeg v1_3) r15) (fun z18 => (if (z18.1 172 2) = 0 then nm (sI z18 172 40 ((z18.1 172 40) + 1)) (fun z20 => some z20) else some z18))))))))))))
set_option maxHeartbeats 4000000 in
set_option maxRecDepth 100000 in
theorem m_X12_readGuest {l : Launch} {G : wG} (hG : Ok G)  {z : St} {Rz : St}  (h : fn_X12_readGuest   z = some Rz) : Met l yX12_readGuest (wsU yX12_readGuest cX12_readGuest 2 none) (rmd 6) (va_Pc [.ref (G.2.2 172)] (Pre G z)) (va_Qv (fun u => u = Rz) (Pre G) (AW G)) 0 0 (AW G) := by
  refine Met.ofW (cc := cX12_readGuest) (maxL := 2) (ret := none) (by decide) rfl ?_
  intro p e s m args below meth c s₁ B hml hv
  obtain ⟨rfl, hP, hK⟩ := hv
  have C : CX p s m ([.ref (G.2.2 172)] : List Value).toArray meth c cX12_readGuest 2 (wsU yX12_readGuest cX12_readGuest 2 none) RX12 none G := ⟨B.exec, B.bytes, hml, findClass_of_methodNamed B.named, atoms_spec (ws := (wsU yX12_readGuest cX12_readGuest 2 none)) B.pre, B.returns, B.notSynchronized, hK, hG⟩
  obtain ⟨hx, hb, -, hown, hts, hr, hlocks, -, -⟩ := id C
  have hS : va_S (AW G) s.heap s.heap [] := va_S.rf
  have hl := lv_entry [.ref (G.2.2 172)] (n := 2) (Nat.le_of_ble_eq_true rfl)
  rw [lg_entry_eq]
  generalize (lg_sl [.ref (G.2.2 172)] ++ List.replicate (2 - (lg_sl [.ref (G.2.2 172)]).length) Slot.unset).toArray = ls at hl ⊢
  have hl : lv_has ls 2 [(0, .ref (G.2.2 172))] := hl
  unfold fn_X12_readGuest at h
  refine lv_aload_n hx hb dX12_readGuest_0 rfl (lv_at hl 0 rfl) ?_
  refine lv_iconst (v := 3) hx hb dX12_readGuest_1 (by decide) ?_
  refine lv_aload_n hx hb dX12_readGuest_2 rfl (lv_at hl 0 rfl) ?_
  refine ge_12_40 hx hb hts (inU inW_X12) hown hK hP k_172 (hts _ (List.mem_cons_of_mem _ lw_1474)) dX12_readGuest_3 ?_
  obtain ⟨z2, h1, h⟩ := bv_s h
  refine x_Vv (Rz := z2) (As := [.int 3, .int (z.1 172 40)]) (rest := []) ⟨hx, hb, hml, hown, hts⟩ hK hP hS (kd_lt k_172 (by decide)) (cell_12 k_172) rfl (m_X12_newName hG   h1) (cwV 2 hts (gV lw_1710 lw_1712 lw_51 lw_125 lw_1713) rfl rfl rfl (by decide +kernel) (rmd_ok (by decide) (by decide))) rfl hl.1 rfl (Nat.le_of_ble_eq_true rfl) dX12_readGuest_6 ⟨Nat.le_refl _, Nat.le_refl _⟩ (fun H locs hP hS => ?_)
  refine lv_aload_n hx hb dX12_readGuest_9 rfl (lv_at hl 0 rfl) ?_
  refine ge_12_40 hx hb hts (inU inW_X12) hown hK hP k_172 (hts _ (List.mem_cons_of_mem _ lw_1474)) dX12_readGuest_10 ?_
  obtain ⟨v1_3, e_v1_3, h⟩ := nm_s h
  refine x_top e_v1_3 ?_
  refine lv_istore_n (lv' := [(1, .int v1_3), (0, .ref (G.2.2 172))]) hx hb dX12_readGuest_13 rfl hl (by decide) rfl (fun ls hl => ?_)
  refine lv_aload_n hx hb dX12_readGuest_14 rfl (lv_at hl 1 rfl) ?_
  refine ge_12_33 hx hb hts (inU inW_X12) hown hK hP k_172 (hts _ (List.mem_cons_of_mem _ lw_1467)) dX12_readGuest_15 ?_
  refine lv_iload_n hx hb dX12_readGuest_18 rfl (lv_at hl 0 rfl) ?_
  refine lv_aload_n hx hb dX12_readGuest_19 rfl (lv_at hl 1 rfl) ?_
  refine lv_ldc2 (v := 512735736947) hx hb hown (hts _ (List.mem_cons_of_mem _ lw_1725)) dX12_readGuest_20 ?_
  refine lv_iconst (v := 0) hx hb dX12_readGuest_23 (by decide) ?_
  refine lv_sipush (v := 999) hx hb dX12_readGuest_24 (by decide) ?_
  obtain ⟨r5, z6, h4, h⟩ := bd_s h
  refine x_Vi (Rz := (r5, z6)) (As := [.long 512735736947, .int 0, .int 999]) (rest := [.int v1_3, .ref (G.2.2 191)]) ⟨hx, hb, hml, hown, hts⟩ hK hP hS (kd_lt k_172 (by decide)) (cell_12 k_172) rfl (m_X12_told hG   h4) (cwV 3 hts (gV lw_1748 lw_1750 lw_56 lw_125 lw_1751) rfl rfl rfl (by decide +kernel) (rmd_ok (by decide) (by decide))) rfl hl.1 rfl (Nat.le_of_ble_eq_true rfl) dX12_readGuest_27 ⟨Nat.le_refl _, Nat.le_refl _⟩ (fun H locs hP hS => ?_)
  obtain ⟨g7, h⟩ := gd_s h
  obtain ⟨z8, e_z8, h⟩ := nm_s h
  refine xs_14 hx hb hK hG hP hS k_191 l_191 (ix_in g7) dX12_readGuest_30 (fun H locs hP hS => ?_)
  rw [← e_z8] at hP
  refine lv_aload_n hx hb dX12_readGuest_31 rfl (lv_at hl 1 rfl) ?_
  refine ge_12_34 hx hb hts (inU inW_X12) hown hK hP k_172 (hts _ (List.mem_cons_of_mem _ lw_1468)) dX12_readGuest_32 ?_
  refine lv_iload_n hx hb dX12_readGuest_35 rfl (lv_at hl 0 rfl) ?_
  refine lv_aload_n hx hb dX12_readGuest_36 rfl (lv_at hl 1 rfl) ?_
  refine lv_ldc2 (v := 495924372852) hx hb hown (hts _ (List.mem_cons_of_mem _ lw_1726)) dX12_readGuest_37 ?_
  refine lv_bipush (v := 9) hx hb dX12_readGuest_40 (by decide) ?_
  refine lv_iconst (v := 0) hx hb dX12_readGuest_42 (by decide) ?_
  obtain ⟨r10, z11, h9, h⟩ := bd_s h
  refine x_Vi (Rz := (r10, z11)) (As := [.long 495924372852, .int 9, .int 0]) (rest := [.int v1_3, .ref (G.2.2 192)]) ⟨hx, hb, hml, hown, hts⟩ hK hP hS (kd_lt k_172 (by decide)) (cell_12 k_172) rfl (m_X12_option hG   h9) (cwV 3 hts (gV lw_1760 lw_1762 lw_59 lw_125 lw_1763) rfl rfl rfl (by decide +kernel) (rmd_ok (by decide) (by decide))) rfl hl.1 rfl (Nat.le_of_ble_eq_true rfl) dX12_readGuest_43 ⟨Nat.le_refl _, Nat.le_refl _⟩ (fun H locs hP hS => ?_)
  obtain ⟨g12, h⟩ := gd_s h
  obtain ⟨z13, e_z13, h⟩ := nm_s h
  refine xs_14 hx hb hK hG hP hS k_192 l_192 (ix_in g12) dX12_readGuest_46 (fun H locs hP hS => ?_)
  rw [← e_z13] at hP
  refine lv_aload_n hx hb dX12_readGuest_47 rfl (lv_at hl 1 rfl) ?_
  refine ge_12_35 hx hb hts (inU inW_X12) hown hK hP k_172 (hts _ (List.mem_cons_of_mem _ lw_1469)) dX12_readGuest_48 ?_
  refine lv_iload_n hx hb dX12_readGuest_51 rfl (lv_at hl 0 rfl) ?_
  refine lv_aload_n hx hb dX12_readGuest_52 rfl (lv_at hl 1 rfl) ?_
  refine lv_ldc2 (v := 427071202675) hx hb hown (hts _ (List.mem_cons_of_mem _ lw_1727)) dX12_readGuest_53 ?_
  refine lv_bipush (v := 100) hx hb dX12_readGuest_56 (by decide) ?_
  refine lv_bipush (v := 100) hx hb dX12_readGuest_58 (by decide) ?_
  obtain ⟨r15, z16, h14, h⟩ := bd_s h
  refine x_Vi (Rz := (r15, z16)) (As := [.long 427071202675, .int 100, .int 100]) (rest := [.int v1_3, .ref (G.2.2 193)]) ⟨hx, hb, hml, hown, hts⟩ hK hP hS (kd_lt k_172 (by decide)) (cell_12 k_172) rfl (m_X12_option hG   h14) (cwV 3 hts (gV lw_1760 lw_1762 lw_59 lw_125 lw_1763) rfl rfl rfl (by decide +kernel) (rmd_ok (by decide) (by decide))) rfl hl.1 rfl (Nat.le_of_ble_eq_true rfl) dX12_readGuest_60 ⟨Nat.le_refl _, Nat.le_refl _⟩ (fun H locs hP hS => ?_)
  obtain ⟨g17, h⟩ := gd_s h
  obtain ⟨z18, e_z18, h⟩ := nm_s h
  refine xs_14 hx hb hK hG hP hS k_193 l_193 (ix_in g17) dX12_readGuest_63 (fun H locs hP hS => ?_)
  rw [← e_z18] at hP
  refine lv_aload_n hx hb dX12_readGuest_64 rfl (lv_at hl 1 rfl) ?_
  refine ge_12_2 hx hb hts (inU inW_X12) hown hK hP k_172 (hts _ (List.mem_cons_of_mem _ lw_1436)) dX12_readGuest_65 ?_
  refine lv_if_ne (tgt := 81) hx hb dX12_readGuest_68 (by decide) (fun c19 => ?_) (fun c19 => ?_)
  · rw [if_neg c19] at h
    exact x_vret hx hb hr hlocks hK hP hS h dX12_readGuest_81
  · rw [if_pos c19] at h
    refine lv_aload_n hx hb dX12_readGuest_71 rfl (lv_at hl 1 rfl) ?_
    refine lv_dup hx hb dX12_readGuest_72 rfl ?_
    refine ge_12_40 hx hb hts (inU inW_X12) hown hK hP k_172 (hts _ (List.mem_cons_of_mem _ lw_1474)) dX12_readGuest_73 ?_
    refine lv_iconst (v := 1) hx hb dX12_readGuest_76 (by decide) ?_
    refine lv_iadd hx hb dX12_readGuest_77 ?_
    obtain ⟨z20, e_z20, h⟩ := nm_s h
    refine pu_12_40 hx hb hts (inU inW_X12) hown hK hG hP hS k_172 (hts _ (List.mem_cons_of_mem _ lw_1474)) dX12_readGuest_78 (fun H locs hP hS => ?_)
    rw [← e_z20] at hP
    exact x_vret hx hb hr hlocks hK hP hS h dX12_readGuest_81
def fn_X12_readLine_210  (z : St) : Option (St) := (if (z.1 172 2) = 0 then bv (fn_X12_token   z) (fun z3 => some z3) else some z)
set_option maxHeartbeats 4000000 in
set_option maxRecDepth 100000 in
theorem pf_X12_readLine_210 {p : Program} {l : Launch} {e : Env} {s : State} {m : MethodId} {args : Array Value} {below : List Frame} {meth : Method} {c : Code} {G : wG} (C : CX p s m args meth c cX12_readLine 1 (wsU yX12_readLine cX12_readLine 1 none) RX12 none G) {Rz : St}  (z : St)  {H : Heap} {locs : List Loc} {ls : Array Slot} (hP : WP G z H) (hS : va_S (AW G) s.heap H locs) (hl : lv_has ls 1 [(0, .ref (G.2.2 172))]) (h : fn_X12_readLine_210    z = some Rz) : W p l e (rmd 7) s m args below meth c H locs 0 0 (QV below args s G Rz) (F0 m 210 ls []) := by
  obtain ⟨hx, hb, hml, hown, hts, hr, hlocks, hK, hG⟩ := id C
  unfold fn_X12_readLine_210 at h
  refine lv_aload_n hx hb dX12_readLine_210 rfl (lv_at hl 0 rfl) ?_
  refine ge_12_2 hx hb hts (inU inW_X12) hown hK hP k_172 (hts _ (List.mem_cons_of_mem _ lw_1436)) dX12_readLine_211 ?_
  refine lv_if_ne (tgt := 221) hx hb dX12_readLine_214 (by decide) (fun c1 => ?_) (fun c1 => ?_)
  · rw [if_neg c1] at h
    exact x_vret hx hb hr hlocks hK hP hS h dX12_readLine_221
  · rw [if_pos c1] at h
    refine lv_aload_n hx hb dX12_readLine_217 rfl (lv_at hl 0 rfl) ?_
    obtain ⟨z3, h2, h⟩ := bv_s h
    refine x_Vv (Rz := z3) (As := []) (rest := []) ⟨hx, hb, hml, hown, hts⟩ hK hP hS (kd_lt k_172 (by decide)) (cell_12 k_172) rfl (m_X12_token hG   h2) (cwV 0 hts (gV lw_1680 lw_1682 lw_46 lw_125 lw_1683) rfl rfl rfl (by decide +kernel) (rmd_ok (by decide) (by decide))) rfl hl.1 rfl (Nat.le_of_ble_eq_true rfl) dX12_readLine_218 ⟨Nat.le_refl _, Nat.le_refl _⟩ (fun H locs hP hS => ?_)
    exact x_vret hx hb hr hlocks hK hP hS h dX12_readLine_221
def fn_X12_readLine_189  (z : St) : Option (St) := (if (z.1 172 2) = 0 then (if (z.1 172 6) = 59 then fn_X12_readLine_210    z else bv (fn_X12_wrong  2 z) (fun z4 => fn_X12_readLine_210    z4)) else fn_X12_readLine_210    z)
set_option maxHeartbeats 4000000 in
set_option maxRecDepth 100000 in
theorem pf_X12_readLine_189 {p : Program} {l : Launch} {e : Env} {s : State} {m : MethodId} {args : Array Value} {below : List Frame} {meth : Method} {c : Code} {G : wG} (C : CX p s m args meth c cX12_readLine 1 (wsU yX12_readLine cX12_readLine 1 none) RX12 none G) {Rz : St}  (z : St)  {H : Heap} {locs : List Loc} {ls : Array Slot} (hP : WP G z H) (hS : va_S (AW G) s.heap H locs) (hl : lv_has ls 1 [(0, .ref (G.2.2 172))]) (h : fn_X12_readLine_189    z = some Rz) : W p l e (rmd 7) s m args below meth c H locs 0 0 (QV below args s G Rz) (F0 m 189 ls []) := by
  obtain ⟨hx, hb, hml, hown, hts, hr, hlocks, hK, hG⟩ := id C
  unfold fn_X12_readLine_189 at h
  refine lv_aload_n hx hb dX12_readLine_189 rfl (lv_at hl 0 rfl) ?_
  refine ge_12_2 hx hb hts (inU inW_X12) hown hK hP k_172 (hts _ (List.mem_cons_of_mem _ lw_1436)) dX12_readLine_190 ?_
  refine lv_if_ne (tgt := 210) hx hb dX12_readLine_193 (by decide) (fun c1 => ?_) (fun c1 => ?_)
  · rw [if_neg c1] at h
    exact pf_X12_readLine_210 C    z  hP hS (lv_sub hl [0] rfl) h
  · rw [if_pos c1] at h
    refine lv_aload_n hx hb dX12_readLine_196 rfl (lv_at hl 0 rfl) ?_
    refine ge_12_6 hx hb hts (inU inW_X12) hown hK hP k_172 (hts _ (List.mem_cons_of_mem _ lw_1440)) dX12_readLine_197 ?_
    refine lv_bipush (v := 59) hx hb dX12_readLine_200 (by decide) ?_
    refine lv_icmp_eq (tgt := 210) hx hb dX12_readLine_202 (by decide) (fun c2 => ?_) (fun c2 => ?_)
    · rw [if_pos c2] at h
      exact pf_X12_readLine_210 C    z  hP hS (lv_sub hl [0] rfl) h
    · rw [if_neg c2] at h
      refine lv_aload_n hx hb dX12_readLine_205 rfl (lv_at hl 0 rfl) ?_
      refine lv_iconst (v := 2) hx hb dX12_readLine_206 (by decide) ?_
      obtain ⟨z4, h3, h⟩ := bv_s h
      refine x_Vv (Rz := z4) (As := [.int 2]) (rest := []) ⟨hx, hb, hml, hown, hts⟩ hK hP hS (kd_lt k_172 (by decide)) (cell_12 k_172) rfl (m_X12_wrong hG   h3) (cwV 1 hts (gV lw_1740 lw_1742 lw_54 lw_125 lw_1743) rfl rfl rfl (by decide +kernel) (rmd_ok (by decide) (by decide))) rfl hl.1 rfl (Nat.le_of_ble_eq_true rfl) dX12_readLine_207 ⟨Nat.le_refl _, Nat.le_refl _⟩ (fun H locs hP hS => ?_)
      exact pf_X12_readLine_210 C    z4  hP hS (lv_sub hl [0] rfl) h
def fn_X12_readLine_184  (z : St) : Option (St) := bv (fn_X12_wrong  2 z) (fun z2 => fn_X12_readLine_189    z2)
set_option maxHeartbeats 4000000 in
set_option maxRecDepth 100000 in
theorem pf_X12_readLine_184 {p : Program} {l : Launch} {e : Env} {s : State} {m : MethodId} {args : Array Value} {below : List Frame} {meth : Method} {c : Code} {G : wG} (C : CX p s m args meth c cX12_readLine 1 (wsU yX12_readLine cX12_readLine 1 none) RX12 none G) {Rz : St}  (z : St)  {H : Heap} {locs : List Loc} {ls : Array Slot} (hP : WP G z H) (hS : va_S (AW G) s.heap H locs) (hl : lv_has ls 1 [(0, .ref (G.2.2 172))]) (h : fn_X12_readLine_184    z = some Rz) : W p l e (rmd 7) s m args below meth c H locs 0 0 (QV below args s G Rz) (F0 m 184 ls []) := by
  obtain ⟨hx, hb, hml, hown, hts, hr, hlocks, hK, hG⟩ := id C
  unfold fn_X12_readLine_184 at h
  refine lv_aload_n hx hb dX12_readLine_184 rfl (lv_at hl 0 rfl) ?_
  refine lv_iconst (v := 2) hx hb dX12_readLine_185 (by decide) ?_
  obtain ⟨z2, h1, h⟩ := bv_s h
  refine x_Vv (Rz := z2) (As := [.int 2]) (rest := []) ⟨hx, hb, hml, hown, hts⟩ hK hP hS (kd_lt k_172 (by decide)) (cell_12 k_172) rfl (m_X12_wrong hG   h1) (cwV 1 hts (gV lw_1740 lw_1742 lw_54 lw_125 lw_1743) rfl rfl rfl (by decide +kernel) (rmd_ok (by decide) (by decide))) rfl hl.1 rfl (Nat.le_of_ble_eq_true rfl) dX12_readLine_186 ⟨Nat.le_refl _, Nat.le_refl _⟩ (fun H locs hP hS => ?_)
  exact pf_X12_readLine_189 C    z2  hP hS (lv_sub hl [0] rfl) h
def fn_X12_readLine_144  (z : St) : Option (St) := bd (fn_X12_isWord  1685217655 z) (fun r2 z3 => (if r2 = 0 then fn_X12_readLine_184    z3 else (if (z3.1 172 47) = 0 then nm (sI z3 172 47 1) (fun z6 => bd (fn_X12_told  1685217655 0 999 z6) (fun r8 z9 => nm (sI z9 172 42 r8) (fun z10 => fn_X12_readLine_189    z10))) else fn_X12_readLine_184    z3)))
set_option maxHeartbeats 4000000 in
set_option maxRecDepth 100000 in
theorem pf_X12_readLine_144 {p : Program} {l : Launch} {e : Env} {s : State} {m : MethodId} {args : Array Value} {below : List Frame} {meth : Method} {c : Code} {G : wG} (C : CX p s m args meth c cX12_readLine 1 (wsU yX12_readLine cX12_readLine 1 none) RX12 none G) {Rz : St}  (z : St)  {H : Heap} {locs : List Loc} {ls : Array Slot} (hP : WP G z H) (hS : va_S (AW G) s.heap H locs) (hl : lv_has ls 1 [(0, .ref (G.2.2 172))]) (h : fn_X12_readLine_144    z = some Rz) : W p l e (rmd 7) s m args below meth c H locs 0 0 (QV below args s G Rz) (F0 m 144 ls []) := by
  obtain ⟨hx, hb, hml, hown, hts, hr, hlocks, hK, hG⟩ := id C
  unfold fn_X12_readLine_144 at h
  refine lv_aload_n hx hb dX12_readLine_144 rfl (lv_at hl 0 rfl) ?_
  refine lv_ldc2 (v := 1685217655) hx hb hown (hts _ (List.mem_cons_of_mem _ lw_1731)) dX12_readLine_145 ?_
  obtain ⟨r2, z3, h1, h⟩ := bd_s h
  refine x_Vi (Rz := (r2, z3)) (As := [.long 1685217655]) (rest := []) ⟨hx, hb, hml, hown, hts⟩ hK hP hS (kd_lt k_172 (by decide)) (cell_12 k_172) rfl (m_X12_isWord hG   h1) (cwV 1 hts (gV lw_1702 lw_1704 lw_49 lw_125 lw_1705) rfl rfl rfl (by decide +kernel) (rmd_ok (by decide) (by decide))) rfl hl.1 rfl (Nat.le_of_ble_eq_true rfl) dX12_readLine_148 ⟨Nat.le_refl _, Nat.le_refl _⟩ (fun H locs hP hS => ?_)
  refine lv_if_eq (tgt := 184) hx hb dX12_readLine_151 (by decide) (fun c4 => ?_) (fun c4 => ?_)
  · rw [if_pos c4] at h
    exact pf_X12_readLine_184 C    z3  hP hS (lv_sub hl [0] rfl) h
  · rw [if_neg c4] at h
    refine lv_aload_n hx hb dX12_readLine_154 rfl (lv_at hl 0 rfl) ?_
    refine ge_12_47 hx hb hts (inU inW_X12) hown hK hP k_172 (hts _ (List.mem_cons_of_mem _ lw_1481)) dX12_readLine_155 ?_
    refine lv_if_ne (tgt := 184) hx hb dX12_readLine_158 (by decide) (fun c5 => ?_) (fun c5 => ?_)
    · rw [if_neg c5] at h
      exact pf_X12_readLine_184 C    z3  hP hS (lv_sub hl [0] rfl) h
    · rw [if_pos c5] at h
      refine lv_aload_n hx hb dX12_readLine_161 rfl (lv_at hl 0 rfl) ?_
      refine lv_iconst (v := 1) hx hb dX12_readLine_162 (by decide) ?_
      obtain ⟨z6, e_z6, h⟩ := nm_s h
      refine pu_12_47 hx hb hts (inU inW_X12) hown hK hG hP hS k_172 (hts _ (List.mem_cons_of_mem _ lw_1481)) rfl dX12_readLine_163 (fun H locs hP hS => ?_)
      rw [← e_z6] at hP
      refine lv_aload_n hx hb dX12_readLine_166 rfl (lv_at hl 0 rfl) ?_
      refine lv_aload_n hx hb dX12_readLine_167 rfl (lv_at hl 0 rfl) ?_
      refine lv_ldc2 (v := 1685217655) hx hb hown (hts _ (List.mem_cons_of_mem _ lw_1731)) dX12_readLine_168 ?_
      refine lv_iconst (v := 0) hx hb dX12_readLine_171 (by decide) ?_
      refine lv_sipush (v := 999) hx hb dX12_readLine_172 (by decide) ?_
      obtain ⟨r8, z9, h7, h⟩ := bd_s h
      refine x_Vi (Rz := (r8, z9)) (As := [.long 1685217655, .int 0, .int 999]) (rest := [.ref (G.2.2 172)]) ⟨hx, hb, hml, hown, hts⟩ hK hP hS (kd_lt k_172 (by decide)) (cell_12 k_172) rfl (m_X12_told hG   h7) (cwV 3 hts (gV lw_1748 lw_1750 lw_56 lw_125 lw_1751) rfl rfl rfl (by decide +kernel) (rmd_ok (by decide) (by decide))) rfl hl.1 rfl (Nat.le_of_ble_eq_true rfl) dX12_readLine_175 ⟨Nat.le_refl _, Nat.le_refl _⟩ (fun H locs hP hS => ?_)
      obtain ⟨z10, e_z10, h⟩ := nm_s h
      refine pu_12_42 hx hb hts (inU inW_X12) hown hK hG hP hS k_172 (hts _ (List.mem_cons_of_mem _ lw_1476)) dX12_readLine_178 (fun H locs hP hS => ?_)
      rw [← e_z10] at hP
      refine lv_goto (tgt := 189) hx hb dX12_readLine_181 (by decide) ?_
      exact pf_X12_readLine_189 C    z10  hP hS (lv_sub hl [0] rfl) h
def fn_X12_readLine_105  (z : St) : Option (St) := bd (fn_X12_isWord  1885430629 z) (fun r2 z3 => (if r2 = 0 then fn_X12_readLine_144    z3 else (if (z3.1 172 46) = 0 then nm (sI z3 172 46 1) (fun z6 => bd (fn_X12_told  1885430629 0 60 z6) (fun r8 z9 => nm (sI z9 172 41 r8) (fun z10 => fn_X12_readLine_189    z10))) else fn_X12_readLine_144    z3)))
set_option maxHeartbeats 4000000 in
set_option maxRecDepth 100000 in
theorem pf_X12_readLine_105 {p : Program} {l : Launch} {e : Env} {s : State} {m : MethodId} {args : Array Value} {below : List Frame} {meth : Method} {c : Code} {G : wG} (C : CX p s m args meth c cX12_readLine 1 (wsU yX12_readLine cX12_readLine 1 none) RX12 none G) {Rz : St}  (z : St)  {H : Heap} {locs : List Loc} {ls : Array Slot} (hP : WP G z H) (hS : va_S (AW G) s.heap H locs) (hl : lv_has ls 1 [(0, .ref (G.2.2 172))]) (h : fn_X12_readLine_105    z = some Rz) : W p l e (rmd 7) s m args below meth c H locs 0 0 (QV below args s G Rz) (F0 m 105 ls []) := by
  obtain ⟨hx, hb, hml, hown, hts, hr, hlocks, hK, hG⟩ := id C
  unfold fn_X12_readLine_105 at h
  refine lv_aload_n hx hb dX12_readLine_105 rfl (lv_at hl 0 rfl) ?_
  refine lv_ldc2 (v := 1885430629) hx hb hown (hts _ (List.mem_cons_of_mem _ lw_1730)) dX12_readLine_106 ?_
  obtain ⟨r2, z3, h1, h⟩ := bd_s h
  refine x_Vi (Rz := (r2, z3)) (As := [.long 1885430629]) (rest := []) ⟨hx, hb, hml, hown, hts⟩ hK hP hS (kd_lt k_172 (by decide)) (cell_12 k_172) rfl (m_X12_isWord hG   h1) (cwV 1 hts (gV lw_1702 lw_1704 lw_49 lw_125 lw_1705) rfl rfl rfl (by decide +kernel) (rmd_ok (by decide) (by decide))) rfl hl.1 rfl (Nat.le_of_ble_eq_true rfl) dX12_readLine_109 ⟨Nat.le_refl _, Nat.le_refl _⟩ (fun H locs hP hS => ?_)
  refine lv_if_eq (tgt := 144) hx hb dX12_readLine_112 (by decide) (fun c4 => ?_) (fun c4 => ?_)
  · rw [if_pos c4] at h
    exact pf_X12_readLine_144 C    z3  hP hS (lv_sub hl [0] rfl) h
  · rw [if_neg c4] at h
    refine lv_aload_n hx hb dX12_readLine_115 rfl (lv_at hl 0 rfl) ?_
    refine ge_12_46 hx hb hts (inU inW_X12) hown hK hP k_172 (hts _ (List.mem_cons_of_mem _ lw_1480)) dX12_readLine_116 ?_
    refine lv_if_ne (tgt := 144) hx hb dX12_readLine_119 (by decide) (fun c5 => ?_) (fun c5 => ?_)
    · rw [if_neg c5] at h
      exact pf_X12_readLine_144 C    z3  hP hS (lv_sub hl [0] rfl) h
    · rw [if_pos c5] at h
      refine lv_aload_n hx hb dX12_readLine_122 rfl (lv_at hl 0 rfl) ?_
      refine lv_iconst (v := 1) hx hb dX12_readLine_123 (by decide) ?_
      obtain ⟨z6, e_z6, h⟩ := nm_s h
      refine pu_12_46 hx hb hts (inU inW_X12) hown hK hG hP hS k_172 (hts _ (List.mem_cons_of_mem _ lw_1480)) rfl dX12_readLine_124 (fun H locs hP hS => ?_)
      rw [← e_z6] at hP
      refine lv_aload_n hx hb dX12_readLine_127 rfl (lv_at hl 0 rfl) ?_
      refine lv_aload_n hx hb dX12_readLine_128 rfl (lv_at hl 0 rfl) ?_
      refine lv_ldc2 (v := 1885430629) hx hb hown (hts _ (List.mem_cons_of_mem _ lw_1730)) dX12_readLine_129 ?_
      refine lv_iconst (v := 0) hx hb dX12_readLine_132 (by decide) ?_
      refine lv_bipush (v := 60) hx hb dX12_readLine_133 (by decide) ?_
      obtain ⟨r8, z9, h7, h⟩ := bd_s h
      refine x_Vi (Rz := (r8, z9)) (As := [.long 1885430629, .int 0, .int 60]) (rest := [.ref (G.2.2 172)]) ⟨hx, hb, hml, hown, hts⟩ hK hP hS (kd_lt k_172 (by decide)) (cell_12 k_172) rfl (m_X12_told hG   h7) (cwV 3 hts (gV lw_1748 lw_1750 lw_56 lw_125 lw_1751) rfl rfl rfl (by decide +kernel) (rmd_ok (by decide) (by decide))) rfl hl.1 rfl (Nat.le_of_ble_eq_true rfl) dX12_readLine_135 ⟨Nat.le_refl _, Nat.le_refl _⟩ (fun H locs hP hS => ?_)
      obtain ⟨z10, e_z10, h⟩ := nm_s h
      refine pu_12_41 hx hb hts (inU inW_X12) hown hK hG hP hS k_172 (hts _ (List.mem_cons_of_mem _ lw_1475)) dX12_readLine_138 (fun H locs hP hS => ?_)
      rw [← e_z10] at hP
      refine lv_goto (tgt := 189) hx hb dX12_readLine_141 (by decide) ?_
      exact pf_X12_readLine_189 C    z10  hP hS (lv_sub hl [0] rfl) h
def fn_X12_readLine_78  (z : St) : Option (St) := bd (fn_X12_isWord  1936484720 z) (fun r2 z3 => (if r2 = 0 then fn_X12_readLine_105    z3 else (if (z3.1 183 (Int32.toNatClampNeg 1)) = 0 then bv (fn_X12_formula  1 z3) (fun z7 => fn_X12_readLine_189    z7) else fn_X12_readLine_105    z3)))
set_option maxHeartbeats 4000000 in
set_option maxRecDepth 100000 in
theorem pf_X12_readLine_78 {p : Program} {l : Launch} {e : Env} {s : State} {m : MethodId} {args : Array Value} {below : List Frame} {meth : Method} {c : Code} {G : wG} (C : CX p s m args meth c cX12_readLine 1 (wsU yX12_readLine cX12_readLine 1 none) RX12 none G) {Rz : St}  (z : St)  {H : Heap} {locs : List Loc} {ls : Array Slot} (hP : WP G z H) (hS : va_S (AW G) s.heap H locs) (hl : lv_has ls 1 [(0, .ref (G.2.2 172))]) (h : fn_X12_readLine_78    z = some Rz) : W p l e (rmd 7) s m args below meth c H locs 0 0 (QV below args s G Rz) (F0 m 78 ls []) := by
  obtain ⟨hx, hb, hml, hown, hts, hr, hlocks, hK, hG⟩ := id C
  unfold fn_X12_readLine_78 at h
  refine lv_aload_n hx hb dX12_readLine_78 rfl (lv_at hl 0 rfl) ?_
  refine lv_ldc2 (v := 1936484720) hx hb hown (hts _ (List.mem_cons_of_mem _ lw_1729)) dX12_readLine_79 ?_
  obtain ⟨r2, z3, h1, h⟩ := bd_s h
  refine x_Vi (Rz := (r2, z3)) (As := [.long 1936484720]) (rest := []) ⟨hx, hb, hml, hown, hts⟩ hK hP hS (kd_lt k_172 (by decide)) (cell_12 k_172) rfl (m_X12_isWord hG   h1) (cwV 1 hts (gV lw_1702 lw_1704 lw_49 lw_125 lw_1705) rfl rfl rfl (by decide +kernel) (rmd_ok (by decide) (by decide))) rfl hl.1 rfl (Nat.le_of_ble_eq_true rfl) dX12_readLine_82 ⟨Nat.le_refl _, Nat.le_refl _⟩ (fun H locs hP hS => ?_)
  refine lv_if_eq (tgt := 105) hx hb dX12_readLine_85 (by decide) (fun c4 => ?_) (fun c4 => ?_)
  · rw [if_pos c4] at h
    exact pf_X12_readLine_105 C    z3  hP hS (lv_sub hl [0] rfl) h
  · rw [if_neg c4] at h
    refine lv_aload_n hx hb dX12_readLine_88 rfl (lv_at hl 0 rfl) ?_
    refine ge_12_19 hx hb hts (inU inW_X12) hown hK hP k_172 (hts _ (List.mem_cons_of_mem _ lw_1453)) dX12_readLine_89 ?_
    refine lv_iconst (v := 1) hx hb dX12_readLine_92 (by decide) ?_
    refine xl_16 hx hb hK hP k_183 l_183 (ix_in (by decide)) dX12_readLine_93 ?_
    refine lv_if_ne (tgt := 105) hx hb dX12_readLine_94 (by decide) (fun c5 => ?_) (fun c5 => ?_)
    · rw [if_neg c5] at h
      exact pf_X12_readLine_105 C    z3  hP hS (lv_sub hl [0] rfl) h
    · rw [if_pos c5] at h
      refine lv_aload_n hx hb dX12_readLine_97 rfl (lv_at hl 0 rfl) ?_
      refine lv_iconst (v := 1) hx hb dX12_readLine_98 (by decide) ?_
      obtain ⟨z7, h6, h⟩ := bv_s h
      refine x_Vv (Rz := z7) (As := [.int 1]) (rest := []) ⟨hx, hb, hml, hown, hts⟩ hK hP hS (kd_lt k_172 (by decide)) (cell_12 k_172) rfl (m_X12_formula hG   h6) (cwV 1 hts (gV lw_1764 lw_1766 lw_60 lw_125 lw_1767) rfl rfl rfl (by decide +kernel) (rmd_ok (by decide) (by decide))) rfl hl.1 rfl (Nat.le_of_ble_eq_true rfl) dX12_readLine_99 ⟨Nat.le_refl _, Nat.le_refl _⟩ (fun H locs hP hS => ?_)
      refine lv_goto (tgt := 189) hx hb dX12_readLine_102 (by decide) ?_
      exact pf_X12_readLine_189 C    z7  hP hS (lv_sub hl [0] rfl) h
def fn_X12_readLine_51  (z : St) : Option (St) := bd (fn_X12_isWord  512970880104 z) (fun r2 z3 => (if r2 = 0 then fn_X12_readLine_78    z3 else (if (z3.1 183 (Int32.toNatClampNeg 0)) = 0 then bv (fn_X12_formula  0 z3) (fun z7 => fn_X12_readLine_189    z7) else fn_X12_readLine_78    z3)))
set_option maxHeartbeats 4000000 in
set_option maxRecDepth 100000 in
theorem pf_X12_readLine_51 {p : Program} {l : Launch} {e : Env} {s : State} {m : MethodId} {args : Array Value} {below : List Frame} {meth : Method} {c : Code} {G : wG} (C : CX p s m args meth c cX12_readLine 1 (wsU yX12_readLine cX12_readLine 1 none) RX12 none G) {Rz : St}  (z : St)  {H : Heap} {locs : List Loc} {ls : Array Slot} (hP : WP G z H) (hS : va_S (AW G) s.heap H locs) (hl : lv_has ls 1 [(0, .ref (G.2.2 172))]) (h : fn_X12_readLine_51    z = some Rz) : W p l e (rmd 7) s m args below meth c H locs 0 0 (QV below args s G Rz) (F0 m 51 ls []) := by
  obtain ⟨hx, hb, hml, hown, hts, hr, hlocks, hK, hG⟩ := id C
  unfold fn_X12_readLine_51 at h
  refine lv_aload_n hx hb dX12_readLine_51 rfl (lv_at hl 0 rfl) ?_
  refine lv_ldc2 (v := 512970880104) hx hb hown (hts _ (List.mem_cons_of_mem _ lw_1728)) dX12_readLine_52 ?_
  obtain ⟨r2, z3, h1, h⟩ := bd_s h
  refine x_Vi (Rz := (r2, z3)) (As := [.long 512970880104]) (rest := []) ⟨hx, hb, hml, hown, hts⟩ hK hP hS (kd_lt k_172 (by decide)) (cell_12 k_172) rfl (m_X12_isWord hG   h1) (cwV 1 hts (gV lw_1702 lw_1704 lw_49 lw_125 lw_1705) rfl rfl rfl (by decide +kernel) (rmd_ok (by decide) (by decide))) rfl hl.1 rfl (Nat.le_of_ble_eq_true rfl) dX12_readLine_55 ⟨Nat.le_refl _, Nat.le_refl _⟩ (fun H locs hP hS => ?_)
  refine lv_if_eq (tgt := 78) hx hb dX12_readLine_58 (by decide) (fun c4 => ?_) (fun c4 => ?_)
  · rw [if_pos c4] at h
    exact pf_X12_readLine_78 C    z3  hP hS (lv_sub hl [0] rfl) h
  · rw [if_neg c4] at h
    refine lv_aload_n hx hb dX12_readLine_61 rfl (lv_at hl 0 rfl) ?_
    refine ge_12_19 hx hb hts (inU inW_X12) hown hK hP k_172 (hts _ (List.mem_cons_of_mem _ lw_1453)) dX12_readLine_62 ?_
    refine lv_iconst (v := 0) hx hb dX12_readLine_65 (by decide) ?_
    refine xl_16 hx hb hK hP k_183 l_183 (ix_in (by decide)) dX12_readLine_66 ?_
    refine lv_if_ne (tgt := 78) hx hb dX12_readLine_67 (by decide) (fun c5 => ?_) (fun c5 => ?_)
    · rw [if_neg c5] at h
      exact pf_X12_readLine_78 C    z3  hP hS (lv_sub hl [0] rfl) h
    · rw [if_pos c5] at h
      refine lv_aload_n hx hb dX12_readLine_70 rfl (lv_at hl 0 rfl) ?_
      refine lv_iconst (v := 0) hx hb dX12_readLine_71 (by decide) ?_
      obtain ⟨z7, h6, h⟩ := bv_s h
      refine x_Vv (Rz := z7) (As := [.int 0]) (rest := []) ⟨hx, hb, hml, hown, hts⟩ hK hP hS (kd_lt k_172 (by decide)) (cell_12 k_172) rfl (m_X12_formula hG   h6) (cwV 1 hts (gV lw_1764 lw_1766 lw_60 lw_125 lw_1767) rfl rfl rfl (by decide +kernel) (rmd_ok (by decide) (by decide))) rfl hl.1 rfl (Nat.le_of_ble_eq_true rfl) dX12_readLine_72 ⟨Nat.le_refl _, Nat.le_refl _⟩ (fun H locs hP hS => ?_)
      refine lv_goto (tgt := 189) hx hb dX12_readLine_75 (by decide) ?_
      exact pf_X12_readLine_189 C    z7  hP hS (lv_sub hl [0] rfl) h
def fn_X12_readLine_25  (z : St) : Option (St) := bd (fn_X12_isWord  444351214452 z) (fun r2 z3 => (if r2 = 0 then fn_X12_readLine_51    z3 else (if 6 ≤ (z3.1 172 40) then fn_X12_readLine_51    z3 else bv (fn_X12_readGuest   z3) (fun z7 => fn_X12_readLine_189    z7))))
set_option maxHeartbeats 4000000 in
set_option maxRecDepth 100000 in
theorem pf_X12_readLine_25 {p : Program} {l : Launch} {e : Env} {s : State} {m : MethodId} {args : Array Value} {below : List Frame} {meth : Method} {c : Code} {G : wG} (C : CX p s m args meth c cX12_readLine 1 (wsU yX12_readLine cX12_readLine 1 none) RX12 none G) {Rz : St}  (z : St)  {H : Heap} {locs : List Loc} {ls : Array Slot} (hP : WP G z H) (hS : va_S (AW G) s.heap H locs) (hl : lv_has ls 1 [(0, .ref (G.2.2 172))]) (h : fn_X12_readLine_25    z = some Rz) : W p l e (rmd 7) s m args below meth c H locs 0 0 (QV below args s G Rz) (F0 m 25 ls []) := by
  obtain ⟨hx, hb, hml, hown, hts, hr, hlocks, hK, hG⟩ := id C
  unfold fn_X12_readLine_25 at h
  refine lv_aload_n hx hb dX12_readLine_25 rfl (lv_at hl 0 rfl) ?_
  refine lv_ldc2 (v := 444351214452) hx hb hown (hts _ (List.mem_cons_of_mem _ lw_1724)) dX12_readLine_26 ?_
  obtain ⟨r2, z3, h1, h⟩ := bd_s h
  refine x_Vi (Rz := (r2, z3)) (As := [.long 444351214452]) (rest := []) ⟨hx, hb, hml, hown, hts⟩ hK hP hS (kd_lt k_172 (by decide)) (cell_12 k_172) rfl (m_X12_isWord hG   h1) (cwV 1 hts (gV lw_1702 lw_1704 lw_49 lw_125 lw_1705) rfl rfl rfl (by decide +kernel) (rmd_ok (by decide) (by decide))) rfl hl.1 rfl (Nat.le_of_ble_eq_true rfl) dX12_readLine_29 ⟨Nat.le_refl _, Nat.le_refl _⟩ (fun H locs hP hS => ?_)
  refine lv_if_eq (tgt := 51) hx hb dX12_readLine_32 (by decide) (fun c4 => ?_) (fun c4 => ?_)
  · rw [if_pos c4] at h
    exact pf_X12_readLine_51 C    z3  hP hS (lv_sub hl [0] rfl) h
  · rw [if_neg c4] at h
    refine lv_aload_n hx hb dX12_readLine_35 rfl (lv_at hl 0 rfl) ?_
    refine ge_12_40 hx hb hts (inU inW_X12) hown hK hP k_172 (hts _ (List.mem_cons_of_mem _ lw_1474)) dX12_readLine_36 ?_
    refine lv_bipush (v := 6) hx hb dX12_readLine_39 (by decide) ?_
    refine lv_icmp_ge (tgt := 51) hx hb dX12_readLine_41 (by decide) (fun c5 => ?_) (fun c5 => ?_)
    · rw [if_pos c5] at h
      exact pf_X12_readLine_51 C    z3  hP hS (lv_sub hl [0] rfl) h
    · rw [if_neg c5] at h
      refine lv_aload_n hx hb dX12_readLine_44 rfl (lv_at hl 0 rfl) ?_
      obtain ⟨z7, h6, h⟩ := bv_s h
      refine x_Vv (Rz := z7) (As := []) (rest := []) ⟨hx, hb, hml, hown, hts⟩ hK hP hS (kd_lt k_172 (by decide)) (cell_12 k_172) rfl (m_X12_readGuest hG   h6) (cwV 0 hts (gV lw_1756 lw_1758 lw_58 lw_125 lw_1759) rfl rfl rfl (by decide +kernel) (rmd_ok (by decide) (by decide))) rfl hl.1 rfl (Nat.le_of_ble_eq_true rfl) dX12_readLine_45 ⟨Nat.le_refl _, Nat.le_refl _⟩ (fun H locs hP hS => ?_)
      refine lv_goto (tgt := 189) hx hb dX12_readLine_48 (by decide) ?_
      exact pf_X12_readLine_189 C    z7  hP hS (lv_sub hl [0] rfl) h
def fn_X12_readLine  (z : St) : Option (St) := bd (fn_X12_isWord  1953064306 z) (fun r2 z3 => (if r2 = 0 then fn_X12_readLine_25    z3 else (if 3 ≤ (z3.1 172 39) then fn_X12_readLine_25    z3 else bv (fn_X12_readTier   z3) (fun z7 => fn_X12_readLine_189    z7))))
set_option maxHeartbeats 4000000 in
set_option maxRecDepth 100000 in
theorem m_X12_readLine {l : Launch} {G : wG} (hG : Ok G)  {z : St} {Rz : St}  (h : fn_X12_readLine   z = some Rz) : Met l yX12_readLine (wsU yX12_readLine cX12_readLine 1 none) (rmd 7) (va_Pc [.ref (G.2.2 172)] (Pre G z)) (va_Qv (fun u => u = Rz) (Pre G) (AW G)) 0 0 (AW G) := by
  refine Met.ofW (cc := cX12_readLine) (maxL := 1) (ret := none) (by decide) rfl ?_
  intro p e s m args below meth c s₁ B hml hv
  obtain ⟨rfl, hP, hK⟩ := hv
  have C : CX p s m ([.ref (G.2.2 172)] : List Value).toArray meth c cX12_readLine 1 (wsU yX12_readLine cX12_readLine 1 none) RX12 none G := ⟨B.exec, B.bytes, hml, findClass_of_methodNamed B.named, atoms_spec (ws := (wsU yX12_readLine cX12_readLine 1 none)) B.pre, B.returns, B.notSynchronized, hK, hG⟩
  obtain ⟨hx, hb, -, hown, hts, hr, hlocks, -, -⟩ := id C
  have hS : va_S (AW G) s.heap s.heap [] := va_S.rf
  have hl := lv_entry [.ref (G.2.2 172)] (n := 1) (Nat.le_of_ble_eq_true rfl)
  rw [lg_entry_eq]
  generalize (lg_sl [.ref (G.2.2 172)] ++ List.replicate (1 - (lg_sl [.ref (G.2.2 172)]).length) Slot.unset).toArray = ls at hl ⊢
  have hl : lv_has ls 1 [(0, .ref (G.2.2 172))] := hl
  unfold fn_X12_readLine at h
  refine lv_aload_n hx hb dX12_readLine_0 rfl (lv_at hl 0 rfl) ?_
  refine lv_ldc2 (v := 1953064306) hx hb hown (hts _ (List.mem_cons_of_mem _ lw_1701)) dX12_readLine_1 ?_
  obtain ⟨r2, z3, h1, h⟩ := bd_s h
  refine x_Vi (Rz := (r2, z3)) (As := [.long 1953064306]) (rest := []) ⟨hx, hb, hml, hown, hts⟩ hK hP hS (kd_lt k_172 (by decide)) (cell_12 k_172) rfl (m_X12_isWord hG   h1) (cwV 1 hts (gV lw_1702 lw_1704 lw_49 lw_125 lw_1705) rfl rfl rfl (by decide +kernel) (rmd_ok (by decide) (by decide))) rfl hl.1 rfl (Nat.le_of_ble_eq_true rfl) dX12_readLine_4 ⟨Nat.le_refl _, Nat.le_refl _⟩ (fun H locs hP hS => ?_)
  refine lv_if_eq (tgt := 25) hx hb dX12_readLine_7 (by decide) (fun c4 => ?_) (fun c4 => ?_)
  · rw [if_pos c4] at h
    exact pf_X12_readLine_25 C    z3  hP hS (lv_sub hl [0] rfl) h
  · rw [if_neg c4] at h
    refine lv_aload_n hx hb dX12_readLine_10 rfl (lv_at hl 0 rfl) ?_
    refine ge_12_39 hx hb hts (inU inW_X12) hown hK hP k_172 (hts _ (List.mem_cons_of_mem _ lw_1473)) dX12_readLine_11 ?_
    refine lv_iconst (v := 3) hx hb dX12_readLine_14 (by decide) ?_
    refine lv_icmp_ge (tgt := 25) hx hb dX12_readLine_15 (by decide) (fun c5 => ?_) (fun c5 => ?_)
    · rw [if_pos c5] at h
      exact pf_X12_readLine_25 C    z3  hP hS (lv_sub hl [0] rfl) h
    · rw [if_neg c5] at h
      refine lv_aload_n hx hb dX12_readLine_18 rfl (lv_at hl 0 rfl) ?_
      obtain ⟨z7, h6, h⟩ := bv_s h
      refine x_Vv (Rz := z7) (As := []) (rest := []) ⟨hx, hb, hml, hown, hts⟩ hK hP hS (kd_lt k_172 (by decide)) (cell_12 k_172) rfl (m_X12_readTier hG   h6) (cwV 0 hts (gV lw_1706 lw_1708 lw_50 lw_125 lw_1709) rfl rfl rfl (by decide +kernel) (rmd_ok (by decide) (by decide))) rfl hl.1 rfl (Nat.le_of_ble_eq_true rfl) dX12_readLine_19 ⟨Nat.le_refl _, Nat.le_refl _⟩ (fun H locs hP hS => ?_)
      refine lv_goto (tgt := 189) hx hb dX12_readLine_22 (by decide) ?_
      exact pf_X12_readLine_189 C    z7  hP hS (lv_sub hl [0] rfl) h
