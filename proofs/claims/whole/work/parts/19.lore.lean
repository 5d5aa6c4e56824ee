def fn_X4_forget  (z : St) : Option (St) := nm (sI z 162 11 0) (fun z1 => some z1)
set_option maxHeartbeats 4000000 in
set_option maxRecDepth 100000 in
theorem m_X4_forget {l : Launch} {G : wG} (hG : Ok G)  {z : St} {Rz : St}  (h : fn_X4_forget   z = some Rz) : Met l yX4_forget (wsU yX4_forget cX4_forget 1 none) (rmd 1) (va_Pc [.ref (G.2.2 162)] (Pre G z)) (va_Qv (fun u => u = Rz) (Pre G) (AW G)) 0 0 (AW G) := by
  refine Met.ofW (cc := cX4_forget) (maxL := 1) (ret := none) (by decide) rfl ?_
  intro p e s m args below meth c s₁ B hml hv
  obtain ⟨rfl, hP, hK⟩ := hv
  have C : CX p s m ([.ref (G.2.2 162)] : List Value).toArray meth c cX4_forget 1 (wsU yX4_forget cX4_forget 1 none) RX4 none G := ⟨B.exec, B.bytes, hml, findClass_of_methodNamed B.named, atoms_spec (ws := (wsU yX4_forget cX4_forget 1 none)) B.pre, B.returns, B.notSynchronized, hK, hG⟩
  obtain ⟨hx, hb, -, hown, hts, hr, hlocks, -, -⟩ := id C
  have hS : va_S (AW G) s.heap s.heap [] := va_S.rf
  have hl := lv_entry [.ref (G.2.2 162)] (n := 1) (Nat.le_of_ble_eq_true rfl)
  rw [lg_entry_eq]
  generalize (lg_sl [.ref (G.2.2 162)] ++ List.replicate (1 - (lg_sl [.ref (G.2.2 162)]).length) Slot.unset).toArray = ls at hl ⊢
  have hl : lv_has ls 1 [(0, .ref (G.2.2 162))] := hl
  unfold fn_X4_forget at h
  refine lv_aload_n hx hb dX4_forget_0 rfl (lv_at hl 0 rfl) ?_
  refine lv_iconst (v := 0) hx hb dX4_forget_1 (by decide) ?_
  obtain ⟨z1, e_z1, h⟩ := nm_s h
  refine pu_4_11 hx hb hts (inU inW_X4) hown hK hG hP hS k_162 (hts _ (List.mem_cons_of_mem _ lw_663)) dX4_forget_2 (fun H locs hP hS => ?_)
  rw [← e_z1] at hP
  exact x_vret hx hb hr hlocks hK hP hS h dX4_forget_5
def fn_X4_tell (v1 : Int32) (v2 : Int32) (v3 : Int32) (z : St) : Option (Int32 × St) := (if (z.1 2 0) = 0 then some ((-1), z) else (if (z.1 162 11) < 30 then gd (ix (z.1 162 11) 30) (nm (sI z 163 (Int32.toNatClampNeg (z.1 162 11)) v1) (fun z4 => gd (ix (z4.1 162 11) 30) (nm (sI z4 164 (Int32.toNatClampNeg (z4.1 162 11)) v2) (fun z6 => gd (ix (z6.1 162 11) 30) (gd (zok v3) (nm (sI z6 165 (Int32.toNatClampNeg (z6.1 162 11)) v3) (fun z9 => gd (ix (z9.1 162 11) 30) (nm (sI z9 166 (Int32.toNatClampNeg (z9.1 162 11)) (z9.1 162 12)) (fun z11 => gd (ix (z11.1 162 11) 30) (nm (sI z11 167 (Int32.toNatClampNeg (z11.1 162 11)) (-1)) (fun z13 => nm (sI z13 162 11 ((z13.1 162 11) + 1)) (fun z14 => some (((z14.1 162 11) - 1), z14))))))))))))) else some ((-1), z)))
set_option maxHeartbeats 4000000 in
set_option maxRecDepth 100000 in
theorem m_X4_tell {l : Launch} {G : wG} (hG : Ok G) {v1 : Int32} {v2 : Int32} {v3 : Int32} {z : St} {Rz : Int32 × St}  (h : fn_X4_tell  v1 v2 v3 z = some Rz) : Met l yX4_tell (wsU yX4_tell cX4_tell 4 (some .int)) (rmd 1) (va_Pc [.ref (G.2.2 162), .int v1, .int v2, .int v3] (Pre G z)) (va_Qi (fun r u => (r, u) = Rz) (Pre G) (AW G)) 0 0 (AW G) := by
  refine Met.ofW (cc := cX4_tell) (maxL := 4) (ret := (some .int)) (by decide) rfl ?_
  intro p e s m args below meth c s₁ B hml hv
  obtain ⟨rfl, hP, hK⟩ := hv
  have C : CX p s m ([.ref (G.2.2 162), .int v1, .int v2, .int v3] : List Value).toArray meth c cX4_tell 4 (wsU yX4_tell cX4_tell 4 (some .int)) RX4 (some .int) G := ⟨B.exec, B.bytes, hml, findClass_of_methodNamed B.named, atoms_spec (ws := (wsU yX4_tell cX4_tell 4 (some .int))) B.pre, B.returns, B.notSynchronized, hK, hG⟩
  obtain ⟨hx, hb, -, hown, hts, hr, hlocks, -, -⟩ := id C
  have hS : va_S (AW G) s.heap s.heap [] := va_S.rf
  have hl := lv_entry [.ref (G.2.2 162), .int v1, .int v2, .int v3] (n := 4) (Nat.le_of_ble_eq_true rfl)
  rw [lg_entry_eq]
  generalize (lg_sl [.ref (G.2.2 162), .int v1, .int v2, .int v3] ++ List.replicate (4 - (lg_sl [.ref (G.2.2 162), .int v1, .int v2, .int v3]).length) Slot.unset).toArray = ls at hl ⊢
  have hl : lv_has ls 4 [(0, .ref (G.2.2 162)), (1, .int v1), (2, .int v2), (3, .int v3)] := hl
  unfold fn_X4_tell at h
  refine lv_aload_n hx hb dX4_tell_0 rfl (lv_at hl 0 rfl) ?_
  refine ge_4_0 hx hb hts (inU inW_X4) hown hK hP k_162 (hts _ (List.mem_cons_of_mem _ lw_650)) dX4_tell_1 ?_
  refine ge_7_0 hx hb hts (inU inW_X7) hown hK hP k_2 (hts _ (List.mem_cons_of_mem _ lw_179)) dX4_tell_4 ?_
  refine lv_if_eq (tgt := 19) hx hb dX4_tell_7 (by decide) (fun c1 => ?_) (fun c1 => ?_)
  · rw [if_pos c1] at h
    refine lv_iconst (v := (-1)) hx hb dX4_tell_19 (by decide) ?_
    exact x_iret hx hb hr hlocks hK hP hS h dX4_tell_20
  · rw [if_neg c1] at h
    refine lv_aload_n hx hb dX4_tell_10 rfl (lv_at hl 0 rfl) ?_
    refine ge_4_11 hx hb hts (inU inW_X4) hown hK hP k_162 (hts _ (List.mem_cons_of_mem _ lw_663)) dX4_tell_11 ?_
    refine lv_bipush (v := 30) hx hb dX4_tell_14 (by decide) ?_
    refine lv_icmp_lt (tgt := 21) hx hb dX4_tell_16 (by decide) (fun c2 => ?_) (fun c2 => ?_)
    · rw [if_pos c2] at h
      refine lv_aload_n hx hb dX4_tell_21 rfl (lv_at hl 0 rfl) ?_
      refine ge_4_2 hx hb hts (inU inW_X4) hown hK hP k_162 (hts _ (List.mem_cons_of_mem _ lw_652)) dX4_tell_22 ?_
      refine lv_aload_n hx hb dX4_tell_25 rfl (lv_at hl 0 rfl) ?_
      refine ge_4_11 hx hb hts (inU inW_X4) hown hK hP k_162 (hts _ (List.mem_cons_of_mem _ lw_663)) dX4_tell_26 ?_
      refine lv_iload_n hx hb dX4_tell_29 rfl (lv_at hl 1 rfl) ?_
      obtain ⟨g3, h⟩ := gd_s h
      obtain ⟨z4, e_z4, h⟩ := nm_s h
      refine xs_14 hx hb hK hG hP hS k_163 l_163 (ix_in g3) dX4_tell_30 (fun H locs hP hS => ?_)
      rw [← e_z4] at hP
      refine lv_aload_n hx hb dX4_tell_31 rfl (lv_at hl 0 rfl) ?_
      refine ge_4_3 hx hb hts (inU inW_X4) hown hK hP k_162 (hts _ (List.mem_cons_of_mem _ lw_653)) dX4_tell_32 ?_
      refine lv_aload_n hx hb dX4_tell_35 rfl (lv_at hl 0 rfl) ?_
      refine ge_4_11 hx hb hts (inU inW_X4) hown hK hP k_162 (hts _ (List.mem_cons_of_mem _ lw_663)) dX4_tell_36 ?_
      refine lv_iload_n hx hb dX4_tell_39 rfl (lv_at hl 2 rfl) ?_
      obtain ⟨g5, h⟩ := gd_s h
      obtain ⟨z6, e_z6, h⟩ := nm_s h
      refine xs_14 hx hb hK hG hP hS k_164 l_164 (ix_in g5) dX4_tell_40 (fun H locs hP hS => ?_)
      rw [← e_z6] at hP
      refine lv_aload_n hx hb dX4_tell_41 rfl (lv_at hl 0 rfl) ?_
      refine ge_4_4 hx hb hts (inU inW_X4) hown hK hP k_162 (hts _ (List.mem_cons_of_mem _ lw_654)) dX4_tell_42 ?_
      refine lv_aload_n hx hb dX4_tell_45 rfl (lv_at hl 0 rfl) ?_
      refine ge_4_11 hx hb hts (inU inW_X4) hown hK hP k_162 (hts _ (List.mem_cons_of_mem _ lw_663)) dX4_tell_46 ?_
      refine lv_iload_n hx hb dX4_tell_49 rfl (lv_at hl 3 rfl) ?_
      obtain ⟨g7, h⟩ := gd_s h
      obtain ⟨g8, h⟩ := gd_s h
      obtain ⟨z9, e_z9, h⟩ := nm_s h
      refine xs_16 hx hb hK hG hP hS k_165 l_165 (ix_in g7) g8 dX4_tell_50 (fun H locs hP hS => ?_)
      rw [← e_z9] at hP
      refine lv_aload_n hx hb dX4_tell_51 rfl (lv_at hl 0 rfl) ?_
      refine ge_4_5 hx hb hts (inU inW_X4) hown hK hP k_162 (hts _ (List.mem_cons_of_mem _ lw_655)) dX4_tell_52 ?_
      refine lv_aload_n hx hb dX4_tell_55 rfl (lv_at hl 0 rfl) ?_
      refine ge_4_11 hx hb hts (inU inW_X4) hown hK hP k_162 (hts _ (List.mem_cons_of_mem _ lw_663)) dX4_tell_56 ?_
      refine lv_aload_n hx hb dX4_tell_59 rfl (lv_at hl 0 rfl) ?_
      refine ge_4_12 hx hb hts (inU inW_X4) hown hK hP k_162 (hts _ (List.mem_cons_of_mem _ lw_665)) dX4_tell_60 ?_
      obtain ⟨g10, h⟩ := gd_s h
      obtain ⟨z11, e_z11, h⟩ := nm_s h
      refine xs_14 hx hb hK hG hP hS k_166 l_166 (ix_in g10) dX4_tell_63 (fun H locs hP hS => ?_)
      rw [← e_z11] at hP
      refine lv_aload_n hx hb dX4_tell_64 rfl (lv_at hl 0 rfl) ?_
      refine ge_4_6 hx hb hts (inU inW_X4) hown hK hP k_162 (hts _ (List.mem_cons_of_mem _ lw_656)) dX4_tell_65 ?_
      refine lv_aload_n hx hb dX4_tell_68 rfl (lv_at hl 0 rfl) ?_
      refine ge_4_11 hx hb hts (inU inW_X4) hown hK hP k_162 (hts _ (List.mem_cons_of_mem _ lw_663)) dX4_tell_69 ?_
      refine lv_iconst (v := (-1)) hx hb dX4_tell_72 (by decide) ?_
      obtain ⟨g12, h⟩ := gd_s h
      obtain ⟨z13, e_z13, h⟩ := nm_s h
      refine xs_14 hx hb hK hG hP hS k_167 l_167 (ix_in g12) dX4_tell_73 (fun H locs hP hS => ?_)
      rw [← e_z13] at hP
      refine lv_aload_n hx hb dX4_tell_74 rfl (lv_at hl 0 rfl) ?_
      refine lv_dup hx hb dX4_tell_75 rfl ?_
      refine ge_4_11 hx hb hts (inU inW_X4) hown hK hP k_162 (hts _ (List.mem_cons_of_mem _ lw_663)) dX4_tell_76 ?_
      refine lv_iconst (v := 1) hx hb dX4_tell_79 (by decide) ?_
      refine lv_iadd hx hb dX4_tell_80 ?_
      obtain ⟨z14, e_z14, h⟩ := nm_s h
      refine pu_4_11 hx hb hts (inU inW_X4) hown hK hG hP hS k_162 (hts _ (List.mem_cons_of_mem _ lw_663)) dX4_tell_81 (fun H locs hP hS => ?_)
      rw [← e_z14] at hP
      refine lv_aload_n hx hb dX4_tell_84 rfl (lv_at hl 0 rfl) ?_
      refine ge_4_11 hx hb hts (inU inW_X4) hown hK hP k_162 (hts _ (List.mem_cons_of_mem _ lw_663)) dX4_tell_85 ?_
      refine lv_iconst (v := 1) hx hb dX4_tell_88 (by decide) ?_
      refine lv_isub hx hb dX4_tell_89 ?_
      exact x_iret hx hb hr hlocks hK hP hS h dX4_tell_90
    · rw [if_neg c2] at h
      refine lv_iconst (v := (-1)) hx hb dX4_tell_19 (by decide) ?_
      exact x_iret hx hb hr hlocks hK hP hS h dX4_tell_20
def fn_X4_takeAway (v1 : Int32) (z : St) : Option (Int32 × St) := (if v1 < 0 then some (0, z) else (if (z.1 162 11) ≤ v1 then some (0, z) else gd (ix v1 30) ((if (z.1 167 (Int32.toNatClampNeg v1)) = (-1) then gd (ix v1 30) (nm (sI z 167 (Int32.toNatClampNeg v1) (z.1 162 12)) (fun z6 => some (1, z6))) else some (0, z)))))
set_option maxHeartbeats 4000000 in
set_option maxRecDepth 100000 in
theorem m_X4_takeAway {l : Launch} {G : wG} (hG : Ok G) {v1 : Int32} {z : St} {Rz : Int32 × St}  (h : fn_X4_takeAway  v1 z = some Rz) : Met l yX4_takeAway (wsU yX4_takeAway cX4_takeAway 2 (some .boolean)) (rmd 1) (va_Pc [.ref (G.2.2 162), .int v1] (Pre G z)) (va_Qi (fun r u => (r, u) = Rz) (Pre G) (AW G)) 0 0 (AW G) := by
  refine Met.ofW (cc := cX4_takeAway) (maxL := 2) (ret := (some .boolean)) (by decide) rfl ?_
  intro p e s m args below meth c s₁ B hml hv
  obtain ⟨rfl, hP, hK⟩ := hv
  have C : CX p s m ([.ref (G.2.2 162), .int v1] : List Value).toArray meth c cX4_takeAway 2 (wsU yX4_takeAway cX4_takeAway 2 (some .boolean)) RX4 (some .boolean) G := ⟨B.exec, B.bytes, hml, findClass_of_methodNamed B.named, atoms_spec (ws := (wsU yX4_takeAway cX4_takeAway 2 (some .boolean))) B.pre, B.returns, B.notSynchronized, hK, hG⟩
  obtain ⟨hx, hb, -, hown, hts, hr, hlocks, -, -⟩ := id C
  have hS : va_S (AW G) s.heap s.heap [] := va_S.rf
  have hl := lv_entry [.ref (G.2.2 162), .int v1] (n := 2) (Nat.le_of_ble_eq_true rfl)
  rw [lg_entry_eq]
  generalize (lg_sl [.ref (G.2.2 162), .int v1] ++ List.replicate (2 - (lg_sl [.ref (G.2.2 162), .int v1]).length) Slot.unset).toArray = ls at hl ⊢
  have hl : lv_has ls 2 [(0, .ref (G.2.2 162)), (1, .int v1)] := hl
  unfold fn_X4_takeAway at h
  refine lv_iload_n hx hb dX4_takeAway_0 rfl (lv_at hl 1 rfl) ?_
  refine lv_if_lt (tgt := 22) hx hb dX4_takeAway_1 (by decide) (fun c1 => ?_) (fun c1 => ?_)
  · rw [if_pos c1] at h
    refine lv_iconst (v := 0) hx hb dX4_takeAway_22 (by decide) ?_
    exact x_zret hx hb hr hlocks hK hP hS rfl h dX4_takeAway_23
  · rw [if_neg c1] at h
    refine lv_iload_n hx hb dX4_takeAway_4 rfl (lv_at hl 1 rfl) ?_
    refine lv_aload_n hx hb dX4_takeAway_5 rfl (lv_at hl 0 rfl) ?_
    refine ge_4_11 hx hb hts (inU inW_X4) hown hK hP k_162 (hts _ (List.mem_cons_of_mem _ lw_663)) dX4_takeAway_6 ?_
    refine lv_icmp_ge (tgt := 22) hx hb dX4_takeAway_9 (by decide) (fun c2 => ?_) (fun c2 => ?_)
    · rw [if_pos c2] at h
      refine lv_iconst (v := 0) hx hb dX4_takeAway_22 (by decide) ?_
      exact x_zret hx hb hr hlocks hK hP hS rfl h dX4_takeAway_23
    · rw [if_neg c2] at h
      refine lv_aload_n hx hb dX4_takeAway_12 rfl (lv_at hl 0 rfl) ?_
      refine ge_4_6 hx hb hts (inU inW_X4) hown hK hP k_162 (hts _ (List.mem_cons_of_mem _ lw_656)) dX4_takeAway_13 ?_
      refine lv_iload_n hx hb dX4_takeAway_16 rfl (lv_at hl 1 rfl) ?_
      obtain ⟨g3, h⟩ := gd_s h
      refine xl_14 hx hb hK hP k_167 l_167 (ix_in g3) dX4_takeAway_17 ?_
      refine lv_iconst (v := (-1)) hx hb dX4_takeAway_18 (by decide) ?_
      refine lv_icmp_eq (tgt := 24) hx hb dX4_takeAway_19 (by decide) (fun c4 => ?_) (fun c4 => ?_)
      · rw [if_pos c4] at h
        refine lv_aload_n hx hb dX4_takeAway_24 rfl (lv_at hl 0 rfl) ?_
        refine ge_4_6 hx hb hts (inU inW_X4) hown hK hP k_162 (hts _ (List.mem_cons_of_mem _ lw_656)) dX4_takeAway_25 ?_
        refine lv_iload_n hx hb dX4_takeAway_28 rfl (lv_at hl 1 rfl) ?_
        refine lv_aload_n hx hb dX4_takeAway_29 rfl (lv_at hl 0 rfl) ?_
        refine ge_4_12 hx hb hts (inU inW_X4) hown hK hP k_162 (hts _ (List.mem_cons_of_mem _ lw_665)) dX4_takeAway_30 ?_
        obtain ⟨g5, h⟩ := gd_s h
        obtain ⟨z6, e_z6, h⟩ := nm_s h
        refine xs_14 hx hb hK hG hP hS k_167 l_167 (ix_in g5) dX4_takeAway_33 (fun H locs hP hS => ?_)
        rw [← e_z6] at hP
        refine lv_iconst (v := 1) hx hb dX4_takeAway_34 (by decide) ?_
        exact x_zret hx hb hr hlocks hK hP hS rfl h dX4_takeAway_35
      · rw [if_neg c4] at h
        refine lv_iconst (v := 0) hx hb dX4_takeAway_22 (by decide) ?_
        exact x_zret hx hb hr hlocks hK hP hS rfl h dX4_takeAway_23
def fn_X4_goOn (v1 : Int32) (z : St) : Option (Int32 × St) := (if v1 < 0 then some ((-1), z) else (if 1000 < v1 then some ((-1), z) else (if ((z.1 162 12) + v1) ≤ 100000 then nm (sI z 162 12 ((z.1 162 12) + v1)) (fun z4 => some ((z4.1 162 12), z4)) else some ((-1), z))))
set_option maxHeartbeats 4000000 in
set_option maxRecDepth 100000 in
theorem m_X4_goOn {l : Launch} {G : wG} (hG : Ok G) {v1 : Int32} {z : St} {Rz : Int32 × St}  (h : fn_X4_goOn  v1 z = some Rz) : Met l yX4_goOn (wsU yX4_goOn cX4_goOn 2 (some .int)) (rmd 1) (va_Pc [.ref (G.2.2 162), .int v1] (Pre G z)) (va_Qi (fun r u => (r, u) = Rz) (Pre G) (AW G)) 0 0 (AW G) := by
  refine Met.ofW (cc := cX4_goOn) (maxL := 2) (ret := (some .int)) (by decide) rfl ?_
  intro p e s m args below meth c s₁ B hml hv
  obtain ⟨rfl, hP, hK⟩ := hv
  have C : CX p s m ([.ref (G.2.2 162), .int v1] : List Value).toArray meth c cX4_goOn 2 (wsU yX4_goOn cX4_goOn 2 (some .int)) RX4 (some .int) G := ⟨B.exec, B.bytes, hml, findClass_of_methodNamed B.named, atoms_spec (ws := (wsU yX4_goOn cX4_goOn 2 (some .int))) B.pre, B.returns, B.notSynchronized, hK, hG⟩
  obtain ⟨hx, hb, -, hown, hts, hr, hlocks, -, -⟩ := id C
  have hS : va_S (AW G) s.heap s.heap [] := va_S.rf
  have hl := lv_entry [.ref (G.2.2 162), .int v1] (n := 2) (Nat.le_of_ble_eq_true rfl)
  rw [lg_entry_eq]
  generalize (lg_sl [.ref (G.2.2 162), .int v1] ++ List.replicate (2 - (lg_sl [.ref (G.2.2 162), .int v1]).length) Slot.unset).toArray = ls at hl ⊢
  have hl : lv_has ls 2 [(0, .ref (G.2.2 162)), (1, .int v1)] := hl
  unfold fn_X4_goOn at h
  refine lv_iload_n hx hb dX4_goOn_0 rfl (lv_at hl 1 rfl) ?_
  refine lv_if_lt (tgt := 22) hx hb dX4_goOn_1 (by decide) (fun c1 => ?_) (fun c1 => ?_)
  · rw [if_pos c1] at h
    refine lv_iconst (v := (-1)) hx hb dX4_goOn_22 (by decide) ?_
    exact x_iret hx hb hr hlocks hK hP hS h dX4_goOn_23
  · rw [if_neg c1] at h
    refine lv_iload_n hx hb dX4_goOn_4 rfl (lv_at hl 1 rfl) ?_
    refine lv_sipush (v := 1000) hx hb dX4_goOn_5 (by decide) ?_
    refine lv_icmp_gt (tgt := 22) hx hb dX4_goOn_8 (by decide) (fun c2 => ?_) (fun c2 => ?_)
    · rw [if_pos c2] at h
      refine lv_iconst (v := (-1)) hx hb dX4_goOn_22 (by decide) ?_
      exact x_iret hx hb hr hlocks hK hP hS h dX4_goOn_23
    · rw [if_neg c2] at h
      refine lv_aload_n hx hb dX4_goOn_11 rfl (lv_at hl 0 rfl) ?_
      refine ge_4_12 hx hb hts (inU inW_X4) hown hK hP k_162 (hts _ (List.mem_cons_of_mem _ lw_665)) dX4_goOn_12 ?_
      refine lv_iload_n hx hb dX4_goOn_15 rfl (lv_at hl 1 rfl) ?_
      refine lv_iadd hx hb dX4_goOn_16 ?_
      refine lv_ldc (v := 100000) hx hb hown (hts _ (List.mem_cons_of_mem _ lw_1372)) dX4_goOn_17 ?_
      refine lv_icmp_le (tgt := 24) hx hb dX4_goOn_19 (by decide) (fun c3 => ?_) (fun c3 => ?_)
      · rw [if_pos c3] at h
        refine lv_aload_n hx hb dX4_goOn_24 rfl (lv_at hl 0 rfl) ?_
        refine lv_dup hx hb dX4_goOn_25 rfl ?_
        refine ge_4_12 hx hb hts (inU inW_X4) hown hK hP k_162 (hts _ (List.mem_cons_of_mem _ lw_665)) dX4_goOn_26 ?_
        refine lv_iload_n hx hb dX4_goOn_29 rfl (lv_at hl 1 rfl) ?_
        refine lv_iadd hx hb dX4_goOn_30 ?_
        obtain ⟨z4, e_z4, h⟩ := nm_s h
        refine pu_4_12 hx hb hts (inU inW_X4) hown hK hG hP hS k_162 (hts _ (List.mem_cons_of_mem _ lw_665)) dX4_goOn_31 (fun H locs hP hS => ?_)
        rw [← e_z4] at hP
        refine lv_aload_n hx hb dX4_goOn_34 rfl (lv_at hl 0 rfl) ?_
        refine ge_4_12 hx hb hts (inU inW_X4) hown hK hP k_162 (hts _ (List.mem_cons_of_mem _ lw_665)) dX4_goOn_35 ?_
        exact x_iret hx hb hr hlocks hK hP hS h dX4_goOn_38
      · rw [if_neg c3] at h
        refine lv_iconst (v := (-1)) hx hb dX4_goOn_22 (by decide) ?_
        exact x_iret hx hb hr hlocks hK hP hS h dX4_goOn_23
def fn_X4_counts (v1 : Int32) (v2 : Int32) (z : St) : Option (Int32 × St) := gd (ix v1 30) ((if v2 < (z.1 166 (Int32.toNatClampNeg v1)) then some (0, z) else gd (ix v1 30) ((if (z.1 167 (Int32.toNatClampNeg v1)) = (-1) then some (1, z) else gd (ix v1 30) ((if (z.1 167 (Int32.toNatClampNeg v1)) ≤ v2 then some (0, z) else some (1, z)))))))
set_option maxHeartbeats 4000000 in
set_option maxRecDepth 100000 in
theorem m_X4_counts {l : Launch} {G : wG} (hG : Ok G) {v1 : Int32} {v2 : Int32} {z : St} {Rz : Int32 × St}  (h : fn_X4_counts  v1 v2 z = some Rz) : Met l yX4_counts (wsU yX4_counts cX4_counts 3 (some .boolean)) (rmd 1) (va_Pc [.ref (G.2.2 162), .int v1, .int v2] (Pre G z)) (va_Qi (fun r u => (r, u) = Rz) (Pre G) (AW G)) 0 0 (AW G) := by
  refine Met.ofW (cc := cX4_counts) (maxL := 3) (ret := (some .boolean)) (by decide) rfl ?_
  intro p e s m args below meth c s₁ B hml hv
  obtain ⟨rfl, hP, hK⟩ := hv
  have C : CX p s m ([.ref (G.2.2 162), .int v1, .int v2] : List Value).toArray meth c cX4_counts 3 (wsU yX4_counts cX4_counts 3 (some .boolean)) RX4 (some .boolean) G := ⟨B.exec, B.bytes, hml, findClass_of_methodNamed B.named, atoms_spec (ws := (wsU yX4_counts cX4_counts 3 (some .boolean))) B.pre, B.returns, B.notSynchronized, hK, hG⟩
  obtain ⟨hx, hb, -, hown, hts, hr, hlocks, -, -⟩ := id C
  have hS : va_S (AW G) s.heap s.heap [] := va_S.rf
  have hl := lv_entry [.ref (G.2.2 162), .int v1, .int v2] (n := 3) (Nat.le_of_ble_eq_true rfl)
  rw [lg_entry_eq]
  generalize (lg_sl [.ref (G.2.2 162), .int v1, .int v2] ++ List.replicate (3 - (lg_sl [.ref (G.2.2 162), .int v1, .int v2]).length) Slot.unset).toArray = ls at hl ⊢
  have hl : lv_has ls 3 [(0, .ref (G.2.2 162)), (1, .int v1), (2, .int v2)] := hl
  unfold fn_X4_counts at h
  refine lv_aload_n hx hb dX4_counts_0 rfl (lv_at hl 0 rfl) ?_
  refine ge_4_5 hx hb hts (inU inW_X4) hown hK hP k_162 (hts _ (List.mem_cons_of_mem _ lw_655)) dX4_counts_1 ?_
  refine lv_iload_n hx hb dX4_counts_4 rfl (lv_at hl 1 rfl) ?_
  obtain ⟨g1, h⟩ := gd_s h
  refine xl_14 hx hb hK hP k_166 l_166 (ix_in g1) dX4_counts_5 ?_
  refine lv_iload_n hx hb dX4_counts_6 rfl (lv_at hl 2 rfl) ?_
  refine lv_icmp_gt (tgt := 34) hx hb dX4_counts_7 (by decide) (fun c2 => ?_) (fun c2 => ?_)
  · rw [if_pos c2] at h
    refine lv_iconst (v := 0) hx hb dX4_counts_34 (by decide) ?_
    exact x_zret hx hb hr hlocks hK hP hS rfl h dX4_counts_35
  · rw [if_neg c2] at h
    refine lv_aload_n hx hb dX4_counts_10 rfl (lv_at hl 0 rfl) ?_
    refine ge_4_6 hx hb hts (inU inW_X4) hown hK hP k_162 (hts _ (List.mem_cons_of_mem _ lw_656)) dX4_counts_11 ?_
    refine lv_iload_n hx hb dX4_counts_14 rfl (lv_at hl 1 rfl) ?_
    obtain ⟨g3, h⟩ := gd_s h
    refine xl_14 hx hb hK hP k_167 l_167 (ix_in g3) dX4_counts_15 ?_
    refine lv_iconst (v := (-1)) hx hb dX4_counts_16 (by decide) ?_
    refine lv_icmp_eq (tgt := 30) hx hb dX4_counts_17 (by decide) (fun c4 => ?_) (fun c4 => ?_)
    · rw [if_pos c4] at h
      refine lv_iconst (v := 1) hx hb dX4_counts_30 (by decide) ?_
      refine lv_goto (tgt := 35) hx hb dX4_counts_31 (by decide) ?_
      exact x_zret hx hb hr hlocks hK hP hS rfl h dX4_counts_35
    · rw [if_neg c4] at h
      refine lv_aload_n hx hb dX4_counts_20 rfl (lv_at hl 0 rfl) ?_
      refine ge_4_6 hx hb hts (inU inW_X4) hown hK hP k_162 (hts _ (List.mem_cons_of_mem _ lw_656)) dX4_counts_21 ?_
      refine lv_iload_n hx hb dX4_counts_24 rfl (lv_at hl 1 rfl) ?_
      obtain ⟨g5, h⟩ := gd_s h
      refine xl_14 hx hb hK hP k_167 l_167 (ix_in g5) dX4_counts_25 ?_
      refine lv_iload_n hx hb dX4_counts_26 rfl (lv_at hl 2 rfl) ?_
      refine lv_icmp_le (tgt := 34) hx hb dX4_counts_27 (by decide) (fun c6 => ?_) (fun c6 => ?_)
      · rw [if_pos c6] at h
        refine lv_iconst (v := 0) hx hb dX4_counts_34 (by decide) ?_
        exact x_zret hx hb hr hlocks hK hP hS rfl h dX4_counts_35
      · rw [if_neg c6] at h
        refine lv_iconst (v := 1) hx hb dX4_counts_30 (by decide) ?_
        refine lv_goto (tgt := 35) hx hb dX4_counts_31 (by decide) ?_
        exact x_zret hx hb hr hlocks hK hP hS rfl h dX4_counts_35
def fn_X4_agrees_89 (k3 : Int32 → Int64 → Int32 → Int32 → St → Option (Int32 × St)) (v1 : Int32) (v2 : Int64) (v4 : Int32) (v5 : Int32) (z : St) : Option (Int32 × St) := k3 v1 v2 v4 (v5 + 1) z
set_option maxHeartbeats 4000000 in
set_option maxRecDepth 100000 in
theorem pf_X4_agrees_89 {p : Program} {l : Launch} {e : Env} {s : State} {m : MethodId} {args : Array Value} {below : List Frame} {meth : Method} {c : Code} {G : wG} (C : CX p s m args meth c cX4_agrees 7 (wsU yX4_agrees cX4_agrees 7 (some .boolean)) RX4 (some .boolean) G) {Rz : Int32 × St} {k3 : Int32 → Int64 → Int32 → Int32 → St → Option (Int32 × St)} (hk_3 : ∀ (v1 : Int32) (v2 : Int64) (v4 : Int32) (v5 : Int32) (z : St)  (H : Heap) (locs : List Loc) (ls : Array Slot), WP G z H → va_S (AW G) s.heap H locs → lv_has ls 7 [(0, .ref (G.2.2 162)), (1, .int v1), (2, .long v2), (4, .int v4), (5, .int v5)] → k3 v1 v2 v4 v5 z = some Rz → W p l e (rmd 2) s m args below meth c H locs 0 0 (QI below args s G Rz) (F0 m 3 ls [])) (v1 : Int32) (v2 : Int64) (v4 : Int32) (v5 : Int32) (z : St)  {H : Heap} {locs : List Loc} {ls : Array Slot} (hP : WP G z H) (hS : va_S (AW G) s.heap H locs) (hl : lv_has ls 7 [(0, .ref (G.2.2 162)), (1, .int v1), (2, .long v2), (4, .int v4), (5, .int v5)]) (h : fn_X4_agrees_89  k3 v1 v2 v4 v5 z = some Rz) : W p l e (rmd 2) s m args below meth c H locs 0 0 (QI below args s G Rz) (F0 m 89 ls []) := by
  obtain ⟨hx, hb, hml, hown, hts, hr, hlocks, hK, hG⟩ := id C
  unfold fn_X4_agrees_89 at h
  refine lv_iinc (v := (v5 + 1)) (lv' := [(5, .int (v5 + 1)), (0, .ref (G.2.2 162)), (1, .int v1), (2, .long v2), (4, .int v4)]) hx hb dX4_agrees_89 hl (k := 4) rfl rfl (by decide) rfl (fun ls hl => ?_)
  refine lv_goto (tgt := 3) hx hb dX4_agrees_92 (by decide) ?_
  exact hk_3 v1 v2 v4 (v5 + 1) z  _ _ _ hP hS (lv_sub hl [1, 2, 3, 4, 0] rfl) h
def fn_X4_agrees_73 (k3 : Int32 → Int64 → Int32 → Int32 → St → Option (Int32 × St)) (v1 : Int32) (v2 : Int64) (v4 : Int32) (v5 : Int32) (tv0 : Int32) (z : St) : Option (Int32 × St) := gd (ix v5 30) ((if tv0 = (z.1 165 (Int32.toNatClampNeg v5)) then fn_X4_agrees_89  k3 v1 v2 v4 v5 z else some (0, z)))
set_option maxHeartbeats 4000000 in
set_option maxRecDepth 100000 in
theorem pf_X4_agrees_73 {p : Program} {l : Launch} {e : Env} {s : State} {m : MethodId} {args : Array Value} {below : List Frame} {meth : Method} {c : Code} {G : wG} (C : CX p s m args meth c cX4_agrees 7 (wsU yX4_agrees cX4_agrees 7 (some .boolean)) RX4 (some .boolean) G) {Rz : Int32 × St} {k3 : Int32 → Int64 → Int32 → Int32 → St → Option (Int32 × St)} (hk_3 : ∀ (v1 : Int32) (v2 : Int64) (v4 : Int32) (v5 : Int32) (z : St)  (H : Heap) (locs : List Loc) (ls : Array Slot), WP G z H → va_S (AW G) s.heap H locs → lv_has ls 7 [(0, .ref (G.2.2 162)), (1, .int v1), (2, .long v2), (4, .int v4), (5, .int v5)] → k3 v1 v2 v4 v5 z = some Rz → W p l e (rmd 2) s m args below meth c H locs 0 0 (QI below args s G Rz) (F0 m 3 ls [])) (v1 : Int32) (v2 : Int64) (v4 : Int32) (v5 : Int32) (tv0 : Int32) (z : St)  {H : Heap} {locs : List Loc} {ls : Array Slot} (hP : WP G z H) (hS : va_S (AW G) s.heap H locs) (hl : lv_has ls 7 [(0, .ref (G.2.2 162)), (1, .int v1), (2, .long v2), (4, .int v4), (5, .int v5)]) (h : fn_X4_agrees_73  k3 v1 v2 v4 v5 tv0 z = some Rz) : W p l e (rmd 2) s m args below meth c H locs 0 0 (QI below args s G Rz) (F0 m 73 ls [.int tv0]) := by
  obtain ⟨hx, hb, hml, hown, hts, hr, hlocks, hK, hG⟩ := id C
  unfold fn_X4_agrees_73 at h
  refine lv_istore (lv' := [(6, .int tv0), (0, .ref (G.2.2 162)), (1, .int v1), (2, .long v2), (4, .int v4), (5, .int v5)]) hx hb dX4_agrees_73 hl (by decide) rfl (fun ls hl => ?_)
  refine lv_iload hx hb dX4_agrees_75 (lv_at hl 0 rfl) ?_
  refine lv_aload_n hx hb dX4_agrees_77 rfl (lv_at hl 1 rfl) ?_
  refine ge_4_4 hx hb hts (inU inW_X4) hown hK hP k_162 (hts _ (List.mem_cons_of_mem _ lw_654)) dX4_agrees_78 ?_
  refine lv_iload hx hb dX4_agrees_81 (lv_at hl 5 rfl) ?_
  obtain ⟨g1, h⟩ := gd_s h
  refine xl_16 hx hb hK hP k_165 l_165 (ix_in g1) dX4_agrees_83 ?_
  refine lv_icmp_eq (tgt := 89) hx hb dX4_agrees_84 (by decide) (fun c2 => ?_) (fun c2 => ?_)
  · rw [if_pos c2] at h
    exact pf_X4_agrees_89 C  hk_3 v1 v2 v4 v5 z  hP hS (lv_sub hl [1, 2, 3, 4, 5] rfl) h
  · rw [if_neg c2] at h
    refine lv_iconst (v := 0) hx hb dX4_agrees_87 (by decide) ?_
    exact x_zret hx hb hr hlocks hK hP hS rfl h dX4_agrees_88
def fn_X4_agrees_3 : Nat → Int32 → Int64 → Int32 → Int32 → St → Option (Int32 × St)
  | 0, _, _, _, _, _ => none
  | n + 1, v1, v2, v4, v5, z => (if (z.1 162 11) ≤ v5 then some (1, z) else bd (fn_X4_counts  v5 v4 z) (fun r3 z4 => (if r3 = 0 then fn_X4_agrees_89  (fn_X4_agrees_3   n) v1 v2 v4 v5 z4 else gd (ix v5 30) ((if (z4.1 163 (Int32.toNatClampNeg v5)) = 0 then gd (ix v5 30) ((if v1 = (z4.1 164 (Int32.toNatClampNeg v5)) then fn_X4_agrees_73  (fn_X4_agrees_3   n) v1 v2 v4 v5 1 z4 else fn_X4_agrees_73  (fn_X4_agrees_3   n) v1 v2 v4 v5 0 z4)) else gd (ix v5 30) ((if (lg_cmp ((v2 >>> (Int32.toInt64 (z4.1 164 (Int32.toNatClampNeg v5)) &&& 63)) &&& 1) 1) = 0 then fn_X4_agrees_73  (fn_X4_agrees_3   n) v1 v2 v4 v5 1 z4 else fn_X4_agrees_73  (fn_X4_agrees_3   n) v1 v2 v4 v5 0 z4)))))))
set_option maxHeartbeats 4000000 in
set_option maxRecDepth 100000 in
theorem pf_X4_agrees_3 {p : Program} {l : Launch} {e : Env} {s : State} {m : MethodId} {args : Array Value} {below : List Frame} {meth : Method} {c : Code} {G : wG} (C : CX p s m args meth c cX4_agrees 7 (wsU yX4_agrees cX4_agrees 7 (some .boolean)) RX4 (some .boolean) G) {Rz : Int32 × St} : ∀ (n : Nat) (v1 : Int32) (v2 : Int64) (v4 : Int32) (v5 : Int32) (z : St)  (H : Heap) (locs : List Loc) (ls : Array Slot), WP G z H → va_S (AW G) s.heap H locs → lv_has ls 7 [(0, .ref (G.2.2 162)), (1, .int v1), (2, .long v2), (4, .int v4), (5, .int v5)] → fn_X4_agrees_3   n v1 v2 v4 v5 z = some Rz → W p l e (rmd 2) s m args below meth c H locs 0 0 (QI below args s G Rz) (F0 m 3 ls []) := by
  obtain ⟨hx, hb, hml, hown, hts, hr, hlocks, hK, hG⟩ := id C
  intro n
  induction n with
  | zero => intro v1 v2 v4 v5 z  H locs ls hP hS hl h; cases h
  | succ n ih =>
    intro v1 v2 v4 v5 z  H locs ls hP hS hl h
    rw [fn_X4_agrees_3] at h
    refine lv_iload hx hb dX4_agrees_3 (lv_at hl 4 rfl) ?_
    refine lv_aload_n hx hb dX4_agrees_5 rfl (lv_at hl 0 rfl) ?_
    refine ge_4_11 hx hb hts (inU inW_X4) hown hK hP k_162 (hts _ (List.mem_cons_of_mem _ lw_663)) dX4_agrees_6 ?_
    refine lv_icmp_ge (tgt := 95) hx hb dX4_agrees_9 (by decide) (fun c1 => ?_) (fun c1 => ?_)
    · rw [if_pos c1] at h
      refine lv_iconst (v := 1) hx hb dX4_agrees_95 (by decide) ?_
      exact x_zret hx hb hr hlocks hK hP hS rfl h dX4_agrees_96
    · rw [if_neg c1] at h
      refine lv_aload_n hx hb dX4_agrees_12 rfl (lv_at hl 0 rfl) ?_
      refine lv_iload hx hb dX4_agrees_13 (lv_at hl 4 rfl) ?_
      refine lv_iload hx hb dX4_agrees_15 (lv_at hl 3 rfl) ?_
      obtain ⟨r3, z4, h2, h⟩ := bd_s h
      refine x_Vi (Rz := (r3, z4)) (As := [.int v5, .int v4]) (rest := []) ⟨hx, hb, hml, hown, hts⟩ hK hP hS (kd_lt k_162 (by decide)) (cell_4 k_162) rfl (m_X4_counts hG   h2) (cwV 2 hts (gV lw_1387 lw_1389 lw_43 lw_124 lw_1390) rfl rfl rfl (by decide +kernel) (rmd_ok (by decide) (by decide))) rfl hl.1 rfl (Nat.le_of_ble_eq_true rfl) dX4_agrees_17 ⟨Nat.le_refl _, Nat.le_refl _⟩ (fun H locs hP hS => ?_)
      refine lv_if_eq (tgt := 89) hx hb dX4_agrees_20 (by decide) (fun c5 => ?_) (fun c5 => ?_)
      · rw [if_pos c5] at h
        exact pf_X4_agrees_89 C  ih v1 v2 v4 v5 z4  hP hS (lv_sub hl [0, 1, 2, 3, 4] rfl) h
      · rw [if_neg c5] at h
        refine lv_aload_n hx hb dX4_agrees_23 rfl (lv_at hl 0 rfl) ?_
        refine ge_4_2 hx hb hts (inU inW_X4) hown hK hP k_162 (hts _ (List.mem_cons_of_mem _ lw_652)) dX4_agrees_24 ?_
        refine lv_iload hx hb dX4_agrees_27 (lv_at hl 4 rfl) ?_
        obtain ⟨g6, h⟩ := gd_s h
        refine xl_14 hx hb hK hP k_163 l_163 (ix_in g6) dX4_agrees_29 ?_
        refine lv_if_ne (tgt := 52) hx hb dX4_agrees_30 (by decide) (fun c7 => ?_) (fun c7 => ?_)
        · rw [if_neg c7] at h
          refine lv_lload_n hx hb dX4_agrees_52 rfl (lv_at hl 2 rfl) ?_
          refine lv_aload_n hx hb dX4_agrees_53 rfl (lv_at hl 0 rfl) ?_
          refine ge_4_3 hx hb hts (inU inW_X4) hown hK hP k_162 (hts _ (List.mem_cons_of_mem _ lw_653)) dX4_agrees_54 ?_
          refine lv_iload hx hb dX4_agrees_57 (lv_at hl 4 rfl) ?_
          obtain ⟨g8, h⟩ := gd_s h
          refine xl_14 hx hb hK hP k_164 l_164 (ix_in g8) dX4_agrees_59 ?_
          refine lv_lshr hx hb dX4_agrees_60 rfl ?_
          refine lv_lconst (v := 1) hx hb dX4_agrees_61 (by decide) ?_
          refine lv_land hx hb dX4_agrees_62 ?_
          refine lv_lconst (v := 1) hx hb dX4_agrees_63 (by decide) ?_
          refine W.lcmp hx hb dX4_agrees_64 ?_
          refine lv_if_ne (tgt := 72) hx hb dX4_agrees_65 (by decide) (fun c9 => ?_) (fun c9 => ?_)
          · rw [if_neg c9] at h
            refine lv_iconst (v := 0) hx hb dX4_agrees_72 (by decide) ?_
            exact pf_X4_agrees_73 C  ih v1 v2 v4 v5 0 z4  hP hS (lv_sub hl [0, 1, 2, 3, 4] rfl) h
          · rw [if_pos c9] at h
            refine lv_iconst (v := 1) hx hb dX4_agrees_68 (by decide) ?_
            refine lv_goto (tgt := 73) hx hb dX4_agrees_69 (by decide) ?_
            exact pf_X4_agrees_73 C  ih v1 v2 v4 v5 1 z4  hP hS (lv_sub hl [0, 1, 2, 3, 4] rfl) h
        · rw [if_pos c7] at h
          refine lv_iload_n hx hb dX4_agrees_33 rfl (lv_at hl 1 rfl) ?_
          refine lv_aload_n hx hb dX4_agrees_34 rfl (lv_at hl 0 rfl) ?_
          refine ge_4_3 hx hb hts (inU inW_X4) hown hK hP k_162 (hts _ (List.mem_cons_of_mem _ lw_653)) dX4_agrees_35 ?_
          refine lv_iload hx hb dX4_agrees_38 (lv_at hl 4 rfl) ?_
          obtain ⟨g10, h⟩ := gd_s h
          refine xl_14 hx hb hK hP k_164 l_164 (ix_in g10) dX4_agrees_40 ?_
          refine lv_icmp_ne (tgt := 48) hx hb dX4_agrees_41 (by decide) (fun c11 => ?_) (fun c11 => ?_)
          · rw [if_neg c11] at h
            refine lv_iconst (v := 0) hx hb dX4_agrees_48 (by decide) ?_
            refine lv_goto (tgt := 73) hx hb dX4_agrees_49 (by decide) ?_
            exact pf_X4_agrees_73 C  ih v1 v2 v4 v5 0 z4  hP hS (lv_sub hl [0, 1, 2, 3, 4] rfl) h
          · rw [if_pos c11] at h
            refine lv_iconst (v := 1) hx hb dX4_agrees_44 (by decide) ?_
            refine lv_goto (tgt := 73) hx hb dX4_agrees_45 (by decide) ?_
            exact pf_X4_agrees_73 C  ih v1 v2 v4 v5 1 z4  hP hS (lv_sub hl [0, 1, 2, 3, 4] rfl) h
def fn_X4_agrees (v1 : Int32) (v2 : Int64) (v4 : Int32) (z : St) : Option (Int32 × St) := fn_X4_agrees_3   fu v1 v2 v4 0 z
set_option maxHeartbeats 4000000 in
set_option maxRecDepth 100000 in
theorem m_X4_agrees {l : Launch} {G : wG} (hG : Ok G) {v1 : Int32} {v2 : Int64} {v4 : Int32} {z : St} {Rz : Int32 × St}  (h : fn_X4_agrees  v1 v2 v4 z = some Rz) : Met l yX4_agrees (wsU yX4_agrees cX4_agrees 7 (some .boolean)) (rmd 2) (va_Pc [.ref (G.2.2 162), .int v1, .long v2, .int v4] (Pre G z)) (va_Qi (fun r u => (r, u) = Rz) (Pre G) (AW G)) 0 0 (AW G) := by
  refine Met.ofW (cc := cX4_agrees) (maxL := 7) (ret := (some .boolean)) (by decide) rfl ?_
  intro p e s m args below meth c s₁ B hml hv
  obtain ⟨rfl, hP, hK⟩ := hv
  have C : CX p s m ([.ref (G.2.2 162), .int v1, .long v2, .int v4] : List Value).toArray meth c cX4_agrees 7 (wsU yX4_agrees cX4_agrees 7 (some .boolean)) RX4 (some .boolean) G := ⟨B.exec, B.bytes, hml, findClass_of_methodNamed B.named, atoms_spec (ws := (wsU yX4_agrees cX4_agrees 7 (some .boolean))) B.pre, B.returns, B.notSynchronized, hK, hG⟩
  obtain ⟨hx, hb, -, hown, hts, hr, hlocks, -, -⟩ := id C
  have hS : va_S (AW G) s.heap s.heap [] := va_S.rf
  have hl := lv_entry [.ref (G.2.2 162), .int v1, .long v2, .int v4] (n := 7) (Nat.le_of_ble_eq_true rfl)
  rw [lg_entry_eq]
  generalize (lg_sl [.ref (G.2.2 162), .int v1, .long v2, .int v4] ++ List.replicate (7 - (lg_sl [.ref (G.2.2 162), .int v1, .long v2, .int v4]).length) Slot.unset).toArray = ls at hl ⊢
  have hl : lv_has ls 7 [(0, .ref (G.2.2 162)), (1, .int v1), (2, .long v2), (4, .int v4)] := hl
  unfold fn_X4_agrees at h
  refine lv_iconst (v := 0) hx hb dX4_agrees_0 (by decide) ?_
  refine lv_istore (lv' := [(5, .int 0), (0, .ref (G.2.2 162)), (1, .int v1), (2, .long v2), (4, .int v4)]) hx hb dX4_agrees_1 hl (by decide) rfl (fun ls hl => ?_)
  exact pf_X4_agrees_3 C   fu v1 v2 v4 0 z  _ _ _ hP hS (lv_sub hl [1, 2, 3, 4, 0] rfl) h
def fn_X4_gather_164 (k43 : Int32 → Int32 → Int32 → Int32 → St → Option (Int32 × St)) (k52 : Int32 → Int32 → Int32 → Int32 → Int32 → St → Option (Int32 × St)) (v1 : Int32) (v2 : Int32) (v3 : Int32) (v4 : Int32) (v5 : Int32) (z : St) : Option (Int32 × St) := k52 v1 v2 v3 v4 (v5 + 1) z
set_option maxHeartbeats 4000000 in
set_option maxRecDepth 100000 in
theorem pf_X4_gather_164 {p : Program} {l : Launch} {e : Env} {s : State} {m : MethodId} {args : Array Value} {below : List Frame} {meth : Method} {c : Code} {G : wG} (C : CX p s m args meth c cX4_gather 9 (wsU yX4_gather cX4_gather 9 (some .int)) RX4 (some .int) G) {Rz : Int32 × St} {k43 : Int32 → Int32 → Int32 → Int32 → St → Option (Int32 × St)} {k52 : Int32 → Int32 → Int32 → Int32 → Int32 → St → Option (Int32 × St)} (hk_43 : ∀ (v1 : Int32) (v2 : Int32) (v3 : Int32) (v4 : Int32) (z : St)  (H : Heap) (locs : List Loc) (ls : Array Slot), WP G z H → va_S (AW G) s.heap H locs → lv_has ls 9 [(0, .ref (G.2.2 162)), (1, .int v1), (2, .int v2), (3, .int v3), (4, .int v4)] → k43 v1 v2 v3 v4 z = some Rz → W p l e (rmd 3) s m args below meth c H locs 0 0 (QI below args s G Rz) (F0 m 43 ls [])) (hk_52 : ∀ (v1 : Int32) (v2 : Int32) (v3 : Int32) (v4 : Int32) (v5 : Int32) (z : St)  (H : Heap) (locs : List Loc) (ls : Array Slot), WP G z H → va_S (AW G) s.heap H locs → lv_has ls 9 [(0, .ref (G.2.2 162)), (1, .int v1), (2, .int v2), (3, .int v3), (4, .int v4), (5, .int v5)] → k52 v1 v2 v3 v4 v5 z = some Rz → W p l e (rmd 3) s m args below meth c H locs 0 0 (QI below args s G Rz) (F0 m 52 ls [])) (v1 : Int32) (v2 : Int32) (v3 : Int32) (v4 : Int32) (v5 : Int32) (z : St)  {H : Heap} {locs : List Loc} {ls : Array Slot} (hP : WP G z H) (hS : va_S (AW G) s.heap H locs) (hl : lv_has ls 9 [(0, .ref (G.2.2 162)), (1, .int v1), (2, .int v2), (3, .int v3), (4, .int v4), (5, .int v5)]) (h : fn_X4_gather_164  k43 k52 v1 v2 v3 v4 v5 z = some Rz) : W p l e (rmd 3) s m args below meth c H locs 0 0 (QI below args s G Rz) (F0 m 164 ls []) := by
  obtain ⟨hx, hb, hml, hown, hts, hr, hlocks, hK, hG⟩ := id C
  unfold fn_X4_gather_164 at h
  refine lv_iinc (v := (v5 + 1)) (lv' := [(5, .int (v5 + 1)), (0, .ref (G.2.2 162)), (1, .int v1), (2, .int v2), (3, .int v3), (4, .int v4)]) hx hb dX4_gather_164 hl (k := 5) rfl rfl (by decide) rfl (fun ls hl => ?_)
  refine lv_goto (tgt := 52) hx hb dX4_gather_167 (by decide) ?_
  exact hk_52 v1 v2 v3 v4 (v5 + 1) z  _ _ _ hP hS (lv_sub hl [1, 2, 3, 4, 5, 0] rfl) h
def fn_X4_gather_52 (k43 : Int32 → Int32 → Int32 → Int32 → St → Option (Int32 × St)) : Nat → Int32 → Int32 → Int32 → Int32 → Int32 → St → Option (Int32 × St)
  | 0, _, _, _, _, _, _ => none
  | n + 1, v1, v2, v3, v4, v5, z => (if v3 < v5 then k43 v1 v2 v3 (v4 + 1) z else bd (fn_X3_canBe  v2 v3 v4 v5 z) (fun r3 z4 => (if r3 = 0 then fn_X4_gather_164  k43 (fn_X4_gather_52  k43 n) v1 v2 v3 v4 v5 z4 else bd (fn_X3_icingSet  v2 v3 v4 v5 z4) (fun r7 z8 => gd (v4 != 0) (gd (v5 != 0) (nm ((v2 / v4) * (v3 / v5)) (fun v8_11 => (if 16 ≤ (z8.1 162 10) then fn_X4_gather_164  k43 (fn_X4_gather_52  k43 n) v1 v2 v3 v4 v5 z8 else bd (fn_X4_agrees  v8_11 r7 v1 z8) (fun r14 z15 => (if r14 = 0 then fn_X4_gather_164  k43 (fn_X4_gather_52  k43 n) v1 v2 v3 v4 v5 z15 else gd (ix (z15.1 162 10) 16) (nm (sI z15 168 (Int32.toNatClampNeg (z15.1 162 10)) v4) (fun z18 => gd (ix (z18.1 162 10) 16) (nm (sI z18 169 (Int32.toNatClampNeg (z18.1 162 10)) v5) (fun z20 => gd (ix (z20.1 162 10) 16) (nm (sJ z20 170 (Int32.toNatClampNeg (z20.1 162 10)) r7) (fun z22 => nm (sI z22 162 10 ((z22.1 162 10) + 1)) (fun z23 => fn_X4_gather_164  k43 (fn_X4_gather_52  k43 n) v1 v2 v3 v4 v5 z23)))))))))))))))))
set_option maxHeartbeats 4000000 in
set_option maxRecDepth 100000 in
theorem pf_X4_gather_52 {p : Program} {l : Launch} {e : Env} {s : State} {m : MethodId} {args : Array Value} {below : List Frame} {meth : Method} {c : Code} {G : wG} (C : CX p s m args meth c cX4_gather 9 (wsU yX4_gather cX4_gather 9 (some .int)) RX4 (some .int) G) {Rz : Int32 × St} {k43 : Int32 → Int32 → Int32 → Int32 → St → Option (Int32 × St)} (hk_43 : ∀ (v1 : Int32) (v2 : Int32) (v3 : Int32) (v4 : Int32) (z : St)  (H : Heap) (locs : List Loc) (ls : Array Slot), WP G z H → va_S (AW G) s.heap H locs → lv_has ls 9 [(0, .ref (G.2.2 162)), (1, .int v1), (2, .int v2), (3, .int v3), (4, .int v4)] → k43 v1 v2 v3 v4 z = some Rz → W p l e (rmd 3) s m args below meth c H locs 0 0 (QI below args s G Rz) (F0 m 43 ls [])) : ∀ (n : Nat) (v1 : Int32) (v2 : Int32) (v3 : Int32) (v4 : Int32) (v5 : Int32) (z : St)  (H : Heap) (locs : List Loc) (ls : Array Slot), WP G z H → va_S (AW G) s.heap H locs → lv_has ls 9 [(0, .ref (G.2.2 162)), (1, .int v1), (2, .int v2), (3, .int v3), (4, .int v4), (5, .int v5)] → fn_X4_gather_52  k43 n v1 v2 v3 v4 v5 z = some Rz → W p l e (rmd 3) s m args below meth c H locs 0 0 (QI below args s G Rz) (F0 m 52 ls []) := by
  obtain ⟨hx, hb, hml, hown, hts, hr, hlocks, hK, hG⟩ := id C
  intro n
  induction n with
  | zero => intro v1 v2 v3 v4 v5 z  H locs ls hP hS hl h; cases h
  | succ n ih =>
    intro v1 v2 v3 v4 v5 z  H locs ls hP hS hl h
    rw [fn_X4_gather_52] at h
    refine lv_iload hx hb dX4_gather_52 (lv_at hl 5 rfl) ?_
    refine lv_iload_n hx hb dX4_gather_54 rfl (lv_at hl 3 rfl) ?_
    refine lv_icmp_gt (tgt := 170) hx hb dX4_gather_55 (by decide) (fun c1 => ?_) (fun c1 => ?_)
    · rw [if_pos c1] at h
      refine lv_iinc (v := (v4 + 1)) (lv' := [(4, .int (v4 + 1)), (0, .ref (G.2.2 162)), (1, .int v1), (2, .int v2), (3, .int v3), (5, .int v5)]) hx hb dX4_gather_170 hl (k := 4) rfl rfl (by decide) rfl (fun ls hl => ?_)
      refine lv_goto (tgt := 43) hx hb dX4_gather_173 (by decide) ?_
      exact hk_43 v1 v2 v3 (v4 + 1) z  _ _ _ hP hS (lv_sub hl [1, 2, 3, 4, 0] rfl) h
    · rw [if_neg c1] at h
      refine lv_aload_n hx hb dX4_gather_58 rfl (lv_at hl 0 rfl) ?_
      refine ge_4_1 hx hb hts (inU inW_X4) hown hK hP k_162 (hts _ (List.mem_cons_of_mem _ lw_651)) dX4_gather_59 ?_
      refine lv_iload_n hx hb dX4_gather_62 rfl (lv_at hl 2 rfl) ?_
      refine lv_iload_n hx hb dX4_gather_63 rfl (lv_at hl 3 rfl) ?_
      refine lv_iload hx hb dX4_gather_64 (lv_at hl 4 rfl) ?_
      refine lv_iload hx hb dX4_gather_66 (lv_at hl 5 rfl) ?_
      obtain ⟨r3, z4, h2, h⟩ := bd_s h
      refine x_Vi (Rz := (r3, z4)) (As := [.int v2, .int v3, .int v4, .int v5]) (rest := []) ⟨hx, hb, hml, hown, hts⟩ hK hP hS (kd_lt k_161 (by decide)) (cell_3 k_161) rfl (m_X3_canBe hG   h2) (cwV 4 hts (gV lw_1381 lw_1303 lw_1304 lw_123 lw_1305) rfl rfl rfl (by decide +kernel) (rmd_ok (by decide) (by decide))) rfl hl.1 rfl (Nat.le_of_ble_eq_true rfl) dX4_gather_68 ⟨Nat.le_refl _, Nat.le_refl _⟩ (fun H locs hP hS => ?_)
      refine lv_if_eq (tgt := 164) hx hb dX4_gather_71 (by decide) (fun c5 => ?_) (fun c5 => ?_)
      · rw [if_pos c5] at h
        exact pf_X4_gather_164 C  hk_43 ih v1 v2 v3 v4 v5 z4  hP hS (lv_sub hl [0, 1, 2, 3, 4, 5] rfl) h
      · rw [if_neg c5] at h
        refine lv_aload_n hx hb dX4_gather_74 rfl (lv_at hl 0 rfl) ?_
        refine ge_4_1 hx hb hts (inU inW_X4) hown hK hP k_162 (hts _ (List.mem_cons_of_mem _ lw_651)) dX4_gather_75 ?_
        refine lv_iload_n hx hb dX4_gather_78 rfl (lv_at hl 2 rfl) ?_
        refine lv_iload_n hx hb dX4_gather_79 rfl (lv_at hl 3 rfl) ?_
        refine lv_iload hx hb dX4_gather_80 (lv_at hl 4 rfl) ?_
        refine lv_iload hx hb dX4_gather_82 (lv_at hl 5 rfl) ?_
        obtain ⟨r7, z8, h6, h⟩ := bd_s h
        refine x_Vl (Rz := (r7, z8)) (As := [.int v2, .int v3, .int v4, .int v5]) (rest := []) ⟨hx, hb, hml, hown, hts⟩ hK hP hS (kd_lt k_161 (by decide)) (cell_3 k_161) rfl (m_X3_icingSet hG   h6) (cwV 4 hts (gV lw_1382 lw_1307 lw_1308 lw_123 lw_1309) rfl rfl rfl (by decide +kernel) (rmd_ok (by decide) (by decide))) rfl hl.1 rfl (Nat.le_of_ble_eq_true rfl) dX4_gather_84 ⟨Nat.le_refl _, Nat.le_refl _⟩ (fun H locs hP hS => ?_)
        refine lv_lstore (lv' := [(6, .long r7), (0, .ref (G.2.2 162)), (1, .int v1), (2, .int v2), (3, .int v3), (4, .int v4), (5, .int v5)]) hx hb dX4_gather_87 hl (by decide) rfl (fun ls hl => ?_)
        refine lv_iload_n hx hb dX4_gather_89 rfl (lv_at hl 3 rfl) ?_
        refine lv_iload hx hb dX4_gather_90 (lv_at hl 5 rfl) ?_
        obtain ⟨g9, h⟩ := gd_s h
        refine lv_idiv hx hb dX4_gather_92 (bne_z g9) ?_
        refine lv_iload_n hx hb dX4_gather_93 rfl (lv_at hl 4 rfl) ?_
        refine lv_iload hx hb dX4_gather_94 (lv_at hl 6 rfl) ?_
        obtain ⟨g10, h⟩ := gd_s h
        refine lv_idiv hx hb dX4_gather_96 (bne_z g10) ?_
        refine lv_imul hx hb dX4_gather_97 ?_
        obtain ⟨v8_11, e_v8_11, h⟩ := nm_s h
        refine x_top e_v8_11 ?_
        refine lv_istore (lv' := [(8, .int v8_11), (6, .long r7), (0, .ref (G.2.2 162)), (1, .int v1), (2, .int v2), (3, .int v3), (4, .int v4), (5, .int v5)]) hx hb dX4_gather_98 hl (by decide) rfl (fun ls hl => ?_)
        refine lv_aload_n hx hb dX4_gather_100 rfl (lv_at hl 2 rfl) ?_
        refine ge_4_10 hx hb hts (inU inW_X4) hown hK hP k_162 (hts _ (List.mem_cons_of_mem _ lw_662)) dX4_gather_101 ?_
        refine lv_bipush (v := 16) hx hb dX4_gather_104 (by decide) ?_
        refine lv_icmp_ge (tgt := 164) hx hb dX4_gather_106 (by decide) (fun c12 => ?_) (fun c12 => ?_)
        · rw [if_pos c12] at h
          exact pf_X4_gather_164 C  hk_43 ih v1 v2 v3 v4 v5 z8  hP hS (lv_sub hl [2, 3, 4, 5, 6, 7] rfl) h
        · rw [if_neg c12] at h
          refine lv_aload_n hx hb dX4_gather_109 rfl (lv_at hl 2 rfl) ?_
          refine lv_iload hx hb dX4_gather_110 (lv_at hl 0 rfl) ?_
          refine lv_lload hx hb dX4_gather_112 (lv_at hl 1 rfl) ?_
          refine lv_iload_n hx hb dX4_gather_114 rfl (lv_at hl 3 rfl) ?_
          obtain ⟨r14, z15, h13, h⟩ := bd_s h
          refine x_Vi (Rz := (r14, z15)) (As := [.int v8_11, .long r7, .int v1]) (rest := []) ⟨hx, hb, hml, hown, hts⟩ hK hP hS (kd_lt k_162 (by decide)) (cell_4 k_162) rfl (m_X4_agrees hG   h13) (cwV 3 hts (gV lw_1383 lw_1385 lw_42 lw_124 lw_1386) rfl rfl rfl (by decide +kernel) (rmd_ok (by decide) (by decide))) rfl hl.1 rfl (Nat.le_of_ble_eq_true rfl) dX4_gather_115 ⟨Nat.le_refl _, Nat.le_refl _⟩ (fun H locs hP hS => ?_)
          refine lv_if_eq (tgt := 164) hx hb dX4_gather_118 (by decide) (fun c16 => ?_) (fun c16 => ?_)
          · rw [if_pos c16] at h
            exact pf_X4_gather_164 C  hk_43 ih v1 v2 v3 v4 v5 z15  hP hS (lv_sub hl [2, 3, 4, 5, 6, 7] rfl) h
          · rw [if_neg c16] at h
            refine lv_aload_n hx hb dX4_gather_121 rfl (lv_at hl 2 rfl) ?_
            refine ge_4_7 hx hb hts (inU inW_X4) hown hK hP k_162 (hts _ (List.mem_cons_of_mem _ lw_657)) dX4_gather_122 ?_
            refine lv_aload_n hx hb dX4_gather_125 rfl (lv_at hl 2 rfl) ?_
            refine ge_4_10 hx hb hts (inU inW_X4) hown hK hP k_162 (hts _ (List.mem_cons_of_mem _ lw_662)) dX4_gather_126 ?_
            refine lv_iload hx hb dX4_gather_129 (lv_at hl 6 rfl) ?_
            obtain ⟨g17, h⟩ := gd_s h
            obtain ⟨z18, e_z18, h⟩ := nm_s h
            refine xs_14 hx hb hK hG hP hS k_168 l_168 (ix_in g17) dX4_gather_131 (fun H locs hP hS => ?_)
            rw [← e_z18] at hP
            refine lv_aload_n hx hb dX4_gather_132 rfl (lv_at hl 2 rfl) ?_
            refine ge_4_8 hx hb hts (inU inW_X4) hown hK hP k_162 (hts _ (List.mem_cons_of_mem _ lw_659)) dX4_gather_133 ?_
            refine lv_aload_n hx hb dX4_gather_136 rfl (lv_at hl 2 rfl) ?_
            refine ge_4_10 hx hb hts (inU inW_X4) hown hK hP k_162 (hts _ (List.mem_cons_of_mem _ lw_662)) dX4_gather_137 ?_
            refine lv_iload hx hb dX4_gather_140 (lv_at hl 7 rfl) ?_
            obtain ⟨g19, h⟩ := gd_s h
            obtain ⟨z20, e_z20, h⟩ := nm_s h
            refine xs_14 hx hb hK hG hP hS k_169 l_169 (ix_in g19) dX4_gather_142 (fun H locs hP hS => ?_)
            rw [← e_z20] at hP
            refine lv_aload_n hx hb dX4_gather_143 rfl (lv_at hl 2 rfl) ?_
            refine ge_4_9 hx hb hts (inU inW_X4) hown hK hP k_162 (hts _ (List.mem_cons_of_mem _ lw_661)) dX4_gather_144 ?_
            refine lv_aload_n hx hb dX4_gather_147 rfl (lv_at hl 2 rfl) ?_
            refine ge_4_10 hx hb hts (inU inW_X4) hown hK hP k_162 (hts _ (List.mem_cons_of_mem _ lw_662)) dX4_gather_148 ?_
            refine lv_lload hx hb dX4_gather_151 (lv_at hl 1 rfl) ?_
            obtain ⟨g21, h⟩ := gd_s h
            obtain ⟨z22, e_z22, h⟩ := nm_s h
            refine xs_15 hx hb hK hG hP hS k_170 l_170 (ix_in g21) dX4_gather_153 (fun H locs hP hS => ?_)
            rw [← e_z22] at hP
            refine lv_aload_n hx hb dX4_gather_154 rfl (lv_at hl 2 rfl) ?_
            refine lv_dup hx hb dX4_gather_155 rfl ?_
            refine ge_4_10 hx hb hts (inU inW_X4) hown hK hP k_162 (hts _ (List.mem_cons_of_mem _ lw_662)) dX4_gather_156 ?_
            refine lv_iconst (v := 1) hx hb dX4_gather_159 (by decide) ?_
            refine lv_iadd hx hb dX4_gather_160 ?_
            obtain ⟨z23, e_z23, h⟩ := nm_s h
            refine pu_4_10 hx hb hts (inU inW_X4) hown hK hG hP hS k_162 (hts _ (List.mem_cons_of_mem _ lw_662)) dX4_gather_161 (fun H locs hP hS => ?_)
            rw [← e_z23] at hP
            exact pf_X4_gather_164 C  hk_43 ih v1 v2 v3 v4 v5 z23  hP hS (lv_sub hl [2, 3, 4, 5, 6, 7] rfl) h
def fn_X4_gather_43 : Nat → Int32 → Int32 → Int32 → Int32 → St → Option (Int32 × St)
  | 0, _, _, _, _, _ => none
  | n + 1, v1, v2, v3, v4, z => (if v2 < v4 then some ((z.1 162 10), z) else fn_X4_gather_52  (fn_X4_gather_43   n) fu v1 v2 v3 v4 1 z)
set_option maxHeartbeats 4000000 in
set_option maxRecDepth 100000 in
theorem pf_X4_gather_43 {p : Program} {l : Launch} {e : Env} {s : State} {m : MethodId} {args : Array Value} {below : List Frame} {meth : Method} {c : Code} {G : wG} (C : CX p s m args meth c cX4_gather 9 (wsU yX4_gather cX4_gather 9 (some .int)) RX4 (some .int) G) {Rz : Int32 × St} : ∀ (n : Nat) (v1 : Int32) (v2 : Int32) (v3 : Int32) (v4 : Int32) (z : St)  (H : Heap) (locs : List Loc) (ls : Array Slot), WP G z H → va_S (AW G) s.heap H locs → lv_has ls 9 [(0, .ref (G.2.2 162)), (1, .int v1), (2, .int v2), (3, .int v3), (4, .int v4)] → fn_X4_gather_43   n v1 v2 v3 v4 z = some Rz → W p l e (rmd 3) s m args below meth c H locs 0 0 (QI below args s G Rz) (F0 m 43 ls []) := by
  obtain ⟨hx, hb, hml, hown, hts, hr, hlocks, hK, hG⟩ := id C
  intro n
  induction n with
  | zero => intro v1 v2 v3 v4 z  H locs ls hP hS hl h; cases h
  | succ n ih =>
    intro v1 v2 v3 v4 z  H locs ls hP hS hl h
    rw [fn_X4_gather_43] at h
    refine lv_iload hx hb dX4_gather_43 (lv_at hl 4 rfl) ?_
    refine lv_iload_n hx hb dX4_gather_45 rfl (lv_at hl 2 rfl) ?_
    refine lv_icmp_gt (tgt := 176) hx hb dX4_gather_46 (by decide) (fun c1 => ?_) (fun c1 => ?_)
    · rw [if_pos c1] at h
      refine lv_aload_n hx hb dX4_gather_176 rfl (lv_at hl 0 rfl) ?_
      refine ge_4_10 hx hb hts (inU inW_X4) hown hK hP k_162 (hts _ (List.mem_cons_of_mem _ lw_662)) dX4_gather_177 ?_
      exact x_iret hx hb hr hlocks hK hP hS h dX4_gather_180
    · rw [if_neg c1] at h
      refine lv_iconst (v := 1) hx hb dX4_gather_49 (by decide) ?_
      refine lv_istore (lv' := [(5, .int 1), (0, .ref (G.2.2 162)), (1, .int v1), (2, .int v2), (3, .int v3), (4, .int v4)]) hx hb dX4_gather_50 hl (by decide) rfl (fun ls hl => ?_)
      exact pf_X4_gather_52 C  ih fu v1 v2 v3 v4 1 z  _ _ _ hP hS (lv_sub hl [1, 2, 3, 4, 5, 0] rfl) h
def fn_X4_gather (v1 : Int32) (z : St) : Option (Int32 × St) := nm (sI z 162 10 0) (fun z1 => (if (z1.1 2 0) = 0 then some ((z1.1 162 10), z1) else nm (z1.1 4 (Int32.toNatClampNeg 0)) (fun v2_3 => nm (z1.1 5 (Int32.toNatClampNeg 0)) (fun v3_4 => fn_X4_gather_43   fu v1 v2_3 v3_4 1 z1))))
set_option maxHeartbeats 4000000 in
set_option maxRecDepth 100000 in
theorem m_X4_gather {l : Launch} {G : wG} (hG : Ok G) {v1 : Int32} {z : St} {Rz : Int32 × St}  (h : fn_X4_gather  v1 z = some Rz) : Met l yX4_gather (wsU yX4_gather cX4_gather 9 (some .int)) (rmd 3) (va_Pc [.ref (G.2.2 162), .int v1] (Pre G z)) (va_Qi (fun r u => (r, u) = Rz) (Pre G) (AW G)) 0 0 (AW G) := by
  refine Met.ofW (cc := cX4_gather) (maxL := 9) (ret := (some .int)) (by decide) rfl ?_
  intro p e s m args below meth c s₁ B hml hv
  obtain ⟨rfl, hP, hK⟩ := hv
  have C : CX p s m ([.ref (G.2.2 162), .int v1] : List Value).toArray meth c cX4_gather 9 (wsU yX4_gather cX4_gather 9 (some .int)) RX4 (some .int) G := ⟨B.exec, B.bytes, hml, findClass_of_methodNamed B.named, atoms_spec (ws := (wsU yX4_gather cX4_gather 9 (some .int))) B.pre, B.returns, B.notSynchronized, hK, hG⟩
  obtain ⟨hx, hb, -, hown, hts, hr, hlocks, -, -⟩ := id C
  have hS : va_S (AW G) s.heap s.heap [] := va_S.rf
  have hl := lv_entry [.ref (G.2.2 162), .int v1] (n := 9) (Nat.le_of_ble_eq_true rfl)
  rw [lg_entry_eq]
  generalize (lg_sl [.ref (G.2.2 162), .int v1] ++ List.replicate (9 - (lg_sl [.ref (G.2.2 162), .int v1]).length) Slot.unset).toArray = ls at hl ⊢
  have hl : lv_has ls 9 [(0, .ref (G.2.2 162)), (1, .int v1)] := hl
  unfold fn_X4_gather at h
  refine lv_aload_n hx hb dX4_gather_0 rfl (lv_at hl 0 rfl) ?_
  refine lv_iconst (v := 0) hx hb dX4_gather_1 (by decide) ?_
  obtain ⟨z1, e_z1, h⟩ := nm_s h
  refine pu_4_10 hx hb hts (inU inW_X4) hown hK hG hP hS k_162 (hts _ (List.mem_cons_of_mem _ lw_662)) dX4_gather_2 (fun H locs hP hS => ?_)
  rw [← e_z1] at hP
  refine lv_aload_n hx hb dX4_gather_5 rfl (lv_at hl 0 rfl) ?_
  refine ge_4_0 hx hb hts (inU inW_X4) hown hK hP k_162 (hts _ (List.mem_cons_of_mem _ lw_650)) dX4_gather_6 ?_
  refine ge_7_0 hx hb hts (inU inW_X7) hown hK hP k_2 (hts _ (List.mem_cons_of_mem _ lw_179)) dX4_gather_9 ?_
  refine lv_if_ne (tgt := 20) hx hb dX4_gather_12 (by decide) (fun c2 => ?_) (fun c2 => ?_)
  · rw [if_neg c2] at h
    refine lv_aload_n hx hb dX4_gather_20 rfl (lv_at hl 0 rfl) ?_
    refine ge_4_0 hx hb hts (inU inW_X4) hown hK hP k_162 (hts _ (List.mem_cons_of_mem _ lw_650)) dX4_gather_21 ?_
    refine ge_7_2 hx hb hts (inU inW_X7) hown hK hP k_2 (hts _ (List.mem_cons_of_mem _ lw_186)) dX4_gather_24 ?_
    refine lv_iconst (v := 0) hx hb dX4_gather_27 (by decide) ?_
    refine xl_14 hx hb hK hP k_4 l_4 (ix_in (by decide)) dX4_gather_28 ?_
    obtain ⟨v2_3, e_v2_3, h⟩ := nm_s h
    refine x_top e_v2_3 ?_
    refine lv_istore_n (lv' := [(2, .int v2_3), (0, .ref (G.2.2 162)), (1, .int v1)]) hx hb dX4_gather_29 rfl hl (by decide) rfl (fun ls hl => ?_)
    refine lv_aload_n hx hb dX4_gather_30 rfl (lv_at hl 1 rfl) ?_
    refine ge_4_0 hx hb hts (inU inW_X4) hown hK hP k_162 (hts _ (List.mem_cons_of_mem _ lw_650)) dX4_gather_31 ?_
    refine ge_7_3 hx hb hts (inU inW_X7) hown hK hP k_2 (hts _ (List.mem_cons_of_mem _ lw_190)) dX4_gather_34 ?_
    refine lv_iconst (v := 0) hx hb dX4_gather_37 (by decide) ?_
    refine xl_14 hx hb hK hP k_5 l_5 (ix_in (by decide)) dX4_gather_38 ?_
    obtain ⟨v3_4, e_v3_4, h⟩ := nm_s h
    refine x_top e_v3_4 ?_
    refine lv_istore_n (lv' := [(3, .int v3_4), (2, .int v2_3), (0, .ref (G.2.2 162)), (1, .int v1)]) hx hb dX4_gather_39 rfl hl (by decide) rfl (fun ls hl => ?_)
    refine lv_iconst (v := 1) hx hb dX4_gather_40 (by decide) ?_
    refine lv_istore (lv' := [(4, .int 1), (3, .int v3_4), (2, .int v2_3), (0, .ref (G.2.2 162)), (1, .int v1)]) hx hb dX4_gather_41 hl (by decide) rfl (fun ls hl => ?_)
    exact pf_X4_gather_43 C   fu v1 v2_3 v3_4 1 z1  _ _ _ hP hS (lv_sub hl [3, 4, 2, 1, 0] rfl) h
  · rw [if_pos c2] at h
    refine lv_aload_n hx hb dX4_gather_15 rfl (lv_at hl 0 rfl) ?_
    refine ge_4_10 hx hb hts (inU inW_X4) hown hK hP k_162 (hts _ (List.mem_cons_of_mem _ lw_662)) dX4_gather_16 ?_
    exact x_iret hx hb hr hlocks hK hP hS h dX4_gather_19
def fn_X4_sameInAll_34 (p1 : Nat) (z : St) : Option (Int32 × St) := (if (z.1 162 10) ≤ 0 then some ((-1), z) else (if (Int32.ofNat (ln p1)) ≤ 0 then some ((-1), z) else gd (ix 0 (ln p1)) (some ((z.1 p1 (Int32.toNatClampNeg 0)), z))))
set_option maxHeartbeats 4000000 in
set_option maxRecDepth 100000 in
theorem pf_X4_sameInAll_34 {p : Program} {l : Launch} {e : Env} {s : State} {m : MethodId} {args : Array Value} {below : List Frame} {meth : Method} {c : Code} {G : wG} (C : CX p s m args meth c cX4_sameInAll 3 (wsU yX4_sameInAll cX4_sameInAll 3 (some .int)) RX4 (some .int) G) {Rz : Int32 × St} (p1 : Nat) (z : St) (hk1 : kd p1 = 14) {H : Heap} {locs : List Loc} {ls : Array Slot} (hP : WP G z H) (hS : va_S (AW G) s.heap H locs) (hl : lv_has ls 3 [(0, .ref (G.2.2 162)), (1, .ref (G.2.2 p1))]) (h : fn_X4_sameInAll_34   p1 z = some Rz) : W p l e (rmd 1) s m args below meth c H locs 0 0 (QI below args s G Rz) (F0 m 34 ls []) := by
  obtain ⟨hx, hb, hml, hown, hts, hr, hlocks, hK, hG⟩ := id C
  unfold fn_X4_sameInAll_34 at h
  refine lv_aload_n hx hb dX4_sameInAll_34 rfl (lv_at hl 0 rfl) ?_
  refine ge_4_10 hx hb hts (inU inW_X4) hown hK hP k_162 (hts _ (List.mem_cons_of_mem _ lw_662)) dX4_sameInAll_35 ?_
  refine lv_if_le (tgt := 52) hx hb dX4_sameInAll_38 (by decide) (fun c1 => ?_) (fun c1 => ?_)
  · rw [if_pos c1] at h
    refine lv_iconst (v := (-1)) hx hb dX4_sameInAll_52 (by decide) ?_
    exact x_iret hx hb hr hlocks hK hP hS h dX4_sameInAll_53
  · rw [if_neg c1] at h
    refine lv_aload_n hx hb dX4_sameInAll_41 rfl (lv_at hl 1 rfl) ?_
    refine xn_14 hx hb hK hP hk1 rfl rfl dX4_sameInAll_42 ?_
    refine lv_if_le (tgt := 52) hx hb dX4_sameInAll_43 (by decide) (fun c2 => ?_) (fun c2 => ?_)
    · rw [if_pos c2] at h
      refine lv_iconst (v := (-1)) hx hb dX4_sameInAll_52 (by decide) ?_
      exact x_iret hx hb hr hlocks hK hP hS h dX4_sameInAll_53
    · rw [if_neg c2] at h
      refine lv_aload_n hx hb dX4_sameInAll_46 rfl (lv_at hl 1 rfl) ?_
      refine lv_iconst (v := 0) hx hb dX4_sameInAll_47 (by decide) ?_
      obtain ⟨g3, h⟩ := gd_s h
      refine xl_14 hx hb hK hP hk1 rfl (ix_in g3) dX4_sameInAll_48 ?_
      refine lv_goto (tgt := 53) hx hb dX4_sameInAll_49 (by decide) ?_
      exact x_iret hx hb hr hlocks hK hP hS h dX4_sameInAll_53
def fn_X4_sameInAll_2 : Nat → Nat → Int32 → St → Option (Int32 × St)
  | 0, _, _, _ => none
  | n + 1, p1, v2, z => (if (z.1 162 10) ≤ v2 then fn_X4_sameInAll_34   p1 z else (if (Int32.ofNat (ln p1)) ≤ v2 then fn_X4_sameInAll_34   p1 z else gd (ix v2 (ln p1)) (gd (ix 0 (ln p1)) ((if (z.1 p1 (Int32.toNatClampNeg v2)) = (z.1 p1 (Int32.toNatClampNeg 0)) then fn_X4_sameInAll_2   n p1 (v2 + 1) z else some ((-2), z))))))
set_option maxHeartbeats 4000000 in
set_option maxRecDepth 100000 in
theorem pf_X4_sameInAll_2 {p : Program} {l : Launch} {e : Env} {s : State} {m : MethodId} {args : Array Value} {below : List Frame} {meth : Method} {c : Code} {G : wG} (C : CX p s m args meth c cX4_sameInAll 3 (wsU yX4_sameInAll cX4_sameInAll 3 (some .int)) RX4 (some .int) G) {Rz : Int32 × St} : ∀ (n : Nat) (p1 : Nat) (v2 : Int32) (z : St) (hk1 : kd p1 = 14) (H : Heap) (locs : List Loc) (ls : Array Slot), WP G z H → va_S (AW G) s.heap H locs → lv_has ls 3 [(0, .ref (G.2.2 162)), (1, .ref (G.2.2 p1)), (2, .int v2)] → fn_X4_sameInAll_2   n p1 v2 z = some Rz → W p l e (rmd 1) s m args below meth c H locs 0 0 (QI below args s G Rz) (F0 m 2 ls []) := by
  obtain ⟨hx, hb, hml, hown, hts, hr, hlocks, hK, hG⟩ := id C
  intro n
  induction n with
  | zero => intro p1 v2 z hk1 H locs ls hP hS hl h; cases h
  | succ n ih =>
    intro p1 v2 z hk1 H locs ls hP hS hl h
    rw [fn_X4_sameInAll_2] at h
    refine lv_iload_n hx hb dX4_sameInAll_2 rfl (lv_at hl 2 rfl) ?_
    refine lv_aload_n hx hb dX4_sameInAll_3 rfl (lv_at hl 0 rfl) ?_
    refine ge_4_10 hx hb hts (inU inW_X4) hown hK hP k_162 (hts _ (List.mem_cons_of_mem _ lw_662)) dX4_sameInAll_4 ?_
    refine lv_icmp_ge (tgt := 34) hx hb dX4_sameInAll_7 (by decide) (fun c1 => ?_) (fun c1 => ?_)
    · rw [if_pos c1] at h
      exact pf_X4_sameInAll_34 C   p1 z hk1 hP hS (lv_sub hl [0, 1] rfl) h
    · rw [if_neg c1] at h
      refine lv_iload_n hx hb dX4_sameInAll_10 rfl (lv_at hl 2 rfl) ?_
      refine lv_aload_n hx hb dX4_sameInAll_11 rfl (lv_at hl 1 rfl) ?_
      refine xn_14 hx hb hK hP hk1 rfl rfl dX4_sameInAll_12 ?_
      refine lv_icmp_ge (tgt := 34) hx hb dX4_sameInAll_13 (by decide) (fun c2 => ?_) (fun c2 => ?_)
      · rw [if_pos c2] at h
        exact pf_X4_sameInAll_34 C   p1 z hk1 hP hS (lv_sub hl [0, 1] rfl) h
      · rw [if_neg c2] at h
        refine lv_aload_n hx hb dX4_sameInAll_16 rfl (lv_at hl 1 rfl) ?_
        refine lv_iload_n hx hb dX4_sameInAll_17 rfl (lv_at hl 2 rfl) ?_
        obtain ⟨g3, h⟩ := gd_s h
        refine xl_14 hx hb hK hP hk1 rfl (ix_in g3) dX4_sameInAll_18 ?_
        refine lv_aload_n hx hb dX4_sameInAll_19 rfl (lv_at hl 1 rfl) ?_
        refine lv_iconst (v := 0) hx hb dX4_sameInAll_20 (by decide) ?_
        obtain ⟨g4, h⟩ := gd_s h
        refine xl_14 hx hb hK hP hk1 rfl (ix_in g4) dX4_sameInAll_21 ?_
        refine lv_icmp_eq (tgt := 28) hx hb dX4_sameInAll_22 (by decide) (fun c5 => ?_) (fun c5 => ?_)
        · rw [if_pos c5] at h
          refine lv_iinc (v := (v2 + 1)) (lv' := [(2, .int (v2 + 1)), (0, .ref (G.2.2 162)), (1, .ref (G.2.2 p1))]) hx hb dX4_sameInAll_28 hl (k := 2) rfl rfl (by decide) rfl (fun ls hl => ?_)
          refine lv_goto (tgt := 2) hx hb dX4_sameInAll_31 (by decide) ?_
          exact ih p1 (v2 + 1) z hk1 _ _ _ hP hS (lv_sub hl [1, 2, 0] rfl) h
        · rw [if_neg c5] at h
          refine lv_bipush (v := (-2)) hx hb dX4_sameInAll_25 (by decide) ?_
          exact x_iret hx hb hr hlocks hK hP hS h dX4_sameInAll_27
def fn_X4_sameInAll (p1 : Nat) (z : St) : Option (Int32 × St) := fn_X4_sameInAll_2   fu p1 1 z
set_option maxHeartbeats 4000000 in
set_option maxRecDepth 100000 in
theorem m_X4_sameInAll {l : Launch} {G : wG} (hG : Ok G) {p1 : Nat} {z : St} {Rz : Int32 × St} (hk1 : kd p1 = 14) (h : fn_X4_sameInAll  p1 z = some Rz) : Met l yX4_sameInAll (wsU yX4_sameInAll cX4_sameInAll 3 (some .int)) (rmd 1) (va_Pc [.ref (G.2.2 162), .ref (G.2.2 p1)] (Pre G z)) (va_Qi (fun r u => (r, u) = Rz) (Pre G) (AW G)) 0 0 (AW G) := by
  refine Met.ofW (cc := cX4_sameInAll) (maxL := 3) (ret := (some .int)) (by decide) rfl ?_
  intro p e s m args below meth c s₁ B hml hv
  obtain ⟨rfl, hP, hK⟩ := hv
  have C : CX p s m ([.ref (G.2.2 162), .ref (G.2.2 p1)] : List Value).toArray meth c cX4_sameInAll 3 (wsU yX4_sameInAll cX4_sameInAll 3 (some .int)) RX4 (some .int) G := ⟨B.exec, B.bytes, hml, findClass_of_methodNamed B.named, atoms_spec (ws := (wsU yX4_sameInAll cX4_sameInAll 3 (some .int))) B.pre, B.returns, B.notSynchronized, hK, hG⟩
  obtain ⟨hx, hb, -, hown, hts, hr, hlocks, -, -⟩ := id C
  have hS : va_S (AW G) s.heap s.heap [] := va_S.rf
  have hl := lv_entry [.ref (G.2.2 162), .ref (G.2.2 p1)] (n := 3) (Nat.le_of_ble_eq_true rfl)
  rw [lg_entry_eq]
  generalize (lg_sl [.ref (G.2.2 162), .ref (G.2.2 p1)] ++ List.replicate (3 - (lg_sl [.ref (G.2.2 162), .ref (G.2.2 p1)]).length) Slot.unset).toArray = ls at hl ⊢
  have hl : lv_has ls 3 [(0, .ref (G.2.2 162)), (1, .ref (G.2.2 p1))] := hl
  unfold fn_X4_sameInAll at h
  refine lv_iconst (v := 1) hx hb dX4_sameInAll_0 (by decide) ?_
  refine lv_istore_n (lv' := [(2, .int 1), (0, .ref (G.2.2 162)), (1, .ref (G.2.2 p1))]) hx hb dX4_sameInAll_1 rfl hl (by decide) rfl (fun ls hl => ?_)
  exact pf_X4_sameInAll_2 C   fu p1 1 z hk1 _ _ _ hP hS (lv_sub hl [1, 2, 0] rfl) h
def fn_X4_findQuestion_43 (k7 : Int32 → St → Option (St)) (k17 : Int32 → Int32 → Int32 → St → Option (St)) (v1 : Int32) (v2 : Int32) (v3 : Int32) (z : St) : Option (St) := k17 v1 v2 (v3 + 1) z
set_option maxHeartbeats 4000000 in
set_option maxRecDepth 100000 in
theorem pf_X4_findQuestion_43 {p : Program} {l : Launch} {e : Env} {s : State} {m : MethodId} {args : Array Value} {below : List Frame} {meth : Method} {c : Code} {G : wG} (C : CX p s m args meth c cX4_findQuestion 4 (wsU yX4_findQuestion cX4_findQuestion 4 none) RX4 none G) {Rz : St} {k7 : Int32 → St → Option (St)} {k17 : Int32 → Int32 → Int32 → St → Option (St)} (hk_7 : ∀ (v1 : Int32) (z : St)  (H : Heap) (locs : List Loc) (ls : Array Slot), WP G z H → va_S (AW G) s.heap H locs → lv_has ls 4 [(0, .ref (G.2.2 162)), (1, .int v1)] → k7 v1 z = some Rz → W p l e (rmd 1) s m args below meth c H locs 0 0 (QV below args s G Rz) (F0 m 7 ls [])) (hk_17 : ∀ (v1 : Int32) (v2 : Int32) (v3 : Int32) (z : St)  (H : Heap) (locs : List Loc) (ls : Array Slot), WP G z H → va_S (AW G) s.heap H locs → lv_has ls 4 [(0, .ref (G.2.2 162)), (1, .int v1), (2, .int v2), (3, .int v3)] → k17 v1 v2 v3 z = some Rz → W p l e (rmd 1) s m args below meth c H locs 0 0 (QV below args s G Rz) (F0 m 17 ls [])) (v1 : Int32) (v2 : Int32) (v3 : Int32) (z : St)  {H : Heap} {locs : List Loc} {ls : Array Slot} (hP : WP G z H) (hS : va_S (AW G) s.heap H locs) (hl : lv_has ls 4 [(0, .ref (G.2.2 162)), (1, .int v1), (2, .int v2), (3, .int v3)]) (h : fn_X4_findQuestion_43  k7 k17 v1 v2 v3 z = some Rz) : W p l e (rmd 1) s m args below meth c H locs 0 0 (QV below args s G Rz) (F0 m 43 ls []) := by
  obtain ⟨hx, hb, hml, hown, hts, hr, hlocks, hK, hG⟩ := id C
  unfold fn_X4_findQuestion_43 at h
  refine lv_iinc (v := (v3 + 1)) (lv' := [(3, .int (v3 + 1)), (0, .ref (G.2.2 162)), (1, .int v1), (2, .int v2)]) hx hb dX4_findQuestion_43 hl (k := 3) rfl rfl (by decide) rfl (fun ls hl => ?_)
  refine lv_goto (tgt := 17) hx hb dX4_findQuestion_46 (by decide) ?_
  exact hk_17 v1 v2 (v3 + 1) z  _ _ _ hP hS (lv_sub hl [1, 2, 3, 0] rfl) h
def fn_X4_findQuestion_86 (k7 : Int32 → St → Option (St)) (v1 : Int32) (z : St) : Option (St) := k7 (v1 + 1) z
set_option maxHeartbeats 4000000 in
set_option maxRecDepth 100000 in
theorem pf_X4_findQuestion_86 {p : Program} {l : Launch} {e : Env} {s : State} {m : MethodId} {args : Array Value} {below : List Frame} {meth : Method} {c : Code} {G : wG} (C : CX p s m args meth c cX4_findQuestion 4 (wsU yX4_findQuestion cX4_findQuestion 4 none) RX4 none G) {Rz : St} {k7 : Int32 → St → Option (St)} (hk_7 : ∀ (v1 : Int32) (z : St)  (H : Heap) (locs : List Loc) (ls : Array Slot), WP G z H → va_S (AW G) s.heap H locs → lv_has ls 4 [(0, .ref (G.2.2 162)), (1, .int v1)] → k7 v1 z = some Rz → W p l e (rmd 1) s m args below meth c H locs 0 0 (QV below args s G Rz) (F0 m 7 ls [])) (v1 : Int32) (z : St)  {H : Heap} {locs : List Loc} {ls : Array Slot} (hP : WP G z H) (hS : va_S (AW G) s.heap H locs) (hl : lv_has ls 4 [(0, .ref (G.2.2 162)), (1, .int v1)]) (h : fn_X4_findQuestion_86  k7 v1 z = some Rz) : W p l e (rmd 1) s m args below meth c H locs 0 0 (QV below args s G Rz) (F0 m 86 ls []) := by
  obtain ⟨hx, hb, hml, hown, hts, hr, hlocks, hK, hG⟩ := id C
  unfold fn_X4_findQuestion_86 at h
  refine lv_iinc (v := (v1 + 1)) (lv' := [(1, .int (v1 + 1)), (0, .ref (G.2.2 162))]) hx hb dX4_findQuestion_86 hl (k := 1) rfl rfl (by decide) rfl (fun ls hl => ?_)
  refine lv_goto (tgt := 7) hx hb dX4_findQuestion_89 (by decide) ?_
  exact hk_7 (v1 + 1) z  _ _ _ hP hS (lv_sub hl [1, 0] rfl) h
def fn_X4_findQuestion_76 (k7 : Int32 → St → Option (St)) (v1 : Int32) (v3 : Int32) (z : St) : Option (St) := nm (sI z 162 13 v1) (fun z1 => nm (sI z1 162 14 v3) (fun z2 => fn_X4_findQuestion_86  k7 v1 z2))
set_option maxHeartbeats 4000000 in
set_option maxRecDepth 100000 in
theorem pf_X4_findQuestion_76 {p : Program} {l : Launch} {e : Env} {s : State} {m : MethodId} {args : Array Value} {below : List Frame} {meth : Method} {c : Code} {G : wG} (C : CX p s m args meth c cX4_findQuestion 4 (wsU yX4_findQuestion cX4_findQuestion 4 none) RX4 none G) {Rz : St} {k7 : Int32 → St → Option (St)} (hk_7 : ∀ (v1 : Int32) (z : St)  (H : Heap) (locs : List Loc) (ls : Array Slot), WP G z H → va_S (AW G) s.heap H locs → lv_has ls 4 [(0, .ref (G.2.2 162)), (1, .int v1)] → k7 v1 z = some Rz → W p l e (rmd 1) s m args below meth c H locs 0 0 (QV below args s G Rz) (F0 m 7 ls [])) (v1 : Int32) (v3 : Int32) (z : St)  {H : Heap} {locs : List Loc} {ls : Array Slot} (hP : WP G z H) (hS : va_S (AW G) s.heap H locs) (hl : lv_has ls 4 [(0, .ref (G.2.2 162)), (1, .int v1), (3, .int v3)]) (h : fn_X4_findQuestion_76  k7 v1 v3 z = some Rz) : W p l e (rmd 1) s m args below meth c H locs 0 0 (QV below args s G Rz) (F0 m 76 ls []) := by
  obtain ⟨hx, hb, hml, hown, hts, hr, hlocks, hK, hG⟩ := id C
  unfold fn_X4_findQuestion_76 at h
  refine lv_aload_n hx hb dX4_findQuestion_76 rfl (lv_at hl 0 rfl) ?_
  refine lv_iload_n hx hb dX4_findQuestion_77 rfl (lv_at hl 1 rfl) ?_
  obtain ⟨z1, e_z1, h⟩ := nm_s h
  refine pu_4_13 hx hb hts (inU inW_X4) hown hK hG hP hS k_162 (hts _ (List.mem_cons_of_mem _ lw_667)) dX4_findQuestion_78 (fun H locs hP hS => ?_)
  rw [← e_z1] at hP
  refine lv_aload_n hx hb dX4_findQuestion_81 rfl (lv_at hl 0 rfl) ?_
  refine lv_iload_n hx hb dX4_findQuestion_82 rfl (lv_at hl 2 rfl) ?_
  obtain ⟨z2, e_z2, h⟩ := nm_s h
  refine pu_4_14 hx hb hts (inU inW_X4) hown hK hG hP hS k_162 (hts _ (List.mem_cons_of_mem _ lw_669)) dX4_findQuestion_83 (fun H locs hP hS => ?_)
  rw [← e_z2] at hP
  exact pf_X4_findQuestion_86 C  hk_7 v1 z2  hP hS (lv_sub hl [0, 1] rfl) h
def fn_X4_findQuestion_17 (k7 : Int32 → St → Option (St)) : Nat → Int32 → Int32 → Int32 → St → Option (St)
  | 0, _, _, _, _ => none
  | n + 1, v1, v2, v3, z => (if (z.1 162 10) ≤ v3 then nm (if v2 < ((z.1 162 10) - v2) then ((z.1 162 10) - v2) else v2) (fun v3_2 => (if (z.1 162 13) = (-1) then fn_X4_findQuestion_76  k7 v1 v3_2 z else (if (z.1 162 14) ≤ v3_2 then fn_X4_findQuestion_86  k7 v1 z else fn_X4_findQuestion_76  k7 v1 v3_2 z))) else gd (ix v3 16) ((if (lg_cmp (((z.2 170 (Int32.toNatClampNeg v3)) >>> (Int32.toInt64 v1 &&& 63)) &&& 1) 1) = 0 then fn_X4_findQuestion_43  k7 (fn_X4_findQuestion_17  k7 n) v1 (v2 + 1) v3 z else fn_X4_findQuestion_43  k7 (fn_X4_findQuestion_17  k7 n) v1 v2 v3 z)))
set_option maxHeartbeats 4000000 in
set_option maxRecDepth 100000 in
theorem pf_X4_findQuestion_17 {p : Program} {l : Launch} {e : Env} {s : State} {m : MethodId} {args : Array Value} {below : List Frame} {meth : Method} {c : Code} {G : wG} (C : CX p s m args meth c cX4_findQuestion 4 (wsU yX4_findQuestion cX4_findQuestion 4 none) RX4 none G) {Rz : St} {k7 : Int32 → St → Option (St)} (hk_7 : ∀ (v1 : Int32) (z : St)  (H : Heap) (locs : List Loc) (ls : Array Slot), WP G z H → va_S (AW G) s.heap H locs → lv_has ls 4 [(0, .ref (G.2.2 162)), (1, .int v1)] → k7 v1 z = some Rz → W p l e (rmd 1) s m args below meth c H locs 0 0 (QV below args s G Rz) (F0 m 7 ls [])) : ∀ (n : Nat) (v1 : Int32) (v2 : Int32) (v3 : Int32) (z : St)  (H : Heap) (locs : List Loc) (ls : Array Slot), WP G z H → va_S (AW G) s.heap H locs → lv_has ls 4 [(0, .ref (G.2.2 162)), (1, .int v1), (2, .int v2), (3, .int v3)] → fn_X4_findQuestion_17  k7 n v1 v2 v3 z = some Rz → W p l e (rmd 1) s m args below meth c H locs 0 0 (QV below args s G Rz) (F0 m 17 ls []) := by
  obtain ⟨hx, hb, hml, hown, hts, hr, hlocks, hK, hG⟩ := id C
  intro n
  induction n with
  | zero => intro v1 v2 v3 z  H locs ls hP hS hl h; cases h
  | succ n ih =>
    intro v1 v2 v3 z  H locs ls hP hS hl h
    rw [fn_X4_findQuestion_17] at h
    refine lv_iload_n hx hb dX4_findQuestion_17 rfl (lv_at hl 3 rfl) ?_
    refine lv_aload_n hx hb dX4_findQuestion_18 rfl (lv_at hl 0 rfl) ?_
    refine ge_4_10 hx hb hts (inU inW_X4) hown hK hP k_162 (hts _ (List.mem_cons_of_mem _ lw_662)) dX4_findQuestion_19 ?_
    refine lv_icmp_ge (tgt := 49) hx hb dX4_findQuestion_22 (by decide) (fun c1 => ?_) (fun c1 => ?_)
    · rw [if_pos c1] at h
      refine lv_iload_n hx hb dX4_findQuestion_49 rfl (lv_at hl 2 rfl) ?_
      refine lv_aload_n hx hb dX4_findQuestion_50 rfl (lv_at hl 0 rfl) ?_
      refine ge_4_10 hx hb hts (inU inW_X4) hown hK hP k_162 (hts _ (List.mem_cons_of_mem _ lw_662)) dX4_findQuestion_51 ?_
      refine lv_iload_n hx hb dX4_findQuestion_54 rfl (lv_at hl 2 rfl) ?_
      refine lv_isub hx hb dX4_findQuestion_55 ?_
      refine va_mmax hx hb (by rw [hml]; exact hl.1.symm) hown (hts _ (List.mem_cons_of_mem _ lw_1407)) (hts _ (List.mem_cons_of_mem _ lw_1028)) (hts _ (List.mem_cons_of_mem _ lw_126)) (hts _ (List.mem_cons_of_mem _ lw_1029)) (rmd_f (by decide)) (rmd_l (by decide) (Nat.le_of_ble_eq_true rfl)) (Nat.le_refl _) (Nat.le_refl _) dX4_findQuestion_56 ?_
      obtain ⟨v3_2, e_v3_2, h⟩ := nm_s h
      refine x_top e_v3_2 ?_
      refine lv_istore_n (lv' := [(3, .int v3_2), (0, .ref (G.2.2 162)), (1, .int v1), (2, .int v2)]) hx hb dX4_findQuestion_59 rfl hl (by decide) rfl (fun ls hl => ?_)
      refine lv_aload_n hx hb dX4_findQuestion_60 rfl (lv_at hl 1 rfl) ?_
      refine ge_4_13 hx hb hts (inU inW_X4) hown hK hP k_162 (hts _ (List.mem_cons_of_mem _ lw_667)) dX4_findQuestion_61 ?_
      refine lv_iconst (v := (-1)) hx hb dX4_findQuestion_64 (by decide) ?_
      refine lv_icmp_eq (tgt := 76) hx hb dX4_findQuestion_65 (by decide) (fun c3 => ?_) (fun c3 => ?_)
      · rw [if_pos c3] at h
        exact pf_X4_findQuestion_76 C  hk_7 v1 v3_2 z  hP hS (lv_sub hl [1, 2, 0] rfl) h
      · rw [if_neg c3] at h
        refine lv_iload_n hx hb dX4_findQuestion_68 rfl (lv_at hl 0 rfl) ?_
        refine lv_aload_n hx hb dX4_findQuestion_69 rfl (lv_at hl 1 rfl) ?_
        refine ge_4_14 hx hb hts (inU inW_X4) hown hK hP k_162 (hts _ (List.mem_cons_of_mem _ lw_669)) dX4_findQuestion_70 ?_
        refine lv_icmp_ge (tgt := 86) hx hb dX4_findQuestion_73 (by decide) (fun c4 => ?_) (fun c4 => ?_)
        · rw [if_pos c4] at h
          exact pf_X4_findQuestion_86 C  hk_7 v1 z  hP hS (lv_sub hl [1, 2] rfl) h
        · rw [if_neg c4] at h
          exact pf_X4_findQuestion_76 C  hk_7 v1 v3_2 z  hP hS (lv_sub hl [1, 2, 0] rfl) h
    · rw [if_neg c1] at h
      refine lv_aload_n hx hb dX4_findQuestion_25 rfl (lv_at hl 0 rfl) ?_
      refine ge_4_9 hx hb hts (inU inW_X4) hown hK hP k_162 (hts _ (List.mem_cons_of_mem _ lw_661)) dX4_findQuestion_26 ?_
      refine lv_iload_n hx hb dX4_findQuestion_29 rfl (lv_at hl 3 rfl) ?_
      obtain ⟨g5, h⟩ := gd_s h
      refine xl_15 hx hb hK hP k_170 l_170 (ix_in g5) dX4_findQuestion_30 ?_
      refine lv_iload_n hx hb dX4_findQuestion_31 rfl (lv_at hl 1 rfl) ?_
      refine lv_lshr hx hb dX4_findQuestion_32 rfl ?_
      refine lv_lconst (v := 1) hx hb dX4_findQuestion_33 (by decide) ?_
      refine lv_land hx hb dX4_findQuestion_34 ?_
      refine lv_lconst (v := 1) hx hb dX4_findQuestion_35 (by decide) ?_
      refine W.lcmp hx hb dX4_findQuestion_36 ?_
      refine lv_if_ne (tgt := 43) hx hb dX4_findQuestion_37 (by decide) (fun c6 => ?_) (fun c6 => ?_)
      · rw [if_neg c6] at h
        exact pf_X4_findQuestion_43 C  hk_7 ih v1 v2 v3 z  hP hS (lv_sub hl [0, 1, 2, 3] rfl) h
      · rw [if_pos c6] at h
        refine lv_iinc (v := (v2 + 1)) (lv' := [(2, .int (v2 + 1)), (0, .ref (G.2.2 162)), (1, .int v1), (3, .int v3)]) hx hb dX4_findQuestion_40 hl (k := 2) rfl rfl (by decide) rfl (fun ls hl => ?_)
        exact pf_X4_findQuestion_43 C  hk_7 ih v1 (v2 + 1) v3 z  hP hS (lv_sub hl [1, 2, 0, 3] rfl) h
def fn_X4_findQuestion_7 : Nat → Int32 → St → Option (St)
  | 0, _, _ => none
  | n + 1, v1, z => (if 32 < v1 then some z else fn_X4_findQuestion_17  (fn_X4_findQuestion_7   n) fu v1 0 0 z)
set_option maxHeartbeats 4000000 in
set_option maxRecDepth 100000 in
theorem pf_X4_findQuestion_7 {p : Program} {l : Launch} {e : Env} {s : State} {m : MethodId} {args : Array Value} {below : List Frame} {meth : Method} {c : Code} {G : wG} (C : CX p s m args meth c cX4_findQuestion 4 (wsU yX4_findQuestion cX4_findQuestion 4 none) RX4 none G) {Rz : St} : ∀ (n : Nat) (v1 : Int32) (z : St)  (H : Heap) (locs : List Loc) (ls : Array Slot), WP G z H → va_S (AW G) s.heap H locs → lv_has ls 4 [(0, .ref (G.2.2 162)), (1, .int v1)] → fn_X4_findQuestion_7   n v1 z = some Rz → W p l e (rmd 1) s m args below meth c H locs 0 0 (QV below args s G Rz) (F0 m 7 ls []) := by
  obtain ⟨hx, hb, hml, hown, hts, hr, hlocks, hK, hG⟩ := id C
  intro n
  induction n with
  | zero => intro v1 z  H locs ls hP hS hl h; cases h
  | succ n ih =>
    intro v1 z  H locs ls hP hS hl h
    rw [fn_X4_findQuestion_7] at h
    refine lv_iload_n hx hb dX4_findQuestion_7 rfl (lv_at hl 1 rfl) ?_
    refine lv_bipush (v := 32) hx hb dX4_findQuestion_8 (by decide) ?_
    refine lv_icmp_gt (tgt := 92) hx hb dX4_findQuestion_10 (by decide) (fun c1 => ?_) (fun c1 => ?_)
    · rw [if_pos c1] at h
      exact x_vret hx hb hr hlocks hK hP hS h dX4_findQuestion_92
    · rw [if_neg c1] at h
      refine lv_iconst (v := 0) hx hb dX4_findQuestion_13 (by decide) ?_
      refine lv_istore_n (lv' := [(2, .int 0), (0, .ref (G.2.2 162)), (1, .int v1)]) hx hb dX4_findQuestion_14 rfl hl (by decide) rfl (fun ls hl => ?_)
      refine lv_iconst (v := 0) hx hb dX4_findQuestion_15 (by decide) ?_
      refine lv_istore_n (lv' := [(3, .int 0), (2, .int 0), (0, .ref (G.2.2 162)), (1, .int v1)]) hx hb dX4_findQuestion_16 rfl hl (by decide) rfl (fun ls hl => ?_)
      exact pf_X4_findQuestion_17 C  ih fu v1 0 0 z  _ _ _ hP hS (lv_sub hl [2, 3, 1, 0] rfl) h
def fn_X4_findQuestion  (z : St) : Option (St) := nm (sI z 162 13 (-1)) (fun z1 => fn_X4_findQuestion_7   fu 0 z1)
set_option maxHeartbeats 4000000 in
set_option maxRecDepth 100000 in
theorem m_X4_findQuestion {l : Launch} {G : wG} (hG : Ok G)  {z : St} {Rz : St}  (h : fn_X4_findQuestion   z = some Rz) : Met l yX4_findQuestion (wsU yX4_findQuestion cX4_findQuestion 4 none) (rmd 1) (va_Pc [.ref (G.2.2 162)] (Pre G z)) (va_Qv (fun u => u = Rz) (Pre G) (AW G)) 0 0 (AW G) := by
  refine Met.ofW (cc := cX4_findQuestion) (maxL := 4) (ret := none) (by decide) rfl ?_
  intro p e s m args below meth c s₁ B hml hv
  obtain ⟨rfl, hP, hK⟩ := hv
  have C : CX p s m ([.ref (G.2.2 162)] : List Value).toArray meth c cX4_findQuestion 4 (wsU yX4_findQuestion cX4_findQuestion 4 none) RX4 none G := ⟨B.exec, B.bytes, hml, findClass_of_methodNamed B.named, atoms_spec (ws := (wsU yX4_findQuestion cX4_findQuestion 4 none)) B.pre, B.returns, B.notSynchronized, hK, hG⟩
  obtain ⟨hx, hb, -, hown, hts, hr, hlocks, -, -⟩ := id C
  have hS : va_S (AW G) s.heap s.heap [] := va_S.rf
  have hl := lv_entry [.ref (G.2.2 162)] (n := 4) (Nat.le_of_ble_eq_true rfl)
  rw [lg_entry_eq]
  generalize (lg_sl [.ref (G.2.2 162)] ++ List.replicate (4 - (lg_sl [.ref (G.2.2 162)]).length) Slot.unset).toArray = ls at hl ⊢
  have hl : lv_has ls 4 [(0, .ref (G.2.2 162))] := hl
  unfold fn_X4_findQuestion at h
  refine lv_aload_n hx hb dX4_findQuestion_0 rfl (lv_at hl 0 rfl) ?_
  refine lv_iconst (v := (-1)) hx hb dX4_findQuestion_1 (by decide) ?_
  obtain ⟨z1, e_z1, h⟩ := nm_s h
  refine pu_4_13 hx hb hts (inU inW_X4) hown hK hG hP hS k_162 (hts _ (List.mem_cons_of_mem _ lw_667)) dX4_findQuestion_2 (fun H locs hP hS => ?_)
  rw [← e_z1] at hP
  refine lv_iconst (v := 0) hx hb dX4_findQuestion_5 (by decide) ?_
  refine lv_istore_n (lv' := [(1, .int 0), (0, .ref (G.2.2 162))]) hx hb dX4_findQuestion_6 rfl hl (by decide) rfl (fun ls hl => ?_)
  exact pf_X4_findQuestion_7 C   fu 0 z1  _ _ _ hP hS (lv_sub hl [1, 0] rfl) h
