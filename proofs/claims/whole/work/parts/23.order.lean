def fn_X5_findOrder (p1 : Nat) (z : St) : Option (Int32 × St) := bv (fn_X5_prepare   z) (fun z2 => nm (sI z2 156 10 0) (fun z3 => nm (sI z3 156 11 0) (fun z4 => (if (z4.1 156 8) ≤ 0 then some ((z4.1 156 8), z4) else bv ((recT 9) p1 0 (z4.1 156 7) (z4.1 156 9) 2147483647 z4) (fun z7 => some ((z7.1 156 8), z7))))))
set_option maxHeartbeats 4000000 in
set_option maxRecDepth 100000 in
theorem m_X5_findOrder {l : Launch} {G : wG} (hG : Ok G) {p1 : Nat} {z : St} {Rz : Int32 × St} (hk1 : kd p1 = 14) (h : fn_X5_findOrder  p1 z = some Rz) : Met l yX5_findOrder (wsU yX5_findOrder cX5_findOrder 2 (some .int)) (rmd 29) (va_Pc [.ref (G.2.2 156), .ref (G.2.2 p1)] (Pre G z)) (va_Qi (fun r u => (r, u) = Rz) (Pre G) (AW G)) 0 0 (AW G) := by
  refine Met.ofW (cc := cX5_findOrder) (maxL := 2) (ret := (some .int)) (by decide) rfl ?_
  intro p e s m args below meth c s₁ B hml hv
  obtain ⟨rfl, hP, hK⟩ := hv
  have C : CX p s m ([.ref (G.2.2 156), .ref (G.2.2 p1)] : List Value).toArray meth c cX5_findOrder 2 (wsU yX5_findOrder cX5_findOrder 2 (some .int)) RX5 (some .int) G := ⟨B.exec, B.bytes, hml, findClass_of_methodNamed B.named, atoms_spec (ws := (wsU yX5_findOrder cX5_findOrder 2 (some .int))) B.pre, B.returns, B.notSynchronized, hK, hG⟩
  obtain ⟨hx, hb, -, hown, hts, hr, hlocks, -, -⟩ := id C
  have hS : va_S (AW G) s.heap s.heap [] := va_S.rf
  have hl := lv_entry [.ref (G.2.2 156), .ref (G.2.2 p1)] (n := 2) (Nat.le_of_ble_eq_true rfl)
  rw [lg_entry_eq]
  generalize (lg_sl [.ref (G.2.2 156), .ref (G.2.2 p1)] ++ List.replicate (2 - (lg_sl [.ref (G.2.2 156), .ref (G.2.2 p1)]).length) Slot.unset).toArray = ls at hl ⊢
  have hl : lv_has ls 2 [(0, .ref (G.2.2 156)), (1, .ref (G.2.2 p1))] := hl
  unfold fn_X5_findOrder at h
  refine lv_aload_n hx hb dX5_findOrder_0 rfl (lv_at hl 0 rfl) ?_
  obtain ⟨z2, h1, h⟩ := bv_s h
  refine x_Vv (Rz := z2) (As := []) (rest := []) ⟨hx, hb, hml, hown, hts⟩ hK hP hS (kd_lt k_156 (by decide)) (cell_5 k_156) rfl (m_X5_prepare hG   h1) (cwV 0 hts (gV lw_1253 lw_1255 lw_38 lw_122 lw_1256) rfl rfl rfl (by decide +kernel) (rmd_ok (by decide) (by decide))) rfl hl.1 rfl (Nat.le_of_ble_eq_true rfl) dX5_findOrder_1 ⟨Nat.le_refl _, Nat.le_refl _⟩ (fun H locs hP hS => ?_)
  refine lv_aload_n hx hb dX5_findOrder_4 rfl (lv_at hl 0 rfl) ?_
  refine lv_iconst (v := 0) hx hb dX5_findOrder_5 (by decide) ?_
  obtain ⟨z3, e_z3, h⟩ := nm_s h
  refine pu_5_10 hx hb hts (inU inW_X5) hown hK hG hP hS k_156 (hts _ (List.mem_cons_of_mem _ lw_577)) rfl dX5_findOrder_6 (fun H locs hP hS => ?_)
  rw [← e_z3] at hP
  refine lv_aload_n hx hb dX5_findOrder_9 rfl (lv_at hl 0 rfl) ?_
  refine lv_iconst (v := 0) hx hb dX5_findOrder_10 (by decide) ?_
  obtain ⟨z4, e_z4, h⟩ := nm_s h
  refine pu_5_11 hx hb hts (inU inW_X5) hown hK hG hP hS k_156 (hts _ (List.mem_cons_of_mem _ lw_578)) dX5_findOrder_11 (fun H locs hP hS => ?_)
  rw [← e_z4] at hP
  refine lv_aload_n hx hb dX5_findOrder_14 rfl (lv_at hl 0 rfl) ?_
  refine ge_5_8 hx hb hts (inU inW_X5) hown hK hP k_156 (hts _ (List.mem_cons_of_mem _ lw_575)) dX5_findOrder_15 ?_
  refine lv_if_le (tgt := 37) hx hb dX5_findOrder_18 (by decide) (fun c5 => ?_) (fun c5 => ?_)
  · rw [if_pos c5] at h
    refine lv_aload_n hx hb dX5_findOrder_37 rfl (lv_at hl 0 rfl) ?_
    refine ge_5_8 hx hb hts (inU inW_X5) hown hK hP k_156 (hts _ (List.mem_cons_of_mem _ lw_575)) dX5_findOrder_38 ?_
    exact x_iret hx hb hr hlocks hK hP hS h dX5_findOrder_41
  · rw [if_neg c5] at h
    refine lv_aload_n hx hb dX5_findOrder_21 rfl (lv_at hl 0 rfl) ?_
    refine lv_aload_n hx hb dX5_findOrder_22 rfl (lv_at hl 1 rfl) ?_
    refine lv_iconst (v := 0) hx hb dX5_findOrder_23 (by decide) ?_
    refine lv_aload_n hx hb dX5_findOrder_24 rfl (lv_at hl 0 rfl) ?_
    refine ge_5_7 hx hb hts (inU inW_X5) hown hK hP k_156 (hts _ (List.mem_cons_of_mem _ lw_574)) dX5_findOrder_25 ?_
    refine lv_aload_n hx hb dX5_findOrder_28 rfl (lv_at hl 0 rfl) ?_
    refine ge_5_9 hx hb hts (inU inW_X5) hown hK hP k_156 (hts _ (List.mem_cons_of_mem _ lw_576)) dX5_findOrder_29 ?_
    refine lv_ldc (v := 2147483647) hx hb hown (hts _ (List.mem_cons_of_mem _ lw_1275)) dX5_findOrder_32 ?_
    obtain ⟨z7, h6, h⟩ := bv_s h
    refine x_Vv (Rz := z7) (As := [.ref (G.2.2 p1), .int 0, .int (z4.1 156 7), .int (z4.1 156 9), .int 2147483647]) (rest := []) ⟨hx, hb, hml, hown, hts⟩ hK hP hS (kd_lt k_156 (by decide)) (cell_5 k_156) rfl (m_recT hG hk1 h6) (cwV 5 hts (gV lw_1276 lw_1278 lw_40 lw_122 lw_1279) rfl rfl rfl (by decide +kernel) (rmd_ok (by decide) (by decide))) rfl hl.1 rfl (Nat.le_of_ble_eq_true rfl) dX5_findOrder_34 ⟨Nat.le_refl _, Nat.le_refl _⟩ (fun H locs hP hS => ?_)
    refine lv_aload_n hx hb dX5_findOrder_37 rfl (lv_at hl 0 rfl) ?_
    refine ge_5_8 hx hb hts (inU inW_X5) hown hK hP k_156 (hts _ (List.mem_cons_of_mem _ lw_575)) dX5_findOrder_38 ?_
    exact x_iret hx hb hr hlocks hK hP hS h dX5_findOrder_41
