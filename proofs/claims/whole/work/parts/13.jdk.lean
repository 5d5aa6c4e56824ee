def fn_J6_bitCount_0f7a4 (v0 : Int32) (z : St) : Option (Int32 × St) := nm (v0 - (((Int32.toUInt32 v0 >>> (Int32.toUInt32 1 &&& Int32.toUInt32 31)).toInt32) &&& 1431655765)) (fun v0_1 => nm ((v0_1 &&& 858993459) + (((Int32.toUInt32 v0_1 >>> (Int32.toUInt32 2 &&& Int32.toUInt32 31)).toInt32) &&& 858993459)) (fun v0_2 => nm ((v0_2 + ((Int32.toUInt32 v0_2 >>> (Int32.toUInt32 4 &&& Int32.toUInt32 31)).toInt32)) &&& 252645135) (fun v0_3 => nm (v0_3 + ((Int32.toUInt32 v0_3 >>> (Int32.toUInt32 8 &&& Int32.toUInt32 31)).toInt32)) (fun v0_4 => nm (v0_4 + ((Int32.toUInt32 v0_4 >>> (Int32.toUInt32 16 &&& Int32.toUInt32 31)).toInt32)) (fun v0_5 => some ((v0_5 &&& 63), z))))))
set_option maxHeartbeats 4000000 in
set_option maxRecDepth 100000 in
theorem m_J6_bitCount_0f7a4 {l : Launch} {G : wG} (hG : Ok G) {v0 : Int32} {z : St} {Rz : Int32 × St}  (h : fn_J6_bitCount_0f7a4  v0 z = some Rz) : Met l yJ6_bitCount_0f7a4 (wsU yJ6_bitCount_0f7a4 cJ6_bitCount_0f7a4 1 (some .int)) (rmd 1) (va_Pc [.int v0] (Pre G z)) (va_Qi (fun r u => (r, u) = Rz) (Pre G) (AW G)) 0 0 (AW G) := by
  refine Met.ofW (cc := cJ6_bitCount_0f7a4) (maxL := 1) (ret := (some .int)) (by decide) rfl ?_
  intro p e s m args below meth c s₁ B hml hv
  obtain ⟨rfl, hP, hK⟩ := hv
  have C : CX p s m ([.int v0] : List Value).toArray meth c cJ6_bitCount_0f7a4 1 (wsU yJ6_bitCount_0f7a4 cJ6_bitCount_0f7a4 1 (some .int)) RJ6 (some .int) G := ⟨B.exec, B.bytes, hml, findClass_of_methodNamed B.named, atoms_spec (ws := (wsU yJ6_bitCount_0f7a4 cJ6_bitCount_0f7a4 1 (some .int))) B.pre, B.returns, B.notSynchronized, hK, hG⟩
  obtain ⟨hx, hb, -, hown, hts, hr, hlocks, -, -⟩ := id C
  have hS : va_S (AW G) s.heap s.heap [] := va_S.rf
  have hl := lv_entry [.int v0] (n := 1) (Nat.le_of_ble_eq_true rfl)
  rw [lg_entry_eq]
  generalize (lg_sl [.int v0] ++ List.replicate (1 - (lg_sl [.int v0]).length) Slot.unset).toArray = ls at hl ⊢
  have hl : lv_has ls 1 [(0, .int v0)] := hl
  unfold fn_J6_bitCount_0f7a4 at h
  refine lv_iload_n hx hb dJ6_bitCount_0f7a4_0 rfl (lv_at hl 0 rfl) ?_
  refine lv_iload_n hx hb dJ6_bitCount_0f7a4_1 rfl (lv_at hl 0 rfl) ?_
  refine lv_iconst (v := 1) hx hb dJ6_bitCount_0f7a4_2 (by decide) ?_
  refine lv_iushr hx hb dJ6_bitCount_0f7a4_3 rfl ?_
  refine lv_ldcw (v := 1431655765) hx hb hown (hts _ (List.mem_cons_of_mem _ lw_1209)) dJ6_bitCount_0f7a4_4 ?_
  refine lv_iand hx hb dJ6_bitCount_0f7a4_7 ?_
  refine lv_isub hx hb dJ6_bitCount_0f7a4_8 ?_
  obtain ⟨v0_1, e_v0_1, h⟩ := nm_s h
  refine x_top e_v0_1 ?_
  refine lv_istore_n (lv' := [(0, .int v0_1)]) hx hb dJ6_bitCount_0f7a4_9 rfl hl (by decide) rfl (fun ls hl => ?_)
  refine lv_iload_n hx hb dJ6_bitCount_0f7a4_10 rfl (lv_at hl 0 rfl) ?_
  refine lv_ldcw (v := 858993459) hx hb hown (hts _ (List.mem_cons_of_mem _ lw_1210)) dJ6_bitCount_0f7a4_11 ?_
  refine lv_iand hx hb dJ6_bitCount_0f7a4_14 ?_
  refine lv_iload_n hx hb dJ6_bitCount_0f7a4_15 rfl (lv_at hl 0 rfl) ?_
  refine lv_iconst (v := 2) hx hb dJ6_bitCount_0f7a4_16 (by decide) ?_
  refine lv_iushr hx hb dJ6_bitCount_0f7a4_17 rfl ?_
  refine lv_ldcw (v := 858993459) hx hb hown (hts _ (List.mem_cons_of_mem _ lw_1210)) dJ6_bitCount_0f7a4_18 ?_
  refine lv_iand hx hb dJ6_bitCount_0f7a4_21 ?_
  refine lv_iadd hx hb dJ6_bitCount_0f7a4_22 ?_
  obtain ⟨v0_2, e_v0_2, h⟩ := nm_s h
  refine x_top e_v0_2 ?_
  refine lv_istore_n (lv' := [(0, .int v0_2)]) hx hb dJ6_bitCount_0f7a4_23 rfl hl (by decide) rfl (fun ls hl => ?_)
  refine lv_iload_n hx hb dJ6_bitCount_0f7a4_24 rfl (lv_at hl 0 rfl) ?_
  refine lv_iload_n hx hb dJ6_bitCount_0f7a4_25 rfl (lv_at hl 0 rfl) ?_
  refine lv_iconst (v := 4) hx hb dJ6_bitCount_0f7a4_26 (by decide) ?_
  refine lv_iushr hx hb dJ6_bitCount_0f7a4_27 rfl ?_
  refine lv_iadd hx hb dJ6_bitCount_0f7a4_28 ?_
  refine lv_ldcw (v := 252645135) hx hb hown (hts _ (List.mem_cons_of_mem _ lw_1211)) dJ6_bitCount_0f7a4_29 ?_
  refine lv_iand hx hb dJ6_bitCount_0f7a4_32 ?_
  obtain ⟨v0_3, e_v0_3, h⟩ := nm_s h
  refine x_top e_v0_3 ?_
  refine lv_istore_n (lv' := [(0, .int v0_3)]) hx hb dJ6_bitCount_0f7a4_33 rfl hl (by decide) rfl (fun ls hl => ?_)
  refine lv_iload_n hx hb dJ6_bitCount_0f7a4_34 rfl (lv_at hl 0 rfl) ?_
  refine lv_iload_n hx hb dJ6_bitCount_0f7a4_35 rfl (lv_at hl 0 rfl) ?_
  refine lv_bipush (v := 8) hx hb dJ6_bitCount_0f7a4_36 (by decide) ?_
  refine lv_iushr hx hb dJ6_bitCount_0f7a4_38 rfl ?_
  refine lv_iadd hx hb dJ6_bitCount_0f7a4_39 ?_
  obtain ⟨v0_4, e_v0_4, h⟩ := nm_s h
  refine x_top e_v0_4 ?_
  refine lv_istore_n (lv' := [(0, .int v0_4)]) hx hb dJ6_bitCount_0f7a4_40 rfl hl (by decide) rfl (fun ls hl => ?_)
  refine lv_iload_n hx hb dJ6_bitCount_0f7a4_41 rfl (lv_at hl 0 rfl) ?_
  refine lv_iload_n hx hb dJ6_bitCount_0f7a4_42 rfl (lv_at hl 0 rfl) ?_
  refine lv_bipush (v := 16) hx hb dJ6_bitCount_0f7a4_43 (by decide) ?_
  refine lv_iushr hx hb dJ6_bitCount_0f7a4_45 rfl ?_
  refine lv_iadd hx hb dJ6_bitCount_0f7a4_46 ?_
  obtain ⟨v0_5, e_v0_5, h⟩ := nm_s h
  refine x_top e_v0_5 ?_
  refine lv_istore_n (lv' := [(0, .int v0_5)]) hx hb dJ6_bitCount_0f7a4_47 rfl hl (by decide) rfl (fun ls hl => ?_)
  refine lv_iload_n hx hb dJ6_bitCount_0f7a4_48 rfl (lv_at hl 0 rfl) ?_
  refine lv_bipush (v := 63) hx hb dJ6_bitCount_0f7a4_49 (by decide) ?_
  refine lv_iand hx hb dJ6_bitCount_0f7a4_51 ?_
  exact x_iret hx hb hr hlocks hK hP hS h dJ6_bitCount_0f7a4_52
