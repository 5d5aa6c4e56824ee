def fn_X12_readAll_81 : Nat → St → Option (St)
  | 0, _ => none
  | n + 1, z => (if (z.1 172 2) = 0 then (if (z.1 172 6) = 0 then some z else bv (fn_X12_readLine   z) (fun z4 => fn_X12_readAll_81   n  z4)) else some z)
set_option maxHeartbeats 4000000 in
set_option maxRecDepth 100000 in
theorem pf_X12_readAll_81 {p : Program} {l : Launch} {e : Env} {s : State} {m : MethodId} {args : Array Value} {below : List Frame} {meth : Method} {c : Code} {G : wG} (C : CX p s m args meth c cX12_readAll 1 (wsU yX12_readAll cX12_readAll 1 none) RX12 none G) {Rz : St} : ∀ (n : Nat)  (z : St)  (H : Heap) (locs : List Loc) (ls : Array Slot), WP G z H → va_S (AW G) s.heap H locs → lv_has ls 1 [(0, .ref (G.2.2 172))] → fn_X12_readAll_81   n  z = some Rz → W p l e (rmd 8) s m args below meth c H locs 0 0 (QV below args s G Rz) (F0 m 81 ls []) := by
  obtain ⟨hx, hb, hml, hown, hts, hr, hlocks, hK, hG⟩ := id C
  intro n
  induction n with
  | zero => intro  z  H locs ls hP hS hl h; cases h
  | succ n ih =>
    intro  z  H locs ls hP hS hl h
    rw [fn_X12_readAll_81] at h
    refine lv_aload_n hx hb dX12_readAll_81 rfl (lv_at hl 0 rfl) ?_
    refine ge_12_2 hx hb hts (inU inW_X12) hown hK hP k_172 (hts _ (List.mem_cons_of_mem _ lw_1436)) dX12_readAll_82 ?_
    refine lv_if_ne (tgt := 102) hx hb dX12_readAll_85 (by decide) (fun c1 => ?_) (fun c1 => ?_)
    · rw [if_neg c1] at h
      exact x_vret hx hb hr hlocks hK hP hS h dX12_readAll_102
    · rw [if_pos c1] at h
      refine lv_aload_n hx hb dX12_readAll_88 rfl (lv_at hl 0 rfl) ?_
      refine ge_12_6 hx hb hts (inU inW_X12) hown hK hP k_172 (hts _ (List.mem_cons_of_mem _ lw_1440)) dX12_readAll_89 ?_
      refine lv_if_eq (tgt := 102) hx hb dX12_readAll_92 (by decide) (fun c2 => ?_) (fun c2 => ?_)
      · rw [if_pos c2] at h
        exact x_vret hx hb hr hlocks hK hP hS h dX12_readAll_102
      · rw [if_neg c2] at h
        refine lv_aload_n hx hb dX12_readAll_95 rfl (lv_at hl 0 rfl) ?_
        obtain ⟨z4, h3, h⟩ := bv_s h
        refine x_Vv (Rz := z4) (As := []) (rest := []) ⟨hx, hb, hml, hown, hts⟩ hK hP hS (kd_lt k_172 (by decide)) (cell_12 k_172) rfl (m_X12_readLine hG   h3) (cwV 0 hts (gV lw_1697 lw_1699 lw_48 lw_125 lw_1700) rfl rfl rfl (by decide +kernel) (rmd_ok (by decide) (by decide))) rfl hl.1 rfl (Nat.le_of_ble_eq_true rfl) dX12_readAll_96 ⟨Nat.le_refl _, Nat.le_refl _⟩ (fun H locs hP hS => ?_)
        refine lv_goto (tgt := 81) hx hb dX12_readAll_99 (by decide) ?_
        exact ih  z4  _ _ _ hP hS (lv_sub hl [0] rfl) h
def fn_X12_readAll  (z : St) : Option (St) := nm (sI z 172 5 (z.1 172 1)) (fun z1 => nm (sI z1 172 1 0) (fun z2 => nm (sI z2 172 4 0) (fun z3 => nm (sI z3 172 2 0) (fun z4 => nm (sI z4 172 3 (-1)) (fun z5 => nm (sI z5 172 39 0) (fun z6 => nm (sI z6 172 40 0) (fun z7 => nm (sI z7 172 41 1) (fun z8 => nm (sI z8 172 42 0) (fun z9 => nm (sI z9 172 46 0) (fun z10 => nm (sI z10 172 47 0) (fun z11 => nm (sI z11 183 (Int32.toNatClampNeg 0) 0) (fun z12 => nm (sI z12 183 (Int32.toNatClampNeg 1) 0) (fun z13 => nm (sI z13 172 22 0) (fun z14 => bv (fn_X12_token   z14) (fun z16 => fn_X12_readAll_81   fu  z16)))))))))))))))
set_option maxHeartbeats 4000000 in
set_option maxRecDepth 100000 in
theorem m_X12_readAll {l : Launch} {G : wG} (hG : Ok G)  {z : St} {Rz : St}  (h : fn_X12_readAll   z = some Rz) : Met l yX12_readAll (wsU yX12_readAll cX12_readAll 1 none) (rmd 8) (va_Pc [.ref (G.2.2 172)] (Pre G z)) (va_Qv (fun u => u = Rz) (Pre G) (AW G)) 0 0 (AW G) := by
  refine Met.ofW (cc := cX12_readAll) (maxL := 1) (ret := none) (by decide) rfl ?_
  intro p e s m args below meth c s₁ B hml hv
  obtain ⟨rfl, hP, hK⟩ := hv
  have C : CX p s m ([.ref (G.2.2 172)] : List Value).toArray meth c cX12_readAll 1 (wsU yX12_readAll cX12_readAll 1 none) RX12 none G := ⟨B.exec, B.bytes, hml, findClass_of_methodNamed B.named, atoms_spec (ws := (wsU yX12_readAll cX12_readAll 1 none)) B.pre, B.returns, B.notSynchronized, hK, hG⟩
  obtain ⟨hx, hb, -, hown, hts, hr, hlocks, -, -⟩ := id C
  have hS : va_S (AW G) s.heap s.heap [] := va_S.rf
  have hl := lv_entry [.ref (G.2.2 172)] (n := 1) (Nat.le_of_ble_eq_true rfl)
  rw [lg_entry_eq]
  generalize (lg_sl [.ref (G.2.2 172)] ++ List.replicate (1 - (lg_sl [.ref (G.2.2 172)]).length) Slot.unset).toArray = ls at hl ⊢
  have hl : lv_has ls 1 [(0, .ref (G.2.2 172))] := hl
  unfold fn_X12_readAll at h
  refine lv_aload_n hx hb dX12_readAll_0 rfl (lv_at hl 0 rfl) ?_
  refine lv_aload_n hx hb dX12_readAll_1 rfl (lv_at hl 0 rfl) ?_
  refine ge_12_1 hx hb hts (inU inW_X12) hown hK hP k_172 (hts _ (List.mem_cons_of_mem _ lw_1435)) dX12_readAll_2 ?_
  obtain ⟨z1, e_z1, h⟩ := nm_s h
  refine pu_12_5 hx hb hts (inU inW_X12) hown hK hG hP hS k_172 (hts _ (List.mem_cons_of_mem _ lw_1439)) dX12_readAll_5 (fun H locs hP hS => ?_)
  rw [← e_z1] at hP
  refine lv_aload_n hx hb dX12_readAll_8 rfl (lv_at hl 0 rfl) ?_
  refine lv_iconst (v := 0) hx hb dX12_readAll_9 (by decide) ?_
  obtain ⟨z2, e_z2, h⟩ := nm_s h
  refine pu_12_1 hx hb hts (inU inW_X12) hown hK hG hP hS k_172 (hts _ (List.mem_cons_of_mem _ lw_1435)) dX12_readAll_10 (fun H locs hP hS => ?_)
  rw [← e_z2] at hP
  refine lv_aload_n hx hb dX12_readAll_13 rfl (lv_at hl 0 rfl) ?_
  refine lv_iconst (v := 0) hx hb dX12_readAll_14 (by decide) ?_
  obtain ⟨z3, e_z3, h⟩ := nm_s h
  refine pu_12_4 hx hb hts (inU inW_X12) hown hK hG hP hS k_172 (hts _ (List.mem_cons_of_mem _ lw_1438)) dX12_readAll_15 (fun H locs hP hS => ?_)
  rw [← e_z3] at hP
  refine lv_aload_n hx hb dX12_readAll_18 rfl (lv_at hl 0 rfl) ?_
  refine lv_iconst (v := 0) hx hb dX12_readAll_19 (by decide) ?_
  obtain ⟨z4, e_z4, h⟩ := nm_s h
  refine pu_12_2 hx hb hts (inU inW_X12) hown hK hG hP hS k_172 (hts _ (List.mem_cons_of_mem _ lw_1436)) dX12_readAll_20 (fun H locs hP hS => ?_)
  rw [← e_z4] at hP
  refine lv_aload_n hx hb dX12_readAll_23 rfl (lv_at hl 0 rfl) ?_
  refine lv_iconst (v := (-1)) hx hb dX12_readAll_24 (by decide) ?_
  obtain ⟨z5, e_z5, h⟩ := nm_s h
  refine pu_12_3 hx hb hts (inU inW_X12) hown hK hG hP hS k_172 (hts _ (List.mem_cons_of_mem _ lw_1437)) dX12_readAll_25 (fun H locs hP hS => ?_)
  rw [← e_z5] at hP
  refine lv_aload_n hx hb dX12_readAll_28 rfl (lv_at hl 0 rfl) ?_
  refine lv_iconst (v := 0) hx hb dX12_readAll_29 (by decide) ?_
  obtain ⟨z6, e_z6, h⟩ := nm_s h
  refine pu_12_39 hx hb hts (inU inW_X12) hown hK hG hP hS k_172 (hts _ (List.mem_cons_of_mem _ lw_1473)) dX12_readAll_30 (fun H locs hP hS => ?_)
  rw [← e_z6] at hP
  refine lv_aload_n hx hb dX12_readAll_33 rfl (lv_at hl 0 rfl) ?_
  refine lv_iconst (v := 0) hx hb dX12_readAll_34 (by decide) ?_
  obtain ⟨z7, e_z7, h⟩ := nm_s h
  refine pu_12_40 hx hb hts (inU inW_X12) hown hK hG hP hS k_172 (hts _ (List.mem_cons_of_mem _ lw_1474)) dX12_readAll_35 (fun H locs hP hS => ?_)
  rw [← e_z7] at hP
  refine lv_aload_n hx hb dX12_readAll_38 rfl (lv_at hl 0 rfl) ?_
  refine lv_iconst (v := 1) hx hb dX12_readAll_39 (by decide) ?_
  obtain ⟨z8, e_z8, h⟩ := nm_s h
  refine pu_12_41 hx hb hts (inU inW_X12) hown hK hG hP hS k_172 (hts _ (List.mem_cons_of_mem _ lw_1475)) dX12_readAll_40 (fun H locs hP hS => ?_)
  rw [← e_z8] at hP
  refine lv_aload_n hx hb dX12_readAll_43 rfl (lv_at hl 0 rfl) ?_
  refine lv_iconst (v := 0) hx hb dX12_readAll_44 (by decide) ?_
  obtain ⟨z9, e_z9, h⟩ := nm_s h
  refine pu_12_42 hx hb hts (inU inW_X12) hown hK hG hP hS k_172 (hts _ (List.mem_cons_of_mem _ lw_1476)) dX12_readAll_45 (fun H locs hP hS => ?_)
  rw [← e_z9] at hP
  refine lv_aload_n hx hb dX12_readAll_48 rfl (lv_at hl 0 rfl) ?_
  refine lv_iconst (v := 0) hx hb dX12_readAll_49 (by decide) ?_
  obtain ⟨z10, e_z10, h⟩ := nm_s h
  refine pu_12_46 hx hb hts (inU inW_X12) hown hK hG hP hS k_172 (hts _ (List.mem_cons_of_mem _ lw_1480)) rfl dX12_readAll_50 (fun H locs hP hS => ?_)
  rw [← e_z10] at hP
  refine lv_aload_n hx hb dX12_readAll_53 rfl (lv_at hl 0 rfl) ?_
  refine lv_iconst (v := 0) hx hb dX12_readAll_54 (by decide) ?_
  obtain ⟨z11, e_z11, h⟩ := nm_s h
  refine pu_12_47 hx hb hts (inU inW_X12) hown hK hG hP hS k_172 (hts _ (List.mem_cons_of_mem _ lw_1481)) rfl dX12_readAll_55 (fun H locs hP hS => ?_)
  rw [← e_z11] at hP
  refine lv_aload_n hx hb dX12_readAll_58 rfl (lv_at hl 0 rfl) ?_
  refine ge_12_19 hx hb hts (inU inW_X12) hown hK hP k_172 (hts _ (List.mem_cons_of_mem _ lw_1453)) dX12_readAll_59 ?_
  refine lv_iconst (v := 0) hx hb dX12_readAll_62 (by decide) ?_
  refine lv_iconst (v := 0) hx hb dX12_readAll_63 (by decide) ?_
  obtain ⟨z12, e_z12, h⟩ := nm_s h
  refine xs_16 hx hb hK hG hP hS k_183 l_183 (ix_in (by decide)) rfl dX12_readAll_64 (fun H locs hP hS => ?_)
  rw [← e_z12] at hP
  refine lv_aload_n hx hb dX12_readAll_65 rfl (lv_at hl 0 rfl) ?_
  refine ge_12_19 hx hb hts (inU inW_X12) hown hK hP k_172 (hts _ (List.mem_cons_of_mem _ lw_1453)) dX12_readAll_66 ?_
  refine lv_iconst (v := 1) hx hb dX12_readAll_69 (by decide) ?_
  refine lv_iconst (v := 0) hx hb dX12_readAll_70 (by decide) ?_
  obtain ⟨z13, e_z13, h⟩ := nm_s h
  refine xs_16 hx hb hK hG hP hS k_183 l_183 (ix_in (by decide)) rfl dX12_readAll_71 (fun H locs hP hS => ?_)
  rw [← e_z13] at hP
  refine lv_aload_n hx hb dX12_readAll_72 rfl (lv_at hl 0 rfl) ?_
  refine lv_iconst (v := 0) hx hb dX12_readAll_73 (by decide) ?_
  obtain ⟨z14, e_z14, h⟩ := nm_s h
  refine pu_12_22 hx hb hts (inU inW_X12) hown hK hG hP hS k_172 (hts _ (List.mem_cons_of_mem _ lw_1456)) dX12_readAll_74 (fun H locs hP hS => ?_)
  rw [← e_z14] at hP
  refine lv_aload_n hx hb dX12_readAll_77 rfl (lv_at hl 0 rfl) ?_
  obtain ⟨z16, h15, h⟩ := bv_s h
  refine x_Vv (Rz := z16) (As := []) (rest := []) ⟨hx, hb, hml, hown, hts⟩ hK hP hS (kd_lt k_172 (by decide)) (cell_12 k_172) rfl (m_X12_token hG   h15) (cwV 0 hts (gV lw_1680 lw_1682 lw_46 lw_125 lw_1683) rfl rfl rfl (by decide +kernel) (rmd_ok (by decide) (by decide))) rfl hl.1 rfl (Nat.le_of_ble_eq_true rfl) dX12_readAll_78 ⟨Nat.le_refl _, Nat.le_refl _⟩ (fun H locs hP hS => ?_)
  exact pf_X12_readAll_81 C   fu  z16  _ _ _ hP hS (lv_sub hl [0] rfl) h
def fn_X12_cake_83 (k47 : Int32 → St → Option (Int32 × St)) : Nat → Int32 → Int32 → St → Option (Int32 × St)
  | 0, _, _, _ => none
  | n + 1, v1, v2, z => gd (ix v1 2) ((if ((320 * v1) + (z.1 180 (Int32.toNatClampNeg v1))) ≤ v2 then k47 (v1 + 1) z else gd (ix v2 640) (gd (ix v2 640) (nm (sI z 178 (Int32.toNatClampNeg v2) (z.1 175 (Int32.toNatClampNeg v2))) (fun z5 => gd (ix v2 640) (gd (ix v2 640) (nm (sI z5 179 (Int32.toNatClampNeg v2) (z5.1 176 (Int32.toNatClampNeg v2))) (fun z8 => fn_X12_cake_83  k47 n v1 (v2 + 1) z8))))))))
set_option maxHeartbeats 4000000 in
set_option maxRecDepth 100000 in
theorem pf_X12_cake_83 {p : Program} {l : Launch} {e : Env} {s : State} {m : MethodId} {args : Array Value} {below : List Frame} {meth : Method} {c : Code} {G : wG} (C : CX p s m args meth c cX12_cake 3 (wsU yX12_cake cX12_cake 3 (some .int)) RX12 (some .int) G) {Rz : Int32 × St} {k47 : Int32 → St → Option (Int32 × St)} (hk_47 : ∀ (v1 : Int32) (z : St)  (H : Heap) (locs : List Loc) (ls : Array Slot), WP G z H → va_S (AW G) s.heap H locs → lv_has ls 3 [(0, .ref (G.2.2 172)), (1, .int v1)] → k47 v1 z = some Rz → W p l e (rmd 9) s m args below meth c H locs 0 0 (QI below args s G Rz) (F0 m 47 ls [])) : ∀ (n : Nat) (v1 : Int32) (v2 : Int32) (z : St)  (H : Heap) (locs : List Loc) (ls : Array Slot), WP G z H → va_S (AW G) s.heap H locs → lv_has ls 3 [(0, .ref (G.2.2 172)), (1, .int v1), (2, .int v2)] → fn_X12_cake_83  k47 n v1 v2 z = some Rz → W p l e (rmd 9) s m args below meth c H locs 0 0 (QI below args s G Rz) (F0 m 83 ls []) := by
  obtain ⟨hx, hb, hml, hown, hts, hr, hlocks, hK, hG⟩ := id C
  intro n
  induction n with
  | zero => intro v1 v2 z  H locs ls hP hS hl h; cases h
  | succ n ih =>
    intro v1 v2 z  H locs ls hP hS hl h
    rw [fn_X12_cake_83] at h
    refine lv_iload_n hx hb dX12_cake_83 rfl (lv_at hl 2 rfl) ?_
    refine lv_sipush (v := 320) hx hb dX12_cake_84 (by decide) ?_
    refine lv_iload_n hx hb dX12_cake_87 rfl (lv_at hl 1 rfl) ?_
    refine lv_imul hx hb dX12_cake_88 ?_
    refine lv_aload_n hx hb dX12_cake_89 rfl (lv_at hl 0 rfl) ?_
    refine ge_12_16 hx hb hts (inU inW_X12) hown hK hP k_172 (hts _ (List.mem_cons_of_mem _ lw_1450)) dX12_cake_90 ?_
    refine lv_iload_n hx hb dX12_cake_93 rfl (lv_at hl 1 rfl) ?_
    obtain ⟨g1, h⟩ := gd_s h
    refine xl_14 hx hb hK hP k_180 l_180 (ix_in g1) dX12_cake_94 ?_
    refine lv_iadd hx hb dX12_cake_95 ?_
    refine lv_icmp_ge (tgt := 129) hx hb dX12_cake_96 (by decide) (fun c2 => ?_) (fun c2 => ?_)
    · rw [if_pos c2] at h
      refine lv_iinc (v := (v1 + 1)) (lv' := [(1, .int (v1 + 1)), (0, .ref (G.2.2 172)), (2, .int v2)]) hx hb dX12_cake_129 hl (k := 1) rfl rfl (by decide) rfl (fun ls hl => ?_)
      refine lv_goto (tgt := 47) hx hb dX12_cake_132 (by decide) ?_
      exact hk_47 (v1 + 1) z  _ _ _ hP hS (lv_sub hl [1, 0] rfl) h
    · rw [if_neg c2] at h
      refine lv_aload_n hx hb dX12_cake_99 rfl (lv_at hl 0 rfl) ?_
      refine ge_12_14 hx hb hts (inU inW_X12) hown hK hP k_172 (hts _ (List.mem_cons_of_mem _ lw_1448)) dX12_cake_100 ?_
      refine lv_iload_n hx hb dX12_cake_103 rfl (lv_at hl 2 rfl) ?_
      refine lv_aload_n hx hb dX12_cake_104 rfl (lv_at hl 0 rfl) ?_
      refine ge_12_11 hx hb hts (inU inW_X12) hown hK hP k_172 (hts _ (List.mem_cons_of_mem _ lw_1445)) dX12_cake_105 ?_
      refine lv_iload_n hx hb dX12_cake_108 rfl (lv_at hl 2 rfl) ?_
      obtain ⟨g3, h⟩ := gd_s h
      refine xl_14 hx hb hK hP k_175 l_175 (ix_in g3) dX12_cake_109 ?_
      obtain ⟨g4, h⟩ := gd_s h
      obtain ⟨z5, e_z5, h⟩ := nm_s h
      refine xs_14 hx hb hK hG hP hS k_178 l_178 (ix_in g4) dX12_cake_110 (fun H locs hP hS => ?_)
      rw [← e_z5] at hP
      refine lv_aload_n hx hb dX12_cake_111 rfl (lv_at hl 0 rfl) ?_
      refine ge_12_15 hx hb hts (inU inW_X12) hown hK hP k_172 (hts _ (List.mem_cons_of_mem _ lw_1449)) dX12_cake_112 ?_
      refine lv_iload_n hx hb dX12_cake_115 rfl (lv_at hl 2 rfl) ?_
      refine lv_aload_n hx hb dX12_cake_116 rfl (lv_at hl 0 rfl) ?_
      refine ge_12_12 hx hb hts (inU inW_X12) hown hK hP k_172 (hts _ (List.mem_cons_of_mem _ lw_1446)) dX12_cake_117 ?_
      refine lv_iload_n hx hb dX12_cake_120 rfl (lv_at hl 2 rfl) ?_
      obtain ⟨g6, h⟩ := gd_s h
      refine xl_14 hx hb hK hP k_176 l_176 (ix_in g6) dX12_cake_121 ?_
      obtain ⟨g7, h⟩ := gd_s h
      obtain ⟨z8, e_z8, h⟩ := nm_s h
      refine xs_14 hx hb hK hG hP hS k_179 l_179 (ix_in g7) dX12_cake_122 (fun H locs hP hS => ?_)
      rw [← e_z8] at hP
      refine lv_iinc (v := (v2 + 1)) (lv' := [(2, .int (v2 + 1)), (0, .ref (G.2.2 172)), (1, .int v1)]) hx hb dX12_cake_123 hl (k := 2) rfl rfl (by decide) rfl (fun ls hl => ?_)
      refine lv_goto (tgt := 83) hx hb dX12_cake_126 (by decide) ?_
      exact ih v1 (v2 + 1) z8  _ _ _ hP hS (lv_sub hl [1, 2, 0] rfl) h
def fn_X12_cake_76 (k47 : Int32 → St → Option (Int32 × St)) (v1 : Int32) (tv1 : Int32) (tv2 : Int32) (z : St) : Option (Int32 × St) := gd (ix tv1 2) (nm (sI z 180 (Int32.toNatClampNeg tv1) tv2) (fun z2 => nm (320 * v1) (fun v2_3 => fn_X12_cake_83  k47 fu v1 v2_3 z2)))
set_option maxHeartbeats 4000000 in
set_option maxRecDepth 100000 in
theorem pf_X12_cake_76 {p : Program} {l : Launch} {e : Env} {s : State} {m : MethodId} {args : Array Value} {below : List Frame} {meth : Method} {c : Code} {G : wG} (C : CX p s m args meth c cX12_cake 3 (wsU yX12_cake cX12_cake 3 (some .int)) RX12 (some .int) G) {Rz : Int32 × St} {k47 : Int32 → St → Option (Int32 × St)} (hk_47 : ∀ (v1 : Int32) (z : St)  (H : Heap) (locs : List Loc) (ls : Array Slot), WP G z H → va_S (AW G) s.heap H locs → lv_has ls 3 [(0, .ref (G.2.2 172)), (1, .int v1)] → k47 v1 z = some Rz → W p l e (rmd 9) s m args below meth c H locs 0 0 (QI below args s G Rz) (F0 m 47 ls [])) (v1 : Int32) (tv1 : Int32) (tv2 : Int32) (z : St)  {H : Heap} {locs : List Loc} {ls : Array Slot} (hP : WP G z H) (hS : va_S (AW G) s.heap H locs) (hl : lv_has ls 3 [(0, .ref (G.2.2 172)), (1, .int v1)]) (h : fn_X12_cake_76  k47 v1 tv1 tv2 z = some Rz) : W p l e (rmd 9) s m args below meth c H locs 0 0 (QI below args s G Rz) (F0 m 76 ls [.int tv2, .int tv1, .ref (G.2.2 180)]) := by
  obtain ⟨hx, hb, hml, hown, hts, hr, hlocks, hK, hG⟩ := id C
  unfold fn_X12_cake_76 at h
  obtain ⟨g1, h⟩ := gd_s h
  obtain ⟨z2, e_z2, h⟩ := nm_s h
  refine xs_14 hx hb hK hG hP hS k_180 l_180 (ix_in g1) dX12_cake_76 (fun H locs hP hS => ?_)
  rw [← e_z2] at hP
  refine lv_sipush (v := 320) hx hb dX12_cake_77 (by decide) ?_
  refine lv_iload_n hx hb dX12_cake_80 rfl (lv_at hl 1 rfl) ?_
  refine lv_imul hx hb dX12_cake_81 ?_
  obtain ⟨v2_3, e_v2_3, h⟩ := nm_s h
  refine x_top e_v2_3 ?_
  refine lv_istore_n (lv' := [(2, .int v2_3), (0, .ref (G.2.2 172)), (1, .int v1)]) hx hb dX12_cake_82 rfl hl (by decide) rfl (fun ls hl => ?_)
  exact pf_X12_cake_83 C  hk_47 fu v1 v2_3 z2  _ _ _ hP hS (lv_sub hl [1, 2, 0] rfl) h
def fn_X12_cake_364 : Nat → Int32 → St → Option (Int32 × St)
  | 0, _, _ => none
  | n + 1, v1, z => (if 3 ≤ v1 then some ((z.1 172 43), z) else gd (ix v1 3) (nm (sI z 211 (Int32.toNatClampNeg v1) 0) (fun z3 => fn_X12_cake_364   n (v1 + 1) z3)))
set_option maxHeartbeats 4000000 in
set_option maxRecDepth 100000 in
theorem pf_X12_cake_364 {p : Program} {l : Launch} {e : Env} {s : State} {m : MethodId} {args : Array Value} {below : List Frame} {meth : Method} {c : Code} {G : wG} (C : CX p s m args meth c cX12_cake 3 (wsU yX12_cake cX12_cake 3 (some .int)) RX12 (some .int) G) {Rz : Int32 × St} : ∀ (n : Nat) (v1 : Int32) (z : St)  (H : Heap) (locs : List Loc) (ls : Array Slot), WP G z H → va_S (AW G) s.heap H locs → lv_has ls 3 [(0, .ref (G.2.2 172)), (1, .int v1)] → fn_X12_cake_364   n v1 z = some Rz → W p l e (rmd 9) s m args below meth c H locs 0 0 (QI below args s G Rz) (F0 m 364 ls []) := by
  obtain ⟨hx, hb, hml, hown, hts, hr, hlocks, hK, hG⟩ := id C
  intro n
  induction n with
  | zero => intro v1 z  H locs ls hP hS hl h; cases h
  | succ n ih =>
    intro v1 z  H locs ls hP hS hl h
    rw [fn_X12_cake_364] at h
    refine lv_iload_n hx hb dX12_cake_364 rfl (lv_at hl 1 rfl) ?_
    refine lv_iconst (v := 3) hx hb dX12_cake_365 (by decide) ?_
    refine lv_icmp_ge (tgt := 382) hx hb dX12_cake_366 (by decide) (fun c1 => ?_) (fun c1 => ?_)
    · rw [if_pos c1] at h
      refine lv_aload_n hx hb dX12_cake_382 rfl (lv_at hl 0 rfl) ?_
      refine ge_12_43 hx hb hts (inU inW_X12) hown hK hP k_172 (hts _ (List.mem_cons_of_mem _ lw_1477)) dX12_cake_383 ?_
      exact x_iret hx hb hr hlocks hK hP hS h dX12_cake_386
    · rw [if_neg c1] at h
      refine lv_aload_n hx hb dX12_cake_369 rfl (lv_at hl 0 rfl) ?_
      refine ge_12_73 hx hb hts (inU inW_X12) hown hK hP k_172 (hts _ (List.mem_cons_of_mem _ lw_1507)) dX12_cake_370 ?_
      refine lv_iload_n hx hb dX12_cake_373 rfl (lv_at hl 1 rfl) ?_
      refine lv_iconst (v := 0) hx hb dX12_cake_374 (by decide) ?_
      obtain ⟨g2, h⟩ := gd_s h
      obtain ⟨z3, e_z3, h⟩ := nm_s h
      refine xs_16 hx hb hK hG hP hS k_211 l_211 (ix_in g2) rfl dX12_cake_375 (fun H locs hP hS => ?_)
      rw [← e_z3] at hP
      refine lv_iinc (v := (v1 + 1)) (lv' := [(1, .int (v1 + 1)), (0, .ref (G.2.2 172))]) hx hb dX12_cake_376 hl (k := 1) rfl rfl (by decide) rfl (fun ls hl => ?_)
      refine lv_goto (tgt := 364) hx hb dX12_cake_379 (by decide) ?_
      exact ih (v1 + 1) z3  _ _ _ hP hS (lv_sub hl [1, 0] rfl) h
def fn_X12_cake_268 : Nat → Int32 → St → Option (Int32 × St)
  | 0, _, _ => none
  | n + 1, v1, z => (if (z.1 172 44) ≤ v1 then nm (sI z 197 (Int32.toNatClampNeg 168) (z.1 172 43)) (fun z2 => nm (sI z2 197 (Int32.toNatClampNeg 170) (z2.1 172 42)) (fun z3 => nm (sI z3 172 51 0) (fun z4 => nm (sI z4 172 52 0) (fun z5 => nm (sI z5 172 71 0) (fun z6 => nm (sI z6 172 65 0) (fun z7 => fn_X12_cake_364   fu 0 z7)))))) else gd (ix v1 6) (gd (ix v1 6) (nm (sI z 194 (Int32.toNatClampNeg v1) (z.1 191 (Int32.toNatClampNeg v1))) (fun z10 => gd (ix v1 6) (gd (ix v1 6) (nm (sI z10 195 (Int32.toNatClampNeg v1) (z10.1 192 (Int32.toNatClampNeg v1))) (fun z13 => gd (ix v1 6) (gd (ix v1 6) (nm (sI z13 196 (Int32.toNatClampNeg v1) (z13.1 193 (Int32.toNatClampNeg v1))) (fun z16 => fn_X12_cake_268   n (v1 + 1) z16))))))))))
set_option maxHeartbeats 4000000 in
set_option maxRecDepth 100000 in
theorem pf_X12_cake_268 {p : Program} {l : Launch} {e : Env} {s : State} {m : MethodId} {args : Array Value} {below : List Frame} {meth : Method} {c : Code} {G : wG} (C : CX p s m args meth c cX12_cake 3 (wsU yX12_cake cX12_cake 3 (some .int)) RX12 (some .int) G) {Rz : Int32 × St} : ∀ (n : Nat) (v1 : Int32) (z : St)  (H : Heap) (locs : List Loc) (ls : Array Slot), WP G z H → va_S (AW G) s.heap H locs → lv_has ls 3 [(0, .ref (G.2.2 172)), (1, .int v1)] → fn_X12_cake_268   n v1 z = some Rz → W p l e (rmd 9) s m args below meth c H locs 0 0 (QI below args s G Rz) (F0 m 268 ls []) := by
  obtain ⟨hx, hb, hml, hown, hts, hr, hlocks, hK, hG⟩ := id C
  intro n
  induction n with
  | zero => intro v1 z  H locs ls hP hS hl h; cases h
  | succ n ih =>
    intro v1 z  H locs ls hP hS hl h
    rw [fn_X12_cake_268] at h
    refine lv_iload_n hx hb dX12_cake_268 rfl (lv_at hl 1 rfl) ?_
    refine lv_aload_n hx hb dX12_cake_269 rfl (lv_at hl 0 rfl) ?_
    refine ge_12_44 hx hb hts (inU inW_X12) hown hK hP k_172 (hts _ (List.mem_cons_of_mem _ lw_1478)) dX12_cake_270 ?_
    refine lv_icmp_ge (tgt := 318) hx hb dX12_cake_273 (by decide) (fun c1 => ?_) (fun c1 => ?_)
    · rw [if_pos c1] at h
      refine lv_aload_n hx hb dX12_cake_318 rfl (lv_at hl 0 rfl) ?_
      refine ge_12_48 hx hb hts (inU inW_X12) hown hK hP k_172 (hts _ (List.mem_cons_of_mem _ lw_1482)) dX12_cake_319 ?_
      refine lv_sipush (v := 168) hx hb dX12_cake_322 (by decide) ?_
      refine lv_aload_n hx hb dX12_cake_325 rfl (lv_at hl 0 rfl) ?_
      refine ge_12_43 hx hb hts (inU inW_X12) hown hK hP k_172 (hts _ (List.mem_cons_of_mem _ lw_1477)) dX12_cake_326 ?_
      obtain ⟨z2, e_z2, h⟩ := nm_s h
      refine xs_14 hx hb hK hG hP hS k_197 l_197 (ix_in (by decide)) dX12_cake_329 (fun H locs hP hS => ?_)
      rw [← e_z2] at hP
      refine lv_aload_n hx hb dX12_cake_330 rfl (lv_at hl 0 rfl) ?_
      refine ge_12_48 hx hb hts (inU inW_X12) hown hK hP k_172 (hts _ (List.mem_cons_of_mem _ lw_1482)) dX12_cake_331 ?_
      refine lv_sipush (v := 170) hx hb dX12_cake_334 (by decide) ?_
      refine lv_aload_n hx hb dX12_cake_337 rfl (lv_at hl 0 rfl) ?_
      refine ge_12_42 hx hb hts (inU inW_X12) hown hK hP k_172 (hts _ (List.mem_cons_of_mem _ lw_1476)) dX12_cake_338 ?_
      obtain ⟨z3, e_z3, h⟩ := nm_s h
      refine xs_14 hx hb hK hG hP hS k_197 l_197 (ix_in (by decide)) dX12_cake_341 (fun H locs hP hS => ?_)
      rw [← e_z3] at hP
      refine lv_aload_n hx hb dX12_cake_342 rfl (lv_at hl 0 rfl) ?_
      refine lv_iconst (v := 0) hx hb dX12_cake_343 (by decide) ?_
      obtain ⟨z4, e_z4, h⟩ := nm_s h
      refine pu_12_51 hx hb hts (inU inW_X12) hown hK hG hP hS k_172 (hts _ (List.mem_cons_of_mem _ lw_1485)) dX12_cake_344 (fun H locs hP hS => ?_)
      rw [← e_z4] at hP
      refine lv_aload_n hx hb dX12_cake_347 rfl (lv_at hl 0 rfl) ?_
      refine lv_iconst (v := 0) hx hb dX12_cake_348 (by decide) ?_
      obtain ⟨z5, e_z5, h⟩ := nm_s h
      refine pu_12_52 hx hb hts (inU inW_X12) hown hK hG hP hS k_172 (hts _ (List.mem_cons_of_mem _ lw_1486)) dX12_cake_349 (fun H locs hP hS => ?_)
      rw [← e_z5] at hP
      refine lv_aload_n hx hb dX12_cake_352 rfl (lv_at hl 0 rfl) ?_
      refine lv_iconst (v := 0) hx hb dX12_cake_353 (by decide) ?_
      obtain ⟨z6, e_z6, h⟩ := nm_s h
      refine pu_12_71 hx hb hts (inU inW_X12) hown hK hG hP hS k_172 (hts _ (List.mem_cons_of_mem _ lw_1505)) dX12_cake_354 (fun H locs hP hS => ?_)
      rw [← e_z6] at hP
      refine lv_aload_n hx hb dX12_cake_357 rfl (lv_at hl 0 rfl) ?_
      refine lv_iconst (v := 0) hx hb dX12_cake_358 (by decide) ?_
      obtain ⟨z7, e_z7, h⟩ := nm_s h
      refine pu_12_65 hx hb hts (inU inW_X12) hown hK hG hP hS k_172 (hts _ (List.mem_cons_of_mem _ lw_1499)) dX12_cake_359 (fun H locs hP hS => ?_)
      rw [← e_z7] at hP
      refine lv_iconst (v := 0) hx hb dX12_cake_362 (by decide) ?_
      refine lv_istore_n (lv' := [(1, .int 0), (0, .ref (G.2.2 172))]) hx hb dX12_cake_363 rfl hl (by decide) rfl (fun ls hl => ?_)
      exact pf_X12_cake_364 C   fu 0 z7  _ _ _ hP hS (lv_sub hl [1, 0] rfl) h
    · rw [if_neg c1] at h
      refine lv_aload_n hx hb dX12_cake_276 rfl (lv_at hl 0 rfl) ?_
      refine ge_12_36 hx hb hts (inU inW_X12) hown hK hP k_172 (hts _ (List.mem_cons_of_mem _ lw_1470)) dX12_cake_277 ?_
      refine lv_iload_n hx hb dX12_cake_280 rfl (lv_at hl 1 rfl) ?_
      refine lv_aload_n hx hb dX12_cake_281 rfl (lv_at hl 0 rfl) ?_
      refine ge_12_33 hx hb hts (inU inW_X12) hown hK hP k_172 (hts _ (List.mem_cons_of_mem _ lw_1467)) dX12_cake_282 ?_
      refine lv_iload_n hx hb dX12_cake_285 rfl (lv_at hl 1 rfl) ?_
      obtain ⟨g8, h⟩ := gd_s h
      refine xl_14 hx hb hK hP k_191 l_191 (ix_in g8) dX12_cake_286 ?_
      obtain ⟨g9, h⟩ := gd_s h
      obtain ⟨z10, e_z10, h⟩ := nm_s h
      refine xs_14 hx hb hK hG hP hS k_194 l_194 (ix_in g9) dX12_cake_287 (fun H locs hP hS => ?_)
      rw [← e_z10] at hP
      refine lv_aload_n hx hb dX12_cake_288 rfl (lv_at hl 0 rfl) ?_
      refine ge_12_37 hx hb hts (inU inW_X12) hown hK hP k_172 (hts _ (List.mem_cons_of_mem _ lw_1471)) dX12_cake_289 ?_
      refine lv_iload_n hx hb dX12_cake_292 rfl (lv_at hl 1 rfl) ?_
      refine lv_aload_n hx hb dX12_cake_293 rfl (lv_at hl 0 rfl) ?_
      refine ge_12_34 hx hb hts (inU inW_X12) hown hK hP k_172 (hts _ (List.mem_cons_of_mem _ lw_1468)) dX12_cake_294 ?_
      refine lv_iload_n hx hb dX12_cake_297 rfl (lv_at hl 1 rfl) ?_
      obtain ⟨g11, h⟩ := gd_s h
      refine xl_14 hx hb hK hP k_192 l_192 (ix_in g11) dX12_cake_298 ?_
      obtain ⟨g12, h⟩ := gd_s h
      obtain ⟨z13, e_z13, h⟩ := nm_s h
      refine xs_14 hx hb hK hG hP hS k_195 l_195 (ix_in g12) dX12_cake_299 (fun H locs hP hS => ?_)
      rw [← e_z13] at hP
      refine lv_aload_n hx hb dX12_cake_300 rfl (lv_at hl 0 rfl) ?_
      refine ge_12_38 hx hb hts (inU inW_X12) hown hK hP k_172 (hts _ (List.mem_cons_of_mem _ lw_1472)) dX12_cake_301 ?_
      refine lv_iload_n hx hb dX12_cake_304 rfl (lv_at hl 1 rfl) ?_
      refine lv_aload_n hx hb dX12_cake_305 rfl (lv_at hl 0 rfl) ?_
      refine ge_12_35 hx hb hts (inU inW_X12) hown hK hP k_172 (hts _ (List.mem_cons_of_mem _ lw_1469)) dX12_cake_306 ?_
      refine lv_iload_n hx hb dX12_cake_309 rfl (lv_at hl 1 rfl) ?_
      obtain ⟨g14, h⟩ := gd_s h
      refine xl_14 hx hb hK hP k_193 l_193 (ix_in g14) dX12_cake_310 ?_
      obtain ⟨g15, h⟩ := gd_s h
      obtain ⟨z16, e_z16, h⟩ := nm_s h
      refine xs_14 hx hb hK hG hP hS k_196 l_196 (ix_in g15) dX12_cake_311 (fun H locs hP hS => ?_)
      rw [← e_z16] at hP
      refine lv_iinc (v := (v1 + 1)) (lv' := [(1, .int (v1 + 1)), (0, .ref (G.2.2 172))]) hx hb dX12_cake_312 hl (k := 1) rfl rfl (by decide) rfl (fun ls hl => ?_)
      refine lv_goto (tgt := 268) hx hb dX12_cake_315 (by decide) ?_
      exact ih (v1 + 1) z16  _ _ _ hP hS (lv_sub hl [1, 0] rfl) h
def fn_X12_cake_159 : Nat → Int32 → St → Option (Int32 × St)
  | 0, _, _ => none
  | n + 1, v1, z => (if (z.1 172 43) ≤ v1 then fn_X12_cake_268   fu 0 z else gd (ix v1 3) (gd (ix v1 3) (nm (sI z 188 (Int32.toNatClampNeg v1) (z.1 185 (Int32.toNatClampNeg v1))) (fun z4 => gd (ix v1 3) (gd (ix v1 3) (nm (sI z4 189 (Int32.toNatClampNeg v1) (z4.1 186 (Int32.toNatClampNeg v1))) (fun z7 => gd (ix v1 3) (gd (ix v1 3) (nm (sI z7 190 (Int32.toNatClampNeg v1) (z7.1 187 (Int32.toNatClampNeg v1))) (fun z10 => gd (ix (7 * v1) 171) (nm (sI z10 197 (Int32.toNatClampNeg (7 * v1)) v1) (fun z12 => gd (ix v1 3) (gd (ix ((7 * v1) + 3) 171) (nm (sI z12 197 (Int32.toNatClampNeg ((7 * v1) + 3)) (z12.1 188 (Int32.toNatClampNeg v1))) (fun z15 => gd (ix v1 3) (gd (ix ((7 * v1) + 4) 171) (nm (sI z15 197 (Int32.toNatClampNeg ((7 * v1) + 4)) (z15.1 189 (Int32.toNatClampNeg v1))) (fun z18 => gd (ix ((7 * v1) + 6) 171) (nm (sI z18 197 (Int32.toNatClampNeg ((7 * v1) + 6)) (-1)) (fun z20 => fn_X12_cake_159   n (v1 + 1) z20))))))))))))))))))))
set_option maxHeartbeats 4000000 in
set_option maxRecDepth 100000 in
theorem pf_X12_cake_159 {p : Program} {l : Launch} {e : Env} {s : State} {m : MethodId} {args : Array Value} {below : List Frame} {meth : Method} {c : Code} {G : wG} (C : CX p s m args meth c cX12_cake 3 (wsU yX12_cake cX12_cake 3 (some .int)) RX12 (some .int) G) {Rz : Int32 × St} : ∀ (n : Nat) (v1 : Int32) (z : St)  (H : Heap) (locs : List Loc) (ls : Array Slot), WP G z H → va_S (AW G) s.heap H locs → lv_has ls 3 [(0, .ref (G.2.2 172)), (1, .int v1)] → fn_X12_cake_159   n v1 z = some Rz → W p l e (rmd 9) s m args below meth c H locs 0 0 (QI below args s G Rz) (F0 m 159 ls []) := by
  obtain ⟨hx, hb, hml, hown, hts, hr, hlocks, hK, hG⟩ := id C
  intro n
  induction n with
  | zero => intro v1 z  H locs ls hP hS hl h; cases h
  | succ n ih =>
    intro v1 z  H locs ls hP hS hl h
    rw [fn_X12_cake_159] at h
    refine lv_iload_n hx hb dX12_cake_159 rfl (lv_at hl 1 rfl) ?_
    refine lv_aload_n hx hb dX12_cake_160 rfl (lv_at hl 0 rfl) ?_
    refine ge_12_43 hx hb hts (inU inW_X12) hown hK hP k_172 (hts _ (List.mem_cons_of_mem _ lw_1477)) dX12_cake_161 ?_
    refine lv_icmp_ge (tgt := 266) hx hb dX12_cake_164 (by decide) (fun c1 => ?_) (fun c1 => ?_)
    · rw [if_pos c1] at h
      refine lv_iconst (v := 0) hx hb dX12_cake_266 (by decide) ?_
      refine lv_istore_n (lv' := [(1, .int 0), (0, .ref (G.2.2 172))]) hx hb dX12_cake_267 rfl hl (by decide) rfl (fun ls hl => ?_)
      exact pf_X12_cake_268 C   fu 0 z  _ _ _ hP hS (lv_sub hl [1, 0] rfl) h
    · rw [if_neg c1] at h
      refine lv_aload_n hx hb dX12_cake_167 rfl (lv_at hl 0 rfl) ?_
      refine ge_12_30 hx hb hts (inU inW_X12) hown hK hP k_172 (hts _ (List.mem_cons_of_mem _ lw_1464)) dX12_cake_168 ?_
      refine lv_iload_n hx hb dX12_cake_171 rfl (lv_at hl 1 rfl) ?_
      refine lv_aload_n hx hb dX12_cake_172 rfl (lv_at hl 0 rfl) ?_
      refine ge_12_27 hx hb hts (inU inW_X12) hown hK hP k_172 (hts _ (List.mem_cons_of_mem _ lw_1461)) dX12_cake_173 ?_
      refine lv_iload_n hx hb dX12_cake_176 rfl (lv_at hl 1 rfl) ?_
      obtain ⟨g2, h⟩ := gd_s h
      refine xl_14 hx hb hK hP k_185 l_185 (ix_in g2) dX12_cake_177 ?_
      obtain ⟨g3, h⟩ := gd_s h
      obtain ⟨z4, e_z4, h⟩ := nm_s h
      refine xs_14 hx hb hK hG hP hS k_188 l_188 (ix_in g3) dX12_cake_178 (fun H locs hP hS => ?_)
      rw [← e_z4] at hP
      refine lv_aload_n hx hb dX12_cake_179 rfl (lv_at hl 0 rfl) ?_
      refine ge_12_31 hx hb hts (inU inW_X12) hown hK hP k_172 (hts _ (List.mem_cons_of_mem _ lw_1465)) dX12_cake_180 ?_
      refine lv_iload_n hx hb dX12_cake_183 rfl (lv_at hl 1 rfl) ?_
      refine lv_aload_n hx hb dX12_cake_184 rfl (lv_at hl 0 rfl) ?_
      refine ge_12_28 hx hb hts (inU inW_X12) hown hK hP k_172 (hts _ (List.mem_cons_of_mem _ lw_1462)) dX12_cake_185 ?_
      refine lv_iload_n hx hb dX12_cake_188 rfl (lv_at hl 1 rfl) ?_
      obtain ⟨g5, h⟩ := gd_s h
      refine xl_14 hx hb hK hP k_186 l_186 (ix_in g5) dX12_cake_189 ?_
      obtain ⟨g6, h⟩ := gd_s h
      obtain ⟨z7, e_z7, h⟩ := nm_s h
      refine xs_14 hx hb hK hG hP hS k_189 l_189 (ix_in g6) dX12_cake_190 (fun H locs hP hS => ?_)
      rw [← e_z7] at hP
      refine lv_aload_n hx hb dX12_cake_191 rfl (lv_at hl 0 rfl) ?_
      refine ge_12_32 hx hb hts (inU inW_X12) hown hK hP k_172 (hts _ (List.mem_cons_of_mem _ lw_1466)) dX12_cake_192 ?_
      refine lv_iload_n hx hb dX12_cake_195 rfl (lv_at hl 1 rfl) ?_
      refine lv_aload_n hx hb dX12_cake_196 rfl (lv_at hl 0 rfl) ?_
      refine ge_12_29 hx hb hts (inU inW_X12) hown hK hP k_172 (hts _ (List.mem_cons_of_mem _ lw_1463)) dX12_cake_197 ?_
      refine lv_iload_n hx hb dX12_cake_200 rfl (lv_at hl 1 rfl) ?_
      obtain ⟨g8, h⟩ := gd_s h
      refine xl_14 hx hb hK hP k_187 l_187 (ix_in g8) dX12_cake_201 ?_
      obtain ⟨g9, h⟩ := gd_s h
      obtain ⟨z10, e_z10, h⟩ := nm_s h
      refine xs_14 hx hb hK hG hP hS k_190 l_190 (ix_in g9) dX12_cake_202 (fun H locs hP hS => ?_)
      rw [← e_z10] at hP
      refine lv_aload_n hx hb dX12_cake_203 rfl (lv_at hl 0 rfl) ?_
      refine ge_12_48 hx hb hts (inU inW_X12) hown hK hP k_172 (hts _ (List.mem_cons_of_mem _ lw_1482)) dX12_cake_204 ?_
      refine lv_bipush (v := 7) hx hb dX12_cake_207 (by decide) ?_
      refine lv_iload_n hx hb dX12_cake_209 rfl (lv_at hl 1 rfl) ?_
      refine lv_imul hx hb dX12_cake_210 ?_
      refine lv_iload_n hx hb dX12_cake_211 rfl (lv_at hl 1 rfl) ?_
      obtain ⟨g11, h⟩ := gd_s h
      obtain ⟨z12, e_z12, h⟩ := nm_s h
      refine xs_14 hx hb hK hG hP hS k_197 l_197 (ix_in g11) dX12_cake_212 (fun H locs hP hS => ?_)
      rw [← e_z12] at hP
      refine lv_aload_n hx hb dX12_cake_213 rfl (lv_at hl 0 rfl) ?_
      refine ge_12_48 hx hb hts (inU inW_X12) hown hK hP k_172 (hts _ (List.mem_cons_of_mem _ lw_1482)) dX12_cake_214 ?_
      refine lv_bipush (v := 7) hx hb dX12_cake_217 (by decide) ?_
      refine lv_iload_n hx hb dX12_cake_219 rfl (lv_at hl 1 rfl) ?_
      refine lv_imul hx hb dX12_cake_220 ?_
      refine lv_iconst (v := 3) hx hb dX12_cake_221 (by decide) ?_
      refine lv_iadd hx hb dX12_cake_222 ?_
      refine lv_aload_n hx hb dX12_cake_223 rfl (lv_at hl 0 rfl) ?_
      refine ge_12_30 hx hb hts (inU inW_X12) hown hK hP k_172 (hts _ (List.mem_cons_of_mem _ lw_1464)) dX12_cake_224 ?_
      refine lv_iload_n hx hb dX12_cake_227 rfl (lv_at hl 1 rfl) ?_
      obtain ⟨g13, h⟩ := gd_s h
      refine xl_14 hx hb hK hP k_188 l_188 (ix_in g13) dX12_cake_228 ?_
      obtain ⟨g14, h⟩ := gd_s h
      obtain ⟨z15, e_z15, h⟩ := nm_s h
      refine xs_14 hx hb hK hG hP hS k_197 l_197 (ix_in g14) dX12_cake_229 (fun H locs hP hS => ?_)
      rw [← e_z15] at hP
      refine lv_aload_n hx hb dX12_cake_230 rfl (lv_at hl 0 rfl) ?_
      refine ge_12_48 hx hb hts (inU inW_X12) hown hK hP k_172 (hts _ (List.mem_cons_of_mem _ lw_1482)) dX12_cake_231 ?_
      refine lv_bipush (v := 7) hx hb dX12_cake_234 (by decide) ?_
      refine lv_iload_n hx hb dX12_cake_236 rfl (lv_at hl 1 rfl) ?_
      refine lv_imul hx hb dX12_cake_237 ?_
      refine lv_iconst (v := 4) hx hb dX12_cake_238 (by decide) ?_
      refine lv_iadd hx hb dX12_cake_239 ?_
      refine lv_aload_n hx hb dX12_cake_240 rfl (lv_at hl 0 rfl) ?_
      refine ge_12_31 hx hb hts (inU inW_X12) hown hK hP k_172 (hts _ (List.mem_cons_of_mem _ lw_1465)) dX12_cake_241 ?_
      refine lv_iload_n hx hb dX12_cake_244 rfl (lv_at hl 1 rfl) ?_
      obtain ⟨g16, h⟩ := gd_s h
      refine xl_14 hx hb hK hP k_189 l_189 (ix_in g16) dX12_cake_245 ?_
      obtain ⟨g17, h⟩ := gd_s h
      obtain ⟨z18, e_z18, h⟩ := nm_s h
      refine xs_14 hx hb hK hG hP hS k_197 l_197 (ix_in g17) dX12_cake_246 (fun H locs hP hS => ?_)
      rw [← e_z18] at hP
      refine lv_aload_n hx hb dX12_cake_247 rfl (lv_at hl 0 rfl) ?_
      refine ge_12_48 hx hb hts (inU inW_X12) hown hK hP k_172 (hts _ (List.mem_cons_of_mem _ lw_1482)) dX12_cake_248 ?_
      refine lv_bipush (v := 7) hx hb dX12_cake_251 (by decide) ?_
      refine lv_iload_n hx hb dX12_cake_253 rfl (lv_at hl 1 rfl) ?_
      refine lv_imul hx hb dX12_cake_254 ?_
      refine lv_bipush (v := 6) hx hb dX12_cake_255 (by decide) ?_
      refine lv_iadd hx hb dX12_cake_257 ?_
      refine lv_iconst (v := (-1)) hx hb dX12_cake_258 (by decide) ?_
      obtain ⟨g19, h⟩ := gd_s h
      obtain ⟨z20, e_z20, h⟩ := nm_s h
      refine xs_14 hx hb hK hG hP hS k_197 l_197 (ix_in g19) dX12_cake_259 (fun H locs hP hS => ?_)
      rw [← e_z20] at hP
      refine lv_iinc (v := (v1 + 1)) (lv' := [(1, .int (v1 + 1)), (0, .ref (G.2.2 172))]) hx hb dX12_cake_260 hl (k := 1) rfl rfl (by decide) rfl (fun ls hl => ?_)
      refine lv_goto (tgt := 159) hx hb dX12_cake_263 (by decide) ?_
      exact ih (v1 + 1) z20  _ _ _ hP hS (lv_sub hl [1, 0] rfl) h
def fn_X12_cake_137 : Nat → Int32 → St → Option (Int32 × St)
  | 0, _, _ => none
  | n + 1, v1, z => (if 171 ≤ v1 then fn_X12_cake_159   fu 0 z else gd (ix v1 171) (nm (sI z 197 (Int32.toNatClampNeg v1) 0) (fun z3 => fn_X12_cake_137   n (v1 + 1) z3)))
set_option maxHeartbeats 4000000 in
set_option maxRecDepth 100000 in
theorem pf_X12_cake_137 {p : Program} {l : Launch} {e : Env} {s : State} {m : MethodId} {args : Array Value} {below : List Frame} {meth : Method} {c : Code} {G : wG} (C : CX p s m args meth c cX12_cake 3 (wsU yX12_cake cX12_cake 3 (some .int)) RX12 (some .int) G) {Rz : Int32 × St} : ∀ (n : Nat) (v1 : Int32) (z : St)  (H : Heap) (locs : List Loc) (ls : Array Slot), WP G z H → va_S (AW G) s.heap H locs → lv_has ls 3 [(0, .ref (G.2.2 172)), (1, .int v1)] → fn_X12_cake_137   n v1 z = some Rz → W p l e (rmd 9) s m args below meth c H locs 0 0 (QI below args s G Rz) (F0 m 137 ls []) := by
  obtain ⟨hx, hb, hml, hown, hts, hr, hlocks, hK, hG⟩ := id C
  intro n
  induction n with
  | zero => intro v1 z  H locs ls hP hS hl h; cases h
  | succ n ih =>
    intro v1 z  H locs ls hP hS hl h
    rw [fn_X12_cake_137] at h
    refine lv_iload_n hx hb dX12_cake_137 rfl (lv_at hl 1 rfl) ?_
    refine lv_sipush (v := 171) hx hb dX12_cake_138 (by decide) ?_
    refine lv_icmp_ge (tgt := 157) hx hb dX12_cake_141 (by decide) (fun c1 => ?_) (fun c1 => ?_)
    · rw [if_pos c1] at h
      refine lv_iconst (v := 0) hx hb dX12_cake_157 (by decide) ?_
      refine lv_istore_n (lv' := [(1, .int 0), (0, .ref (G.2.2 172))]) hx hb dX12_cake_158 rfl hl (by decide) rfl (fun ls hl => ?_)
      exact pf_X12_cake_159 C   fu 0 z  _ _ _ hP hS (lv_sub hl [1, 0] rfl) h
    · rw [if_neg c1] at h
      refine lv_aload_n hx hb dX12_cake_144 rfl (lv_at hl 0 rfl) ?_
      refine ge_12_48 hx hb hts (inU inW_X12) hown hK hP k_172 (hts _ (List.mem_cons_of_mem _ lw_1482)) dX12_cake_145 ?_
      refine lv_iload_n hx hb dX12_cake_148 rfl (lv_at hl 1 rfl) ?_
      refine lv_iconst (v := 0) hx hb dX12_cake_149 (by decide) ?_
      obtain ⟨g2, h⟩ := gd_s h
      obtain ⟨z3, e_z3, h⟩ := nm_s h
      refine xs_14 hx hb hK hG hP hS k_197 l_197 (ix_in g2) dX12_cake_150 (fun H locs hP hS => ?_)
      rw [← e_z3] at hP
      refine lv_iinc (v := (v1 + 1)) (lv' := [(1, .int (v1 + 1)), (0, .ref (G.2.2 172))]) hx hb dX12_cake_151 hl (k := 1) rfl rfl (by decide) rfl (fun ls hl => ?_)
      refine lv_goto (tgt := 137) hx hb dX12_cake_154 (by decide) ?_
      exact ih (v1 + 1) z3  _ _ _ hP hS (lv_sub hl [1, 0] rfl) h
def fn_X12_cake_47 : Nat → Int32 → St → Option (Int32 × St)
  | 0, _, _ => none
  | n + 1, v1, z => (if 2 ≤ v1 then fn_X12_cake_137   fu 0 z else gd (ix v1 2) ((if (z.1 183 (Int32.toNatClampNeg v1)) = 0 then fn_X12_cake_76  (fn_X12_cake_47   n) v1 v1 0 z else gd (ix v1 2) (fn_X12_cake_76  (fn_X12_cake_47   n) v1 v1 (z.1 177 (Int32.toNatClampNeg v1)) z))))
set_option maxHeartbeats 4000000 in
set_option maxRecDepth 100000 in
theorem pf_X12_cake_47 {p : Program} {l : Launch} {e : Env} {s : State} {m : MethodId} {args : Array Value} {below : List Frame} {meth : Method} {c : Code} {G : wG} (C : CX p s m args meth c cX12_cake 3 (wsU yX12_cake cX12_cake 3 (some .int)) RX12 (some .int) G) {Rz : Int32 × St} : ∀ (n : Nat) (v1 : Int32) (z : St)  (H : Heap) (locs : List Loc) (ls : Array Slot), WP G z H → va_S (AW G) s.heap H locs → lv_has ls 3 [(0, .ref (G.2.2 172)), (1, .int v1)] → fn_X12_cake_47   n v1 z = some Rz → W p l e (rmd 9) s m args below meth c H locs 0 0 (QI below args s G Rz) (F0 m 47 ls []) := by
  obtain ⟨hx, hb, hml, hown, hts, hr, hlocks, hK, hG⟩ := id C
  intro n
  induction n with
  | zero => intro v1 z  H locs ls hP hS hl h; cases h
  | succ n ih =>
    intro v1 z  H locs ls hP hS hl h
    rw [fn_X12_cake_47] at h
    refine lv_iload_n hx hb dX12_cake_47 rfl (lv_at hl 1 rfl) ?_
    refine lv_iconst (v := 2) hx hb dX12_cake_48 (by decide) ?_
    refine lv_icmp_ge (tgt := 135) hx hb dX12_cake_49 (by decide) (fun c1 => ?_) (fun c1 => ?_)
    · rw [if_pos c1] at h
      refine lv_iconst (v := 0) hx hb dX12_cake_135 (by decide) ?_
      refine lv_istore_n (lv' := [(1, .int 0), (0, .ref (G.2.2 172))]) hx hb dX12_cake_136 rfl hl (by decide) rfl (fun ls hl => ?_)
      exact pf_X12_cake_137 C   fu 0 z  _ _ _ hP hS (lv_sub hl [1, 0] rfl) h
    · rw [if_neg c1] at h
      refine lv_aload_n hx hb dX12_cake_52 rfl (lv_at hl 0 rfl) ?_
      refine ge_12_16 hx hb hts (inU inW_X12) hown hK hP k_172 (hts _ (List.mem_cons_of_mem _ lw_1450)) dX12_cake_53 ?_
      refine lv_iload_n hx hb dX12_cake_56 rfl (lv_at hl 1 rfl) ?_
      refine lv_aload_n hx hb dX12_cake_57 rfl (lv_at hl 0 rfl) ?_
      refine ge_12_19 hx hb hts (inU inW_X12) hown hK hP k_172 (hts _ (List.mem_cons_of_mem _ lw_1453)) dX12_cake_58 ?_
      refine lv_iload_n hx hb dX12_cake_61 rfl (lv_at hl 1 rfl) ?_
      obtain ⟨g2, h⟩ := gd_s h
      refine xl_16 hx hb hK hP k_183 l_183 (ix_in g2) dX12_cake_62 ?_
      refine lv_if_eq (tgt := 75) hx hb dX12_cake_63 (by decide) (fun c3 => ?_) (fun c3 => ?_)
      · rw [if_pos c3] at h
        refine lv_iconst (v := 0) hx hb dX12_cake_75 (by decide) ?_
        exact pf_X12_cake_76 C  ih v1 v1 0 z  hP hS (lv_sub hl [0, 1] rfl) h
      · rw [if_neg c3] at h
        refine lv_aload_n hx hb dX12_cake_66 rfl (lv_at hl 0 rfl) ?_
        refine ge_12_13 hx hb hts (inU inW_X12) hown hK hP k_172 (hts _ (List.mem_cons_of_mem _ lw_1447)) dX12_cake_67 ?_
        refine lv_iload_n hx hb dX12_cake_70 rfl (lv_at hl 1 rfl) ?_
        obtain ⟨g4, h⟩ := gd_s h
        refine xl_14 hx hb hK hP k_177 l_177 (ix_in g4) dX12_cake_71 ?_
        refine lv_goto (tgt := 76) hx hb dX12_cake_72 (by decide) ?_
        exact pf_X12_cake_76 C  ih v1 v1 (z.1 177 (Int32.toNatClampNeg v1)) z  hP hS (lv_sub hl [0, 1] rfl) h
def fn_X12_cake  (z : St) : Option (Int32 × St) := bv (fn_X12_readAll   z) (fun z2 => (if (z2.1 172 2) ≤ 0 then nm (sI z2 172 43 (z2.1 172 39)) (fun z4 => nm (sI z4 172 44 (z4.1 172 40)) (fun z5 => nm (sI z5 172 45 (z5.1 172 41)) (fun z6 => nm (sI z6 172 23 (z6.1 172 22)) (fun z7 => fn_X12_cake_47   fu 0 z7)))) else some ((-1), z2)))
set_option maxHeartbeats 4000000 in
set_option maxRecDepth 100000 in
theorem m_X12_cake {l : Launch} {G : wG} (hG : Ok G)  {z : St} {Rz : Int32 × St}  (h : fn_X12_cake   z = some Rz) : Met l yX12_cake (wsU yX12_cake cX12_cake 3 (some .int)) (rmd 9) (va_Pc [.ref (G.2.2 172)] (Pre G z)) (va_Qi (fun r u => (r, u) = Rz) (Pre G) (AW G)) 0 0 (AW G) := by
  refine Met.ofW (cc := cX12_cake) (maxL := 3) (ret := (some .int)) (by decide) rfl ?_
  intro p e s m args below meth c s₁ B hml hv
  obtain ⟨rfl, hP, hK⟩ := hv
  have C : CX p s m ([.ref (G.2.2 172)] : List Value).toArray meth c cX12_cake 3 (wsU yX12_cake cX12_cake 3 (some .int)) RX12 (some .int) G := ⟨B.exec, B.bytes, hml, findClass_of_methodNamed B.named, atoms_spec (ws := (wsU yX12_cake cX12_cake 3 (some .int))) B.pre, B.returns, B.notSynchronized, hK, hG⟩
  obtain ⟨hx, hb, -, hown, hts, hr, hlocks, -, -⟩ := id C
  have hS : va_S (AW G) s.heap s.heap [] := va_S.rf
  have hl := lv_entry [.ref (G.2.2 172)] (n := 3) (Nat.le_of_ble_eq_true rfl)
  rw [lg_entry_eq]
  generalize (lg_sl [.ref (G.2.2 172)] ++ List.replicate (3 - (lg_sl [.ref (G.2.2 172)]).length) Slot.unset).toArray = ls at hl ⊢
  have hl : lv_has ls 3 [(0, .ref (G.2.2 172))] := hl
  unfold fn_X12_cake at h
  refine lv_aload_n hx hb dX12_cake_0 rfl (lv_at hl 0 rfl) ?_
  obtain ⟨z2, h1, h⟩ := bv_s h
  refine x_Vv (Rz := z2) (As := []) (rest := []) ⟨hx, hb, hml, hown, hts⟩ hK hP hS (kd_lt k_172 (by decide)) (cell_12 k_172) rfl (m_X12_readAll hG   h1) (cwV 0 hts (gV lw_1676 lw_1678 lw_45 lw_125 lw_1679) rfl rfl rfl (by decide +kernel) (rmd_ok (by decide) (by decide))) rfl hl.1 rfl (Nat.le_of_ble_eq_true rfl) dX12_cake_1 ⟨Nat.le_refl _, Nat.le_refl _⟩ (fun H locs hP hS => ?_)
  refine lv_aload_n hx hb dX12_cake_4 rfl (lv_at hl 0 rfl) ?_
  refine ge_12_2 hx hb hts (inU inW_X12) hown hK hP k_172 (hts _ (List.mem_cons_of_mem _ lw_1436)) dX12_cake_5 ?_
  refine lv_if_le (tgt := 13) hx hb dX12_cake_8 (by decide) (fun c3 => ?_) (fun c3 => ?_)
  · rw [if_pos c3] at h
    refine lv_aload_n hx hb dX12_cake_13 rfl (lv_at hl 0 rfl) ?_
    refine lv_aload_n hx hb dX12_cake_14 rfl (lv_at hl 0 rfl) ?_
    refine ge_12_39 hx hb hts (inU inW_X12) hown hK hP k_172 (hts _ (List.mem_cons_of_mem _ lw_1473)) dX12_cake_15 ?_
    obtain ⟨z4, e_z4, h⟩ := nm_s h
    refine pu_12_43 hx hb hts (inU inW_X12) hown hK hG hP hS k_172 (hts _ (List.mem_cons_of_mem _ lw_1477)) dX12_cake_18 (fun H locs hP hS => ?_)
    rw [← e_z4] at hP
    refine lv_aload_n hx hb dX12_cake_21 rfl (lv_at hl 0 rfl) ?_
    refine lv_aload_n hx hb dX12_cake_22 rfl (lv_at hl 0 rfl) ?_
    refine ge_12_40 hx hb hts (inU inW_X12) hown hK hP k_172 (hts _ (List.mem_cons_of_mem _ lw_1474)) dX12_cake_23 ?_
    obtain ⟨z5, e_z5, h⟩ := nm_s h
    refine pu_12_44 hx hb hts (inU inW_X12) hown hK hG hP hS k_172 (hts _ (List.mem_cons_of_mem _ lw_1478)) dX12_cake_26 (fun H locs hP hS => ?_)
    rw [← e_z5] at hP
    refine lv_aload_n hx hb dX12_cake_29 rfl (lv_at hl 0 rfl) ?_
    refine lv_aload_n hx hb dX12_cake_30 rfl (lv_at hl 0 rfl) ?_
    refine ge_12_41 hx hb hts (inU inW_X12) hown hK hP k_172 (hts _ (List.mem_cons_of_mem _ lw_1475)) dX12_cake_31 ?_
    obtain ⟨z6, e_z6, h⟩ := nm_s h
    refine pu_12_45 hx hb hts (inU inW_X12) hown hK hG hP hS k_172 (hts _ (List.mem_cons_of_mem _ lw_1479)) dX12_cake_34 (fun H locs hP hS => ?_)
    rw [← e_z6] at hP
    refine lv_aload_n hx hb dX12_cake_37 rfl (lv_at hl 0 rfl) ?_
    refine lv_aload_n hx hb dX12_cake_38 rfl (lv_at hl 0 rfl) ?_
    refine ge_12_22 hx hb hts (inU inW_X12) hown hK hP k_172 (hts _ (List.mem_cons_of_mem _ lw_1456)) dX12_cake_39 ?_
    obtain ⟨z7, e_z7, h⟩ := nm_s h
    refine pu_12_23 hx hb hts (inU inW_X12) hown hK hG hP hS k_172 (hts _ (List.mem_cons_of_mem _ lw_1457)) dX12_cake_42 (fun H locs hP hS => ?_)
    rw [← e_z7] at hP
    refine lv_iconst (v := 0) hx hb dX12_cake_45 (by decide) ?_
    refine lv_istore_n (lv' := [(1, .int 0), (0, .ref (G.2.2 172))]) hx hb dX12_cake_46 rfl hl (by decide) rfl (fun ls hl => ?_)
    exact pf_X12_cake_47 C   fu 0 z7  _ _ _ hP hS (lv_sub hl [1, 0] rfl) h
  · rw [if_neg c3] at h
    refine lv_iconst (v := (-1)) hx hb dX12_cake_11 (by decide) ?_
    exact x_iret hx hb hr hlocks hK hP hS h dX12_cake_12
def fn_X12_fault (v1 : Int32) (z : St) : Option (Int32 × St) := (if v1 = 0 then some ((z.1 172 2), z) else (if v1 = 1 then some ((z.1 172 3), z) else some ((-1), z)))
set_option maxHeartbeats 4000000 in
set_option maxRecDepth 100000 in
theorem m_X12_fault {l : Launch} {G : wG} (hG : Ok G) {v1 : Int32} {z : St} {Rz : Int32 × St}  (h : fn_X12_fault  v1 z = some Rz) : Met l yX12_fault (wsU yX12_fault cX12_fault 2 (some .int)) (rmd 1) (va_Pc [.ref (G.2.2 172), .int v1] (Pre G z)) (va_Qi (fun r u => (r, u) = Rz) (Pre G) (AW G)) 0 0 (AW G) := by
  refine Met.ofW (cc := cX12_fault) (maxL := 2) (ret := (some .int)) (by decide) rfl ?_
  intro p e s m args below meth c s₁ B hml hv
  obtain ⟨rfl, hP, hK⟩ := hv
  have C : CX p s m ([.ref (G.2.2 172), .int v1] : List Value).toArray meth c cX12_fault 2 (wsU yX12_fault cX12_fault 2 (some .int)) RX12 (some .int) G := ⟨B.exec, B.bytes, hml, findClass_of_methodNamed B.named, atoms_spec (ws := (wsU yX12_fault cX12_fault 2 (some .int))) B.pre, B.returns, B.notSynchronized, hK, hG⟩
  obtain ⟨hx, hb, -, hown, hts, hr, hlocks, -, -⟩ := id C
  have hS : va_S (AW G) s.heap s.heap [] := va_S.rf
  have hl := lv_entry [.ref (G.2.2 172), .int v1] (n := 2) (Nat.le_of_ble_eq_true rfl)
  rw [lg_entry_eq]
  generalize (lg_sl [.ref (G.2.2 172), .int v1] ++ List.replicate (2 - (lg_sl [.ref (G.2.2 172), .int v1]).length) Slot.unset).toArray = ls at hl ⊢
  have hl : lv_has ls 2 [(0, .ref (G.2.2 172)), (1, .int v1)] := hl
  unfold fn_X12_fault at h
  refine lv_iload_n hx hb dX12_fault_0 rfl (lv_at hl 1 rfl) ?_
  refine lv_if_ne (tgt := 11) hx hb dX12_fault_1 (by decide) (fun c1 => ?_) (fun c1 => ?_)
  · rw [if_neg c1] at h
    refine lv_iload_n hx hb dX12_fault_11 rfl (lv_at hl 1 rfl) ?_
    refine lv_iconst (v := 1) hx hb dX12_fault_12 (by decide) ?_
    refine lv_icmp_ne (tgt := 23) hx hb dX12_fault_13 (by decide) (fun c2 => ?_) (fun c2 => ?_)
    · rw [if_neg c2] at h
      refine lv_iconst (v := (-1)) hx hb dX12_fault_23 (by decide) ?_
      exact x_iret hx hb hr hlocks hK hP hS h dX12_fault_24
    · rw [if_pos c2] at h
      refine lv_aload_n hx hb dX12_fault_16 rfl (lv_at hl 0 rfl) ?_
      refine ge_12_3 hx hb hts (inU inW_X12) hown hK hP k_172 (hts _ (List.mem_cons_of_mem _ lw_1437)) dX12_fault_17 ?_
      refine lv_goto (tgt := 24) hx hb dX12_fault_20 (by decide) ?_
      exact x_iret hx hb hr hlocks hK hP hS h dX12_fault_24
  · rw [if_pos c1] at h
    refine lv_aload_n hx hb dX12_fault_4 rfl (lv_at hl 0 rfl) ?_
    refine ge_12_2 hx hb hts (inU inW_X12) hown hK hP k_172 (hts _ (List.mem_cons_of_mem _ lw_1436)) dX12_fault_5 ?_
    refine lv_goto (tgt := 24) hx hb dX12_fault_8 (by decide) ?_
    exact x_iret hx hb hr hlocks hK hP hS h dX12_fault_24
def fn_X12_isIn (v0 : Int32) (v1 : Int32) (v2 : Int32) (z : St) : Option (Int32 × St) := (if v0 < v1 then some (0, z) else (if v2 < v0 then some (0, z) else some (1, z)))
set_option maxHeartbeats 4000000 in
set_option maxRecDepth 100000 in
theorem m_X12_isIn {l : Launch} {G : wG} (hG : Ok G) {v0 : Int32} {v1 : Int32} {v2 : Int32} {z : St} {Rz : Int32 × St}  (h : fn_X12_isIn  v0 v1 v2 z = some Rz) : Met l yX12_isIn (wsU yX12_isIn cX12_isIn 3 (some .boolean)) (rmd 1) (va_Pc [.int v0, .int v1, .int v2] (Pre G z)) (va_Qi (fun r u => (r, u) = Rz) (Pre G) (AW G)) 0 0 (AW G) := by
  refine Met.ofW (cc := cX12_isIn) (maxL := 3) (ret := (some .boolean)) (by decide) rfl ?_
  intro p e s m args below meth c s₁ B hml hv
  obtain ⟨rfl, hP, hK⟩ := hv
  have C : CX p s m ([.int v0, .int v1, .int v2] : List Value).toArray meth c cX12_isIn 3 (wsU yX12_isIn cX12_isIn 3 (some .boolean)) RX12 (some .boolean) G := ⟨B.exec, B.bytes, hml, findClass_of_methodNamed B.named, atoms_spec (ws := (wsU yX12_isIn cX12_isIn 3 (some .boolean))) B.pre, B.returns, B.notSynchronized, hK, hG⟩
  obtain ⟨hx, hb, -, hown, hts, hr, hlocks, -, -⟩ := id C
  have hS : va_S (AW G) s.heap s.heap [] := va_S.rf
  have hl := lv_entry [.int v0, .int v1, .int v2] (n := 3) (Nat.le_of_ble_eq_true rfl)
  rw [lg_entry_eq]
  generalize (lg_sl [.int v0, .int v1, .int v2] ++ List.replicate (3 - (lg_sl [.int v0, .int v1, .int v2]).length) Slot.unset).toArray = ls at hl ⊢
  have hl : lv_has ls 3 [(0, .int v0), (1, .int v1), (2, .int v2)] := hl
  unfold fn_X12_isIn at h
  refine lv_iload_n hx hb dX12_isIn_0 rfl (lv_at hl 0 rfl) ?_
  refine lv_iload_n hx hb dX12_isIn_1 rfl (lv_at hl 1 rfl) ?_
  refine lv_icmp_lt (tgt := 14) hx hb dX12_isIn_2 (by decide) (fun c1 => ?_) (fun c1 => ?_)
  · rw [if_pos c1] at h
    refine lv_iconst (v := 0) hx hb dX12_isIn_14 (by decide) ?_
    exact x_zret hx hb hr hlocks hK hP hS rfl h dX12_isIn_15
  · rw [if_neg c1] at h
    refine lv_iload_n hx hb dX12_isIn_5 rfl (lv_at hl 0 rfl) ?_
    refine lv_iload_n hx hb dX12_isIn_6 rfl (lv_at hl 2 rfl) ?_
    refine lv_icmp_gt (tgt := 14) hx hb dX12_isIn_7 (by decide) (fun c2 => ?_) (fun c2 => ?_)
    · rw [if_pos c2] at h
      refine lv_iconst (v := 0) hx hb dX12_isIn_14 (by decide) ?_
      exact x_zret hx hb hr hlocks hK hP hS rfl h dX12_isIn_15
    · rw [if_neg c2] at h
      refine lv_iconst (v := 1) hx hb dX12_isIn_10 (by decide) ?_
      refine lv_goto (tgt := 15) hx hb dX12_isIn_11 (by decide) ?_
      exact x_zret hx hb hr hlocks hK hP hS rfl h dX12_isIn_15
def fn_X12_isTier (v1 : Int32) (z : St) : Option (Int32 × St) := bd (fn_X12_isIn  v1 0 ((z.1 172 43) - 1) z) (fun r2 z3 => gd (zok r2) (some (r2, z3)))
set_option maxHeartbeats 4000000 in
set_option maxRecDepth 100000 in
theorem m_X12_isTier {l : Launch} {G : wG} (hG : Ok G) {v1 : Int32} {z : St} {Rz : Int32 × St}  (h : fn_X12_isTier  v1 z = some Rz) : Met l yX12_isTier (wsU yX12_isTier cX12_isTier 2 (some .boolean)) (rmd 2) (va_Pc [.ref (G.2.2 172), .int v1] (Pre G z)) (va_Qi (fun r u => (r, u) = Rz) (Pre G) (AW G)) 0 0 (AW G) := by
  refine Met.ofW (cc := cX12_isTier) (maxL := 2) (ret := (some .boolean)) (by decide) rfl ?_
  intro p e s m args below meth c s₁ B hml hv
  obtain ⟨rfl, hP, hK⟩ := hv
  have C : CX p s m ([.ref (G.2.2 172), .int v1] : List Value).toArray meth c cX12_isTier 2 (wsU yX12_isTier cX12_isTier 2 (some .boolean)) RX12 (some .boolean) G := ⟨B.exec, B.bytes, hml, findClass_of_methodNamed B.named, atoms_spec (ws := (wsU yX12_isTier cX12_isTier 2 (some .boolean))) B.pre, B.returns, B.notSynchronized, hK, hG⟩
  obtain ⟨hx, hb, -, hown, hts, hr, hlocks, -, -⟩ := id C
  have hS : va_S (AW G) s.heap s.heap [] := va_S.rf
  have hl := lv_entry [.ref (G.2.2 172), .int v1] (n := 2) (Nat.le_of_ble_eq_true rfl)
  rw [lg_entry_eq]
  generalize (lg_sl [.ref (G.2.2 172), .int v1] ++ List.replicate (2 - (lg_sl [.ref (G.2.2 172), .int v1]).length) Slot.unset).toArray = ls at hl ⊢
  have hl : lv_has ls 2 [(0, .ref (G.2.2 172)), (1, .int v1)] := hl
  unfold fn_X12_isTier at h
  refine lv_iload_n hx hb dX12_isTier_0 rfl (lv_at hl 1 rfl) ?_
  refine lv_iconst (v := 0) hx hb dX12_isTier_1 (by decide) ?_
  refine lv_aload_n hx hb dX12_isTier_2 rfl (lv_at hl 0 rfl) ?_
  refine ge_12_43 hx hb hts (inU inW_X12) hown hK hP k_172 (hts _ (List.mem_cons_of_mem _ lw_1477)) dX12_isTier_3 ?_
  refine lv_iconst (v := 1) hx hb dX12_isTier_6 (by decide) ?_
  refine lv_isub hx hb dX12_isTier_7 ?_
  obtain ⟨r2, z3, h1, h⟩ := bd_s h
  refine x_Si (Rz := (r2, z3)) (As := [.int v1, .int 0, .int ((z.1 172 43) - 1)]) (rest := []) ⟨hx, hb, hml, hown, hts⟩ hK hP hS (m_X12_isIn hG   h1) (va_cwS 3 hts (gS lw_1827 lw_1828 lw_125 lw_1829) rfl rfl rfl (by decide +kernel) (rmd_ok (by decide) (by decide))) rfl hl.1 rfl (Nat.le_of_ble_eq_true rfl) dX12_isTier_8 ⟨Nat.le_refl _, Nat.le_refl _⟩ (fun H locs hP hS => ?_)
  obtain ⟨g4, h⟩ := gd_s h
  exact x_zret hx hb hr hlocks hK hP hS g4 h dX12_isTier_11
def fn_X12_isGuest (v1 : Int32) (z : St) : Option (Int32 × St) := bd (fn_X12_isIn  v1 0 ((z.1 172 44) - 1) z) (fun r2 z3 => gd (zok r2) (some (r2, z3)))
set_option maxHeartbeats 4000000 in
set_option maxRecDepth 100000 in
theorem m_X12_isGuest {l : Launch} {G : wG} (hG : Ok G) {v1 : Int32} {z : St} {Rz : Int32 × St}  (h : fn_X12_isGuest  v1 z = some Rz) : Met l yX12_isGuest (wsU yX12_isGuest cX12_isGuest 2 (some .boolean)) (rmd 2) (va_Pc [.ref (G.2.2 172), .int v1] (Pre G z)) (va_Qi (fun r u => (r, u) = Rz) (Pre G) (AW G)) 0 0 (AW G) := by
  refine Met.ofW (cc := cX12_isGuest) (maxL := 2) (ret := (some .boolean)) (by decide) rfl ?_
  intro p e s m args below meth c s₁ B hml hv
  obtain ⟨rfl, hP, hK⟩ := hv
  have C : CX p s m ([.ref (G.2.2 172), .int v1] : List Value).toArray meth c cX12_isGuest 2 (wsU yX12_isGuest cX12_isGuest 2 (some .boolean)) RX12 (some .boolean) G := ⟨B.exec, B.bytes, hml, findClass_of_methodNamed B.named, atoms_spec (ws := (wsU yX12_isGuest cX12_isGuest 2 (some .boolean))) B.pre, B.returns, B.notSynchronized, hK, hG⟩
  obtain ⟨hx, hb, -, hown, hts, hr, hlocks, -, -⟩ := id C
  have hS : va_S (AW G) s.heap s.heap [] := va_S.rf
  have hl := lv_entry [.ref (G.2.2 172), .int v1] (n := 2) (Nat.le_of_ble_eq_true rfl)
  rw [lg_entry_eq]
  generalize (lg_sl [.ref (G.2.2 172), .int v1] ++ List.replicate (2 - (lg_sl [.ref (G.2.2 172), .int v1]).length) Slot.unset).toArray = ls at hl ⊢
  have hl : lv_has ls 2 [(0, .ref (G.2.2 172)), (1, .int v1)] := hl
  unfold fn_X12_isGuest at h
  refine lv_iload_n hx hb dX12_isGuest_0 rfl (lv_at hl 1 rfl) ?_
  refine lv_iconst (v := 0) hx hb dX12_isGuest_1 (by decide) ?_
  refine lv_aload_n hx hb dX12_isGuest_2 rfl (lv_at hl 0 rfl) ?_
  refine ge_12_44 hx hb hts (inU inW_X12) hown hK hP k_172 (hts _ (List.mem_cons_of_mem _ lw_1478)) dX12_isGuest_3 ?_
  refine lv_iconst (v := 1) hx hb dX12_isGuest_6 (by decide) ?_
  refine lv_isub hx hb dX12_isGuest_7 ?_
  obtain ⟨r2, z3, h1, h⟩ := bd_s h
  refine x_Si (Rz := (r2, z3)) (As := [.int v1, .int 0, .int ((z.1 172 44) - 1)]) (rest := []) ⟨hx, hb, hml, hown, hts⟩ hK hP hS (m_X12_isIn hG   h1) (va_cwS 3 hts (gS lw_1827 lw_1828 lw_125 lw_1829) rfl rfl rfl (by decide +kernel) (rmd_ok (by decide) (by decide))) rfl hl.1 rfl (Nat.le_of_ble_eq_true rfl) dX12_isGuest_8 ⟨Nat.le_refl _, Nat.le_refl _⟩ (fun H locs hP hS => ?_)
  obtain ⟨g4, h⟩ := gd_s h
  exact x_zret hx hb hr hlocks hK hP hS g4 h dX12_isGuest_11
def fn_X12_isPiece (v1 : Int32) (z : St) : Option (Int32 × St) := bd (fn_X12_isIn  v1 0 ((z.1 197 (Int32.toNatClampNeg 168)) - 1) z) (fun r2 z3 => gd (zok r2) (some (r2, z3)))
set_option maxHeartbeats 4000000 in
set_option maxRecDepth 100000 in
theorem m_X12_isPiece {l : Launch} {G : wG} (hG : Ok G) {v1 : Int32} {z : St} {Rz : Int32 × St}  (h : fn_X12_isPiece  v1 z = some Rz) : Met l yX12_isPiece (wsU yX12_isPiece cX12_isPiece 2 (some .boolean)) (rmd 2) (va_Pc [.ref (G.2.2 172), .int v1] (Pre G z)) (va_Qi (fun r u => (r, u) = Rz) (Pre G) (AW G)) 0 0 (AW G) := by
  refine Met.ofW (cc := cX12_isPiece) (maxL := 2) (ret := (some .boolean)) (by decide) rfl ?_
  intro p e s m args below meth c s₁ B hml hv
  obtain ⟨rfl, hP, hK⟩ := hv
  have C : CX p s m ([.ref (G.2.2 172), .int v1] : List Value).toArray meth c cX12_isPiece 2 (wsU yX12_isPiece cX12_isPiece 2 (some .boolean)) RX12 (some .boolean) G := ⟨B.exec, B.bytes, hml, findClass_of_methodNamed B.named, atoms_spec (ws := (wsU yX12_isPiece cX12_isPiece 2 (some .boolean))) B.pre, B.returns, B.notSynchronized, hK, hG⟩
  obtain ⟨hx, hb, -, hown, hts, hr, hlocks, -, -⟩ := id C
  have hS : va_S (AW G) s.heap s.heap [] := va_S.rf
  have hl := lv_entry [.ref (G.2.2 172), .int v1] (n := 2) (Nat.le_of_ble_eq_true rfl)
  rw [lg_entry_eq]
  generalize (lg_sl [.ref (G.2.2 172), .int v1] ++ List.replicate (2 - (lg_sl [.ref (G.2.2 172), .int v1]).length) Slot.unset).toArray = ls at hl ⊢
  have hl : lv_has ls 2 [(0, .ref (G.2.2 172)), (1, .int v1)] := hl
  unfold fn_X12_isPiece at h
  refine lv_iload_n hx hb dX12_isPiece_0 rfl (lv_at hl 1 rfl) ?_
  refine lv_iconst (v := 0) hx hb dX12_isPiece_1 (by decide) ?_
  refine lv_aload_n hx hb dX12_isPiece_2 rfl (lv_at hl 0 rfl) ?_
  refine ge_12_48 hx hb hts (inU inW_X12) hown hK hP k_172 (hts _ (List.mem_cons_of_mem _ lw_1482)) dX12_isPiece_3 ?_
  refine lv_sipush (v := 168) hx hb dX12_isPiece_6 (by decide) ?_
  refine xl_14 hx hb hK hP k_197 l_197 (ix_in (by decide)) dX12_isPiece_9 ?_
  refine lv_iconst (v := 1) hx hb dX12_isPiece_10 (by decide) ?_
  refine lv_isub hx hb dX12_isPiece_11 ?_
  obtain ⟨r2, z3, h1, h⟩ := bd_s h
  refine x_Si (Rz := (r2, z3)) (As := [.int v1, .int 0, .int ((z.1 197 (Int32.toNatClampNeg 168)) - 1)]) (rest := []) ⟨hx, hb, hml, hown, hts⟩ hK hP hS (m_X12_isIn hG   h1) (va_cwS 3 hts (gS lw_1827 lw_1828 lw_125 lw_1829) rfl rfl rfl (by decide +kernel) (rmd_ok (by decide) (by decide))) rfl hl.1 rfl (Nat.le_of_ble_eq_true rfl) dX12_isPiece_12 ⟨Nat.le_refl _, Nat.le_refl _⟩ (fun H locs hP hS => ?_)
  obtain ⟨g4, h⟩ := gd_s h
  exact x_zret hx hb hr hlocks hK hP hS g4 h dX12_isPiece_15
def fn_X12_load_2 : Nat → Int32 → St → Option (St)
  | 0, _, _ => none
  | n + 1, v1, z => (if 171 ≤ v1 then some z else gd (ix v1 171) (gd (ix v1 171) (nm (sI z 198 (Int32.toNatClampNeg v1) (z.1 197 (Int32.toNatClampNeg v1))) (fun z4 => fn_X12_load_2   n (v1 + 1) z4))))
set_option maxHeartbeats 4000000 in
set_option maxRecDepth 100000 in
theorem pf_X12_load_2 {p : Program} {l : Launch} {e : Env} {s : State} {m : MethodId} {args : Array Value} {below : List Frame} {meth : Method} {c : Code} {G : wG} (C : CX p s m args meth c cX12_load 2 (wsU yX12_load cX12_load 2 none) RX12 none G) {Rz : St} : ∀ (n : Nat) (v1 : Int32) (z : St)  (H : Heap) (locs : List Loc) (ls : Array Slot), WP G z H → va_S (AW G) s.heap H locs → lv_has ls 2 [(0, .ref (G.2.2 172)), (1, .int v1)] → fn_X12_load_2   n v1 z = some Rz → W p l e (rmd 1) s m args below meth c H locs 0 0 (QV below args s G Rz) (F0 m 2 ls []) := by
  obtain ⟨hx, hb, hml, hown, hts, hr, hlocks, hK, hG⟩ := id C
  intro n
  induction n with
  | zero => intro v1 z  H locs ls hP hS hl h; cases h
  | succ n ih =>
    intro v1 z  H locs ls hP hS hl h
    rw [fn_X12_load_2] at h
    refine lv_iload_n hx hb dX12_load_2 rfl (lv_at hl 1 rfl) ?_
    refine lv_sipush (v := 171) hx hb dX12_load_3 (by decide) ?_
    refine lv_icmp_ge (tgt := 27) hx hb dX12_load_6 (by decide) (fun c1 => ?_) (fun c1 => ?_)
    · rw [if_pos c1] at h
      exact x_vret hx hb hr hlocks hK hP hS h dX12_load_27
    · rw [if_neg c1] at h
      refine lv_aload_n hx hb dX12_load_9 rfl (lv_at hl 0 rfl) ?_
      refine ge_12_49 hx hb hts (inU inW_X12) hown hK hP k_172 (hts _ (List.mem_cons_of_mem _ lw_1483)) dX12_load_10 ?_
      refine lv_iload_n hx hb dX12_load_13 rfl (lv_at hl 1 rfl) ?_
      refine lv_aload_n hx hb dX12_load_14 rfl (lv_at hl 0 rfl) ?_
      refine ge_12_48 hx hb hts (inU inW_X12) hown hK hP k_172 (hts _ (List.mem_cons_of_mem _ lw_1482)) dX12_load_15 ?_
      refine lv_iload_n hx hb dX12_load_18 rfl (lv_at hl 1 rfl) ?_
      obtain ⟨g2, h⟩ := gd_s h
      refine xl_14 hx hb hK hP k_197 l_197 (ix_in g2) dX12_load_19 ?_
      obtain ⟨g3, h⟩ := gd_s h
      obtain ⟨z4, e_z4, h⟩ := nm_s h
      refine xs_14 hx hb hK hG hP hS k_198 l_198 (ix_in g3) dX12_load_20 (fun H locs hP hS => ?_)
      rw [← e_z4] at hP
      refine lv_iinc (v := (v1 + 1)) (lv' := [(1, .int (v1 + 1)), (0, .ref (G.2.2 172))]) hx hb dX12_load_21 hl (k := 1) rfl rfl (by decide) rfl (fun ls hl => ?_)
      refine lv_goto (tgt := 2) hx hb dX12_load_24 (by decide) ?_
      exact ih (v1 + 1) z4  _ _ _ hP hS (lv_sub hl [1, 0] rfl) h
def fn_X12_load  (z : St) : Option (St) := fn_X12_load_2   fu 0 z
set_option maxHeartbeats 4000000 in
set_option maxRecDepth 100000 in
theorem m_X12_load {l : Launch} {G : wG} (hG : Ok G)  {z : St} {Rz : St}  (h : fn_X12_load   z = some Rz) : Met l yX12_load (wsU yX12_load cX12_load 2 none) (rmd 1) (va_Pc [.ref (G.2.2 172)] (Pre G z)) (va_Qv (fun u => u = Rz) (Pre G) (AW G)) 0 0 (AW G) := by
  refine Met.ofW (cc := cX12_load) (maxL := 2) (ret := none) (by decide) rfl ?_
  intro p e s m args below meth c s₁ B hml hv
  obtain ⟨rfl, hP, hK⟩ := hv
  have C : CX p s m ([.ref (G.2.2 172)] : List Value).toArray meth c cX12_load 2 (wsU yX12_load cX12_load 2 none) RX12 none G := ⟨B.exec, B.bytes, hml, findClass_of_methodNamed B.named, atoms_spec (ws := (wsU yX12_load cX12_load 2 none)) B.pre, B.returns, B.notSynchronized, hK, hG⟩
  obtain ⟨hx, hb, -, hown, hts, hr, hlocks, -, -⟩ := id C
  have hS : va_S (AW G) s.heap s.heap [] := va_S.rf
  have hl := lv_entry [.ref (G.2.2 172)] (n := 2) (Nat.le_of_ble_eq_true rfl)
  rw [lg_entry_eq]
  generalize (lg_sl [.ref (G.2.2 172)] ++ List.replicate (2 - (lg_sl [.ref (G.2.2 172)]).length) Slot.unset).toArray = ls at hl ⊢
  have hl : lv_has ls 2 [(0, .ref (G.2.2 172))] := hl
  unfold fn_X12_load at h
  refine lv_iconst (v := 0) hx hb dX12_load_0 (by decide) ?_
  refine lv_istore_n (lv' := [(1, .int 0), (0, .ref (G.2.2 172))]) hx hb dX12_load_1 rfl hl (by decide) rfl (fun ls hl => ?_)
  exact pf_X12_load_2 C   fu 0 z  _ _ _ hP hS (lv_sub hl [1, 0] rfl) h
def fn_X12_areaOf (v1 : Int32) (z : St) : Option (Int32 × St) := gd (ix ((7 * v1) + 3) 171) (gd (ix ((7 * v1) + 4) 171) (gd (ix (7 * v1) 171) (gd (ix (z.1 198 (Int32.toNatClampNeg (7 * v1))) 3) (some ((((z.1 198 (Int32.toNatClampNeg ((7 * v1) + 3))) * (z.1 198 (Int32.toNatClampNeg ((7 * v1) + 4)))) * (z.1 190 (Int32.toNatClampNeg (z.1 198 (Int32.toNatClampNeg (7 * v1)))))), z)))))
set_option maxHeartbeats 4000000 in
set_option maxRecDepth 100000 in
theorem m_X12_areaOf {l : Launch} {G : wG} (hG : Ok G) {v1 : Int32} {z : St} {Rz : Int32 × St}  (h : fn_X12_areaOf  v1 z = some Rz) : Met l yX12_areaOf (wsU yX12_areaOf cX12_areaOf 2 (some .int)) (rmd 1) (va_Pc [.ref (G.2.2 172), .int v1] (Pre G z)) (va_Qi (fun r u => (r, u) = Rz) (Pre G) (AW G)) 0 0 (AW G) := by
  refine Met.ofW (cc := cX12_areaOf) (maxL := 2) (ret := (some .int)) (by decide) rfl ?_
  intro p e s m args below meth c s₁ B hml hv
  obtain ⟨rfl, hP, hK⟩ := hv
  have C : CX p s m ([.ref (G.2.2 172), .int v1] : List Value).toArray meth c cX12_areaOf 2 (wsU yX12_areaOf cX12_areaOf 2 (some .int)) RX12 (some .int) G := ⟨B.exec, B.bytes, hml, findClass_of_methodNamed B.named, atoms_spec (ws := (wsU yX12_areaOf cX12_areaOf 2 (some .int))) B.pre, B.returns, B.notSynchronized, hK, hG⟩
  obtain ⟨hx, hb, -, hown, hts, hr, hlocks, -, -⟩ := id C
  have hS : va_S (AW G) s.heap s.heap [] := va_S.rf
  have hl := lv_entry [.ref (G.2.2 172), .int v1] (n := 2) (Nat.le_of_ble_eq_true rfl)
  rw [lg_entry_eq]
  generalize (lg_sl [.ref (G.2.2 172), .int v1] ++ List.replicate (2 - (lg_sl [.ref (G.2.2 172), .int v1]).length) Slot.unset).toArray = ls at hl ⊢
  have hl : lv_has ls 2 [(0, .ref (G.2.2 172)), (1, .int v1)] := hl
  unfold fn_X12_areaOf at h
  refine lv_aload_n hx hb dX12_areaOf_0 rfl (lv_at hl 0 rfl) ?_
  refine ge_12_49 hx hb hts (inU inW_X12) hown hK hP k_172 (hts _ (List.mem_cons_of_mem _ lw_1483)) dX12_areaOf_1 ?_
  refine lv_bipush (v := 7) hx hb dX12_areaOf_4 (by decide) ?_
  refine lv_iload_n hx hb dX12_areaOf_6 rfl (lv_at hl 1 rfl) ?_
  refine lv_imul hx hb dX12_areaOf_7 ?_
  refine lv_iconst (v := 3) hx hb dX12_areaOf_8 (by decide) ?_
  refine lv_iadd hx hb dX12_areaOf_9 ?_
  obtain ⟨g1, h⟩ := gd_s h
  refine xl_14 hx hb hK hP k_198 l_198 (ix_in g1) dX12_areaOf_10 ?_
  refine lv_aload_n hx hb dX12_areaOf_11 rfl (lv_at hl 0 rfl) ?_
  refine ge_12_49 hx hb hts (inU inW_X12) hown hK hP k_172 (hts _ (List.mem_cons_of_mem _ lw_1483)) dX12_areaOf_12 ?_
  refine lv_bipush (v := 7) hx hb dX12_areaOf_15 (by decide) ?_
  refine lv_iload_n hx hb dX12_areaOf_17 rfl (lv_at hl 1 rfl) ?_
  refine lv_imul hx hb dX12_areaOf_18 ?_
  refine lv_iconst (v := 4) hx hb dX12_areaOf_19 (by decide) ?_
  refine lv_iadd hx hb dX12_areaOf_20 ?_
  obtain ⟨g2, h⟩ := gd_s h
  refine xl_14 hx hb hK hP k_198 l_198 (ix_in g2) dX12_areaOf_21 ?_
  refine lv_imul hx hb dX12_areaOf_22 ?_
  refine lv_aload_n hx hb dX12_areaOf_23 rfl (lv_at hl 0 rfl) ?_
  refine ge_12_32 hx hb hts (inU inW_X12) hown hK hP k_172 (hts _ (List.mem_cons_of_mem _ lw_1466)) dX12_areaOf_24 ?_
  refine lv_aload_n hx hb dX12_areaOf_27 rfl (lv_at hl 0 rfl) ?_
  refine ge_12_49 hx hb hts (inU inW_X12) hown hK hP k_172 (hts _ (List.mem_cons_of_mem _ lw_1483)) dX12_areaOf_28 ?_
  refine lv_bipush (v := 7) hx hb dX12_areaOf_31 (by decide) ?_
  refine lv_iload_n hx hb dX12_areaOf_33 rfl (lv_at hl 1 rfl) ?_
  refine lv_imul hx hb dX12_areaOf_34 ?_
  obtain ⟨g3, h⟩ := gd_s h
  refine xl_14 hx hb hK hP k_198 l_198 (ix_in g3) dX12_areaOf_35 ?_
  obtain ⟨g4, h⟩ := gd_s h
  refine xl_14 hx hb hK hP k_190 l_190 (ix_in g4) dX12_areaOf_36 ?_
  refine lv_imul hx hb dX12_areaOf_37 ?_
  exact x_iret hx hb hr hlocks hK hP hS h dX12_areaOf_38
def fn_X12_icingOf_132 (tv0 : Int32) (tv1 : Int32) (tv2 : Int32) (tv3 : Int32) (z : St) : Option (Int32 × St) := bd (fn_X12_truth  tv3 z) (fun r2 z3 => some ((tv0 + (tv1 * (tv2 + r2))), z3))
set_option maxHeartbeats 4000000 in
set_option maxRecDepth 100000 in
theorem pf_X12_icingOf_132 {p : Program} {l : Launch} {e : Env} {s : State} {m : MethodId} {args : Array Value} {below : List Frame} {meth : Method} {c : Code} {G : wG} (C : CX p s m args meth c cX12_icingOf 7 (wsU yX12_icingOf cX12_icingOf 7 (some .int)) RX12 (some .int) G) {Rz : Int32 × St} (tv0 : Int32) (tv1 : Int32) (tv2 : Int32) (tv3 : Int32) (z : St)  {H : Heap} {locs : List Loc} {ls : Array Slot} (hP : WP G z H) (hS : va_S (AW G) s.heap H locs) (hl : lv_has ls 7 []) (h : fn_X12_icingOf_132   tv0 tv1 tv2 tv3 z = some Rz) : W p l e (rmd 2) s m args below meth c H locs 0 0 (QI below args s G Rz) (F0 m 132 ls [.int tv3, .int tv2, .int tv1, .int tv0]) := by
  obtain ⟨hx, hb, hml, hown, hts, hr, hlocks, hK, hG⟩ := id C
  unfold fn_X12_icingOf_132 at h
  obtain ⟨r2, z3, h1, h⟩ := bd_s h
  refine x_Si (Rz := (r2, z3)) (As := [.int tv3]) (rest := [.int tv2, .int tv1, .int tv0]) ⟨hx, hb, hml, hown, hts⟩ hK hP hS (m_X12_truth hG   h1) (va_cwS 1 hts (gS lw_1842 lw_1843 lw_125 lw_1844) rfl rfl rfl (by decide +kernel) (rmd_ok (by decide) (by decide))) rfl hl.1 rfl (Nat.le_of_ble_eq_true rfl) dX12_icingOf_132 ⟨Nat.le_refl _, Nat.le_refl _⟩ (fun H locs hP hS => ?_)
  refine lv_iadd hx hb dX12_icingOf_135 ?_
  refine lv_imul hx hb dX12_icingOf_136 ?_
  refine lv_iadd hx hb dX12_icingOf_137 ?_
  exact x_iret hx hb hr hlocks hK hP hS h dX12_icingOf_138
def fn_X12_icingOf_111 (v2 : Int32) (v3 : Int32) (v5 : Int32) (tv0 : Int32) (tv1 : Int32) (tv2 : Int32) (z : St) : Option (Int32 × St) := bd (fn_X12_truth  tv2 z) (fun r2 z3 => gd (ix v2 3) ((if (v3 + v5) = (z3.1 188 (Int32.toNatClampNeg v2)) then fn_X12_icingOf_132   tv0 tv1 r2 1 z3 else fn_X12_icingOf_132   tv0 tv1 r2 0 z3)))
set_option maxHeartbeats 4000000 in
set_option maxRecDepth 100000 in
theorem pf_X12_icingOf_111 {p : Program} {l : Launch} {e : Env} {s : State} {m : MethodId} {args : Array Value} {below : List Frame} {meth : Method} {c : Code} {G : wG} (C : CX p s m args meth c cX12_icingOf 7 (wsU yX12_icingOf cX12_icingOf 7 (some .int)) RX12 (some .int) G) {Rz : Int32 × St} (v2 : Int32) (v3 : Int32) (v5 : Int32) (tv0 : Int32) (tv1 : Int32) (tv2 : Int32) (z : St)  {H : Heap} {locs : List Loc} {ls : Array Slot} (hP : WP G z H) (hS : va_S (AW G) s.heap H locs) (hl : lv_has ls 7 [(0, .ref (G.2.2 172)), (2, .int v2), (3, .int v3), (5, .int v5)]) (h : fn_X12_icingOf_111   v2 v3 v5 tv0 tv1 tv2 z = some Rz) : W p l e (rmd 2) s m args below meth c H locs 0 0 (QI below args s G Rz) (F0 m 111 ls [.int tv2, .int tv1, .int tv0]) := by
  obtain ⟨hx, hb, hml, hown, hts, hr, hlocks, hK, hG⟩ := id C
  unfold fn_X12_icingOf_111 at h
  obtain ⟨r2, z3, h1, h⟩ := bd_s h
  refine x_Si (Rz := (r2, z3)) (As := [.int tv2]) (rest := [.int tv1, .int tv0]) ⟨hx, hb, hml, hown, hts⟩ hK hP hS (m_X12_truth hG   h1) (va_cwS 1 hts (gS lw_1842 lw_1843 lw_125 lw_1844) rfl rfl rfl (by decide +kernel) (rmd_ok (by decide) (by decide))) rfl hl.1 rfl (Nat.le_of_ble_eq_true rfl) dX12_icingOf_111 ⟨Nat.le_refl _, Nat.le_refl _⟩ (fun H locs hP hS => ?_)
  refine lv_iload_n hx hb dX12_icingOf_114 rfl (lv_at hl 2 rfl) ?_
  refine lv_iload hx hb dX12_icingOf_115 (lv_at hl 3 rfl) ?_
  refine lv_iadd hx hb dX12_icingOf_117 ?_
  refine lv_aload_n hx hb dX12_icingOf_118 rfl (lv_at hl 0 rfl) ?_
  refine ge_12_30 hx hb hts (inU inW_X12) hown hK hP k_172 (hts _ (List.mem_cons_of_mem _ lw_1464)) dX12_icingOf_119 ?_
  refine lv_iload_n hx hb dX12_icingOf_122 rfl (lv_at hl 1 rfl) ?_
  obtain ⟨g4, h⟩ := gd_s h
  refine xl_14 hx hb hK hP k_188 l_188 (ix_in g4) dX12_icingOf_123 ?_
  refine lv_icmp_ne (tgt := 131) hx hb dX12_icingOf_124 (by decide) (fun c5 => ?_) (fun c5 => ?_)
  · rw [if_neg c5] at h
    refine lv_iconst (v := 0) hx hb dX12_icingOf_131 (by decide) ?_
    exact pf_X12_icingOf_132 C   tv0 tv1 r2 0 z3  hP hS (lv_sub hl [] rfl) h
  · rw [if_pos c5] at h
    refine lv_iconst (v := 1) hx hb dX12_icingOf_127 (by decide) ?_
    refine lv_goto (tgt := 132) hx hb dX12_icingOf_128 (by decide) ?_
    exact pf_X12_icingOf_132 C   tv0 tv1 r2 1 z3  hP hS (lv_sub hl [] rfl) h
def fn_X12_icingOf_95 (v2 : Int32) (v3 : Int32) (v5 : Int32) (v6 : Int32) (tv0 : Int32) (tv1 : Int32) (tv2 : Int32) (z : St) : Option (Int32 × St) := bd (fn_X12_truth  tv2 z) (fun r2 z3 => (if v3 = 0 then fn_X12_icingOf_111   v2 v3 v5 (tv0 * (tv1 + r2)) v6 1 z3 else fn_X12_icingOf_111   v2 v3 v5 (tv0 * (tv1 + r2)) v6 0 z3))
set_option maxHeartbeats 4000000 in
set_option maxRecDepth 100000 in
theorem pf_X12_icingOf_95 {p : Program} {l : Launch} {e : Env} {s : State} {m : MethodId} {args : Array Value} {below : List Frame} {meth : Method} {c : Code} {G : wG} (C : CX p s m args meth c cX12_icingOf 7 (wsU yX12_icingOf cX12_icingOf 7 (some .int)) RX12 (some .int) G) {Rz : Int32 × St} (v2 : Int32) (v3 : Int32) (v5 : Int32) (v6 : Int32) (tv0 : Int32) (tv1 : Int32) (tv2 : Int32) (z : St)  {H : Heap} {locs : List Loc} {ls : Array Slot} (hP : WP G z H) (hS : va_S (AW G) s.heap H locs) (hl : lv_has ls 7 [(0, .ref (G.2.2 172)), (2, .int v2), (3, .int v3), (5, .int v5), (6, .int v6)]) (h : fn_X12_icingOf_95   v2 v3 v5 v6 tv0 tv1 tv2 z = some Rz) : W p l e (rmd 2) s m args below meth c H locs 0 0 (QI below args s G Rz) (F0 m 95 ls [.int tv2, .int tv1, .int tv0]) := by
  obtain ⟨hx, hb, hml, hown, hts, hr, hlocks, hK, hG⟩ := id C
  unfold fn_X12_icingOf_95 at h
  obtain ⟨r2, z3, h1, h⟩ := bd_s h
  refine x_Si (Rz := (r2, z3)) (As := [.int tv2]) (rest := [.int tv1, .int tv0]) ⟨hx, hb, hml, hown, hts⟩ hK hP hS (m_X12_truth hG   h1) (va_cwS 1 hts (gS lw_1842 lw_1843 lw_125 lw_1844) rfl rfl rfl (by decide +kernel) (rmd_ok (by decide) (by decide))) rfl hl.1 rfl (Nat.le_of_ble_eq_true rfl) dX12_icingOf_95 ⟨Nat.le_refl _, Nat.le_refl _⟩ (fun H locs hP hS => ?_)
  refine lv_iadd hx hb dX12_icingOf_98 ?_
  refine lv_imul hx hb dX12_icingOf_99 ?_
  refine lv_iload hx hb dX12_icingOf_100 (lv_at hl 4 rfl) ?_
  refine lv_iload_n hx hb dX12_icingOf_102 rfl (lv_at hl 2 rfl) ?_
  refine lv_if_ne (tgt := 110) hx hb dX12_icingOf_103 (by decide) (fun c4 => ?_) (fun c4 => ?_)
  · rw [if_neg c4] at h
    refine lv_iconst (v := 0) hx hb dX12_icingOf_110 (by decide) ?_
    exact pf_X12_icingOf_111 C   v2 v3 v5 (tv0 * (tv1 + r2)) v6 0 z3  hP hS (lv_sub hl [0, 1, 2, 3] rfl) h
  · rw [if_pos c4] at h
    refine lv_iconst (v := 1) hx hb dX12_icingOf_106 (by decide) ?_
    refine lv_goto (tgt := 111) hx hb dX12_icingOf_107 (by decide) ?_
    exact pf_X12_icingOf_111 C   v2 v3 v5 (tv0 * (tv1 + r2)) v6 1 z3  hP hS (lv_sub hl [0, 1, 2, 3] rfl) h
def fn_X12_icingOf_73 (v2 : Int32) (v3 : Int32) (v4 : Int32) (v5 : Int32) (v6 : Int32) (tv0 : Int32) (tv1 : Int32) (z : St) : Option (Int32 × St) := bd (fn_X12_truth  tv1 z) (fun r2 z3 => gd (ix v2 3) ((if (v4 + v6) = (z3.1 189 (Int32.toNatClampNeg v2)) then fn_X12_icingOf_95   v2 v3 v5 v6 tv0 r2 1 z3 else fn_X12_icingOf_95   v2 v3 v5 v6 tv0 r2 0 z3)))
set_option maxHeartbeats 4000000 in
set_option maxRecDepth 100000 in
theorem pf_X12_icingOf_73 {p : Program} {l : Launch} {e : Env} {s : State} {m : MethodId} {args : Array Value} {below : List Frame} {meth : Method} {c : Code} {G : wG} (C : CX p s m args meth c cX12_icingOf 7 (wsU yX12_icingOf cX12_icingOf 7 (some .int)) RX12 (some .int) G) {Rz : Int32 × St} (v2 : Int32) (v3 : Int32) (v4 : Int32) (v5 : Int32) (v6 : Int32) (tv0 : Int32) (tv1 : Int32) (z : St)  {H : Heap} {locs : List Loc} {ls : Array Slot} (hP : WP G z H) (hS : va_S (AW G) s.heap H locs) (hl : lv_has ls 7 [(0, .ref (G.2.2 172)), (2, .int v2), (3, .int v3), (4, .int v4), (5, .int v5), (6, .int v6)]) (h : fn_X12_icingOf_73   v2 v3 v4 v5 v6 tv0 tv1 z = some Rz) : W p l e (rmd 2) s m args below meth c H locs 0 0 (QI below args s G Rz) (F0 m 73 ls [.int tv1, .int tv0]) := by
  obtain ⟨hx, hb, hml, hown, hts, hr, hlocks, hK, hG⟩ := id C
  unfold fn_X12_icingOf_73 at h
  obtain ⟨r2, z3, h1, h⟩ := bd_s h
  refine x_Si (Rz := (r2, z3)) (As := [.int tv1]) (rest := [.int tv0]) ⟨hx, hb, hml, hown, hts⟩ hK hP hS (m_X12_truth hG   h1) (va_cwS 1 hts (gS lw_1842 lw_1843 lw_125 lw_1844) rfl rfl rfl (by decide +kernel) (rmd_ok (by decide) (by decide))) rfl hl.1 rfl (Nat.le_of_ble_eq_true rfl) dX12_icingOf_73 ⟨Nat.le_refl _, Nat.le_refl _⟩ (fun H locs hP hS => ?_)
  refine lv_iload hx hb dX12_icingOf_76 (lv_at hl 3 rfl) ?_
  refine lv_iload hx hb dX12_icingOf_78 (lv_at hl 5 rfl) ?_
  refine lv_iadd hx hb dX12_icingOf_80 ?_
  refine lv_aload_n hx hb dX12_icingOf_81 rfl (lv_at hl 0 rfl) ?_
  refine ge_12_31 hx hb hts (inU inW_X12) hown hK hP k_172 (hts _ (List.mem_cons_of_mem _ lw_1465)) dX12_icingOf_82 ?_
  refine lv_iload_n hx hb dX12_icingOf_85 rfl (lv_at hl 1 rfl) ?_
  obtain ⟨g4, h⟩ := gd_s h
  refine xl_14 hx hb hK hP k_189 l_189 (ix_in g4) dX12_icingOf_86 ?_
  refine lv_icmp_ne (tgt := 94) hx hb dX12_icingOf_87 (by decide) (fun c5 => ?_) (fun c5 => ?_)
  · rw [if_neg c5] at h
    refine lv_iconst (v := 0) hx hb dX12_icingOf_94 (by decide) ?_
    exact pf_X12_icingOf_95 C   v2 v3 v5 v6 tv0 r2 0 z3  hP hS (lv_sub hl [0, 1, 2, 4, 5] rfl) h
  · rw [if_pos c5] at h
    refine lv_iconst (v := 1) hx hb dX12_icingOf_90 (by decide) ?_
    refine lv_goto (tgt := 95) hx hb dX12_icingOf_91 (by decide) ?_
    exact pf_X12_icingOf_95 C   v2 v3 v5 v6 tv0 r2 1 z3  hP hS (lv_sub hl [0, 1, 2, 4, 5] rfl) h
def fn_X12_icingOf (v1 : Int32) (z : St) : Option (Int32 × St) := gd (ix (7 * v1) 171) (nm (z.1 198 (Int32.toNatClampNeg (7 * v1))) (fun v2_2 => gd (ix ((7 * v1) + 1) 171) (nm (z.1 198 (Int32.toNatClampNeg ((7 * v1) + 1))) (fun v3_4 => gd (ix ((7 * v1) + 2) 171) (nm (z.1 198 (Int32.toNatClampNeg ((7 * v1) + 2))) (fun v4_6 => gd (ix ((7 * v1) + 3) 171) (nm (z.1 198 (Int32.toNatClampNeg ((7 * v1) + 3))) (fun v5_8 => gd (ix ((7 * v1) + 4) 171) (nm (z.1 198 (Int32.toNatClampNeg ((7 * v1) + 4))) (fun v6_10 => (if v4_6 = 0 then fn_X12_icingOf_73   v2_2 v3_4 v4_6 v5_8 v6_10 v5_8 1 z else fn_X12_icingOf_73   v2_2 v3_4 v4_6 v5_8 v6_10 v5_8 0 z)))))))))))
set_option maxHeartbeats 4000000 in
set_option maxRecDepth 100000 in
theorem m_X12_icingOf {l : Launch} {G : wG} (hG : Ok G) {v1 : Int32} {z : St} {Rz : Int32 × St}  (h : fn_X12_icingOf  v1 z = some Rz) : Met l yX12_icingOf (wsU yX12_icingOf cX12_icingOf 7 (some .int)) (rmd 2) (va_Pc [.ref (G.2.2 172), .int v1] (Pre G z)) (va_Qi (fun r u => (r, u) = Rz) (Pre G) (AW G)) 0 0 (AW G) := by
  refine Met.ofW (cc := cX12_icingOf) (maxL := 7) (ret := (some .int)) (by decide) rfl ?_
  intro p e s m args below meth c s₁ B hml hv
  obtain ⟨rfl, hP, hK⟩ := hv
  have C : CX p s m ([.ref (G.2.2 172), .int v1] : List Value).toArray meth c cX12_icingOf 7 (wsU yX12_icingOf cX12_icingOf 7 (some .int)) RX12 (some .int) G := ⟨B.exec, B.bytes, hml, findClass_of_methodNamed B.named, atoms_spec (ws := (wsU yX12_icingOf cX12_icingOf 7 (some .int))) B.pre, B.returns, B.notSynchronized, hK, hG⟩
  obtain ⟨hx, hb, -, hown, hts, hr, hlocks, -, -⟩ := id C
  have hS : va_S (AW G) s.heap s.heap [] := va_S.rf
  have hl := lv_entry [.ref (G.2.2 172), .int v1] (n := 7) (Nat.le_of_ble_eq_true rfl)
  rw [lg_entry_eq]
  generalize (lg_sl [.ref (G.2.2 172), .int v1] ++ List.replicate (7 - (lg_sl [.ref (G.2.2 172), .int v1]).length) Slot.unset).toArray = ls at hl ⊢
  have hl : lv_has ls 7 [(0, .ref (G.2.2 172)), (1, .int v1)] := hl
  unfold fn_X12_icingOf at h
  refine lv_aload_n hx hb dX12_icingOf_0 rfl (lv_at hl 0 rfl) ?_
  refine ge_12_49 hx hb hts (inU inW_X12) hown hK hP k_172 (hts _ (List.mem_cons_of_mem _ lw_1483)) dX12_icingOf_1 ?_
  refine lv_bipush (v := 7) hx hb dX12_icingOf_4 (by decide) ?_
  refine lv_iload_n hx hb dX12_icingOf_6 rfl (lv_at hl 1 rfl) ?_
  refine lv_imul hx hb dX12_icingOf_7 ?_
  obtain ⟨g1, h⟩ := gd_s h
  refine xl_14 hx hb hK hP k_198 l_198 (ix_in g1) dX12_icingOf_8 ?_
  obtain ⟨v2_2, e_v2_2, h⟩ := nm_s h
  refine x_top e_v2_2 ?_
  refine lv_istore_n (lv' := [(2, .int v2_2), (0, .ref (G.2.2 172)), (1, .int v1)]) hx hb dX12_icingOf_9 rfl hl (by decide) rfl (fun ls hl => ?_)
  refine lv_aload_n hx hb dX12_icingOf_10 rfl (lv_at hl 1 rfl) ?_
  refine ge_12_49 hx hb hts (inU inW_X12) hown hK hP k_172 (hts _ (List.mem_cons_of_mem _ lw_1483)) dX12_icingOf_11 ?_
  refine lv_bipush (v := 7) hx hb dX12_icingOf_14 (by decide) ?_
  refine lv_iload_n hx hb dX12_icingOf_16 rfl (lv_at hl 2 rfl) ?_
  refine lv_imul hx hb dX12_icingOf_17 ?_
  refine lv_iconst (v := 1) hx hb dX12_icingOf_18 (by decide) ?_
  refine lv_iadd hx hb dX12_icingOf_19 ?_
  obtain ⟨g3, h⟩ := gd_s h
  refine xl_14 hx hb hK hP k_198 l_198 (ix_in g3) dX12_icingOf_20 ?_
  obtain ⟨v3_4, e_v3_4, h⟩ := nm_s h
  refine x_top e_v3_4 ?_
  refine lv_istore_n (lv' := [(3, .int v3_4), (2, .int v2_2), (0, .ref (G.2.2 172)), (1, .int v1)]) hx hb dX12_icingOf_21 rfl hl (by decide) rfl (fun ls hl => ?_)
  refine lv_aload_n hx hb dX12_icingOf_22 rfl (lv_at hl 2 rfl) ?_
  refine ge_12_49 hx hb hts (inU inW_X12) hown hK hP k_172 (hts _ (List.mem_cons_of_mem _ lw_1483)) dX12_icingOf_23 ?_
  refine lv_bipush (v := 7) hx hb dX12_icingOf_26 (by decide) ?_
  refine lv_iload_n hx hb dX12_icingOf_28 rfl (lv_at hl 3 rfl) ?_
  refine lv_imul hx hb dX12_icingOf_29 ?_
  refine lv_iconst (v := 2) hx hb dX12_icingOf_30 (by decide) ?_
  refine lv_iadd hx hb dX12_icingOf_31 ?_
  obtain ⟨g5, h⟩ := gd_s h
  refine xl_14 hx hb hK hP k_198 l_198 (ix_in g5) dX12_icingOf_32 ?_
  obtain ⟨v4_6, e_v4_6, h⟩ := nm_s h
  refine x_top e_v4_6 ?_
  refine lv_istore (lv' := [(4, .int v4_6), (3, .int v3_4), (2, .int v2_2), (0, .ref (G.2.2 172)), (1, .int v1)]) hx hb dX12_icingOf_33 hl (by decide) rfl (fun ls hl => ?_)
  refine lv_aload_n hx hb dX12_icingOf_35 rfl (lv_at hl 3 rfl) ?_
  refine ge_12_49 hx hb hts (inU inW_X12) hown hK hP k_172 (hts _ (List.mem_cons_of_mem _ lw_1483)) dX12_icingOf_36 ?_
  refine lv_bipush (v := 7) hx hb dX12_icingOf_39 (by decide) ?_
  refine lv_iload_n hx hb dX12_icingOf_41 rfl (lv_at hl 4 rfl) ?_
  refine lv_imul hx hb dX12_icingOf_42 ?_
  refine lv_iconst (v := 3) hx hb dX12_icingOf_43 (by decide) ?_
  refine lv_iadd hx hb dX12_icingOf_44 ?_
  obtain ⟨g7, h⟩ := gd_s h
  refine xl_14 hx hb hK hP k_198 l_198 (ix_in g7) dX12_icingOf_45 ?_
  obtain ⟨v5_8, e_v5_8, h⟩ := nm_s h
  refine x_top e_v5_8 ?_
  refine lv_istore (lv' := [(5, .int v5_8), (4, .int v4_6), (3, .int v3_4), (2, .int v2_2), (0, .ref (G.2.2 172)), (1, .int v1)]) hx hb dX12_icingOf_46 hl (by decide) rfl (fun ls hl => ?_)
  refine lv_aload_n hx hb dX12_icingOf_48 rfl (lv_at hl 4 rfl) ?_
  refine ge_12_49 hx hb hts (inU inW_X12) hown hK hP k_172 (hts _ (List.mem_cons_of_mem _ lw_1483)) dX12_icingOf_49 ?_
  refine lv_bipush (v := 7) hx hb dX12_icingOf_52 (by decide) ?_
  refine lv_iload_n hx hb dX12_icingOf_54 rfl (lv_at hl 5 rfl) ?_
  refine lv_imul hx hb dX12_icingOf_55 ?_
  refine lv_iconst (v := 4) hx hb dX12_icingOf_56 (by decide) ?_
  refine lv_iadd hx hb dX12_icingOf_57 ?_
  obtain ⟨g9, h⟩ := gd_s h
  refine xl_14 hx hb hK hP k_198 l_198 (ix_in g9) dX12_icingOf_58 ?_
  obtain ⟨v6_10, e_v6_10, h⟩ := nm_s h
  refine x_top e_v6_10 ?_
  refine lv_istore (lv' := [(6, .int v6_10), (5, .int v5_8), (4, .int v4_6), (3, .int v3_4), (2, .int v2_2), (0, .ref (G.2.2 172)), (1, .int v1)]) hx hb dX12_icingOf_59 hl (by decide) rfl (fun ls hl => ?_)
  refine lv_iload hx hb dX12_icingOf_61 (lv_at hl 1 rfl) ?_
  refine lv_iload hx hb dX12_icingOf_63 (lv_at hl 2 rfl) ?_
  refine lv_if_ne (tgt := 72) hx hb dX12_icingOf_65 (by decide) (fun c11 => ?_) (fun c11 => ?_)
  · rw [if_neg c11] at h
    refine lv_iconst (v := 0) hx hb dX12_icingOf_72 (by decide) ?_
    exact pf_X12_icingOf_73 C   v2_2 v3_4 v4_6 v5_8 v6_10 v5_8 0 z  hP hS (lv_sub hl [5, 4, 3, 2, 1, 0] rfl) h
  · rw [if_pos c11] at h
    refine lv_iconst (v := 1) hx hb dX12_icingOf_68 (by decide) ?_
    refine lv_goto (tgt := 73) hx hb dX12_icingOf_69 (by decide) ?_
    exact pf_X12_icingOf_73 C   v2_2 v3_4 v4_6 v5_8 v6_10 v5_8 1 z  hP hS (lv_sub hl [5, 4, 3, 2, 1, 0] rfl) h
def fn_X12_askOf (v1 : Int32) (v2 : Int32) (v3 : Int32) (z : St) : Option (St) := bd (fn_X12_areaOf  v1 z) (fun r2 z3 => nm (sI z3 184 (Int32.toNatClampNeg 0) r2) (fun z4 => bd (fn_X12_icingOf  v1 z4) (fun r6 z7 => nm (sI z7 184 (Int32.toNatClampNeg 1) r6) (fun z8 => nm (sI z8 184 (Int32.toNatClampNeg 2) v2) (fun z9 => gd (ix ((7 * v1) + 5) 171) (nm (sI z9 184 (Int32.toNatClampNeg 3) (z9.1 198 (Int32.toNatClampNeg ((7 * v1) + 5)))) (fun z11 => nm (sI z11 184 (Int32.toNatClampNeg 4) v3) (fun z12 => nm (sI z12 184 (Int32.toNatClampNeg 5) (z12.1 198 (Int32.toNatClampNeg 169))) (fun z13 => some z13)))))))))
set_option maxHeartbeats 4000000 in
set_option maxRecDepth 100000 in
theorem m_X12_askOf {l : Launch} {G : wG} (hG : Ok G) {v1 : Int32} {v2 : Int32} {v3 : Int32} {z : St} {Rz : St}  (h : fn_X12_askOf  v1 v2 v3 z = some Rz) : Met l yX12_askOf (wsU yX12_askOf cX12_askOf 4 none) (rmd 3) (va_Pc [.ref (G.2.2 172), .int v1, .int v2, .int v3] (Pre G z)) (va_Qv (fun u => u = Rz) (Pre G) (AW G)) 0 0 (AW G) := by
  refine Met.ofW (cc := cX12_askOf) (maxL := 4) (ret := none) (by decide) rfl ?_
  intro p e s m args below meth c s₁ B hml hv
  obtain ⟨rfl, hP, hK⟩ := hv
  have C : CX p s m ([.ref (G.2.2 172), .int v1, .int v2, .int v3] : List Value).toArray meth c cX12_askOf 4 (wsU yX12_askOf cX12_askOf 4 none) RX12 none G := ⟨B.exec, B.bytes, hml, findClass_of_methodNamed B.named, atoms_spec (ws := (wsU yX12_askOf cX12_askOf 4 none)) B.pre, B.returns, B.notSynchronized, hK, hG⟩
  obtain ⟨hx, hb, -, hown, hts, hr, hlocks, -, -⟩ := id C
  have hS : va_S (AW G) s.heap s.heap [] := va_S.rf
  have hl := lv_entry [.ref (G.2.2 172), .int v1, .int v2, .int v3] (n := 4) (Nat.le_of_ble_eq_true rfl)
  rw [lg_entry_eq]
  generalize (lg_sl [.ref (G.2.2 172), .int v1, .int v2, .int v3] ++ List.replicate (4 - (lg_sl [.ref (G.2.2 172), .int v1, .int v2, .int v3]).length) Slot.unset).toArray = ls at hl ⊢
  have hl : lv_has ls 4 [(0, .ref (G.2.2 172)), (1, .int v1), (2, .int v2), (3, .int v3)] := hl
  unfold fn_X12_askOf at h
  refine lv_aload_n hx hb dX12_askOf_0 rfl (lv_at hl 0 rfl) ?_
  refine ge_12_26 hx hb hts (inU inW_X12) hown hK hP k_172 (hts _ (List.mem_cons_of_mem _ lw_1460)) dX12_askOf_1 ?_
  refine lv_iconst (v := 0) hx hb dX12_askOf_4 (by decide) ?_
  refine lv_aload_n hx hb dX12_askOf_5 rfl (lv_at hl 0 rfl) ?_
  refine lv_iload_n hx hb dX12_askOf_6 rfl (lv_at hl 1 rfl) ?_
  obtain ⟨r2, z3, h1, h⟩ := bd_s h
  refine x_Vi (Rz := (r2, z3)) (As := [.int v1]) (rest := [.int 0, .ref (G.2.2 184)]) ⟨hx, hb, hml, hown, hts⟩ hK hP hS (kd_lt k_172 (by decide)) (cell_12 k_172) rfl (m_X12_areaOf hG   h1) (cwV 1 hts (gV lw_1834 lw_1836 lw_74 lw_125 lw_1837) rfl rfl rfl (by decide +kernel) (rmd_ok (by decide) (by decide))) rfl hl.1 rfl (Nat.le_of_ble_eq_true rfl) dX12_askOf_7 ⟨Nat.le_refl _, Nat.le_refl _⟩ (fun H locs hP hS => ?_)
  obtain ⟨z4, e_z4, h⟩ := nm_s h
  refine xs_14 hx hb hK hG hP hS k_184 l_184 (ix_in (by decide)) dX12_askOf_10 (fun H locs hP hS => ?_)
  rw [← e_z4] at hP
  refine lv_aload_n hx hb dX12_askOf_11 rfl (lv_at hl 0 rfl) ?_
  refine ge_12_26 hx hb hts (inU inW_X12) hown hK hP k_172 (hts _ (List.mem_cons_of_mem _ lw_1460)) dX12_askOf_12 ?_
  refine lv_iconst (v := 1) hx hb dX12_askOf_15 (by decide) ?_
  refine lv_aload_n hx hb dX12_askOf_16 rfl (lv_at hl 0 rfl) ?_
  refine lv_iload_n hx hb dX12_askOf_17 rfl (lv_at hl 1 rfl) ?_
  obtain ⟨r6, z7, h5, h⟩ := bd_s h
  refine x_Vi (Rz := (r6, z7)) (As := [.int v1]) (rest := [.int 1, .ref (G.2.2 184)]) ⟨hx, hb, hml, hown, hts⟩ hK hP hS (kd_lt k_172 (by decide)) (cell_12 k_172) rfl (m_X12_icingOf hG   h5) (cwV 1 hts (gV lw_1838 lw_1840 lw_75 lw_125 lw_1841) rfl rfl rfl (by decide +kernel) (rmd_ok (by decide) (by decide))) rfl hl.1 rfl (Nat.le_of_ble_eq_true rfl) dX12_askOf_18 ⟨Nat.le_refl _, Nat.le_refl _⟩ (fun H locs hP hS => ?_)
  obtain ⟨z8, e_z8, h⟩ := nm_s h
  refine xs_14 hx hb hK hG hP hS k_184 l_184 (ix_in (by decide)) dX12_askOf_21 (fun H locs hP hS => ?_)
  rw [← e_z8] at hP
  refine lv_aload_n hx hb dX12_askOf_22 rfl (lv_at hl 0 rfl) ?_
  refine ge_12_26 hx hb hts (inU inW_X12) hown hK hP k_172 (hts _ (List.mem_cons_of_mem _ lw_1460)) dX12_askOf_23 ?_
  refine lv_iconst (v := 2) hx hb dX12_askOf_26 (by decide) ?_
  refine lv_iload_n hx hb dX12_askOf_27 rfl (lv_at hl 2 rfl) ?_
  obtain ⟨z9, e_z9, h⟩ := nm_s h
  refine xs_14 hx hb hK hG hP hS k_184 l_184 (ix_in (by decide)) dX12_askOf_28 (fun H locs hP hS => ?_)
  rw [← e_z9] at hP
  refine lv_aload_n hx hb dX12_askOf_29 rfl (lv_at hl 0 rfl) ?_
  refine ge_12_26 hx hb hts (inU inW_X12) hown hK hP k_172 (hts _ (List.mem_cons_of_mem _ lw_1460)) dX12_askOf_30 ?_
  refine lv_iconst (v := 3) hx hb dX12_askOf_33 (by decide) ?_
  refine lv_aload_n hx hb dX12_askOf_34 rfl (lv_at hl 0 rfl) ?_
  refine ge_12_49 hx hb hts (inU inW_X12) hown hK hP k_172 (hts _ (List.mem_cons_of_mem _ lw_1483)) dX12_askOf_35 ?_
  refine lv_bipush (v := 7) hx hb dX12_askOf_38 (by decide) ?_
  refine lv_iload_n hx hb dX12_askOf_40 rfl (lv_at hl 1 rfl) ?_
  refine lv_imul hx hb dX12_askOf_41 ?_
  refine lv_iconst (v := 5) hx hb dX12_askOf_42 (by decide) ?_
  refine lv_iadd hx hb dX12_askOf_43 ?_
  obtain ⟨g10, h⟩ := gd_s h
  refine xl_14 hx hb hK hP k_198 l_198 (ix_in g10) dX12_askOf_44 ?_
  obtain ⟨z11, e_z11, h⟩ := nm_s h
  refine xs_14 hx hb hK hG hP hS k_184 l_184 (ix_in (by decide)) dX12_askOf_45 (fun H locs hP hS => ?_)
  rw [← e_z11] at hP
  refine lv_aload_n hx hb dX12_askOf_46 rfl (lv_at hl 0 rfl) ?_
  refine ge_12_26 hx hb hts (inU inW_X12) hown hK hP k_172 (hts _ (List.mem_cons_of_mem _ lw_1460)) dX12_askOf_47 ?_
  refine lv_iconst (v := 4) hx hb dX12_askOf_50 (by decide) ?_
  refine lv_iload_n hx hb dX12_askOf_51 rfl (lv_at hl 3 rfl) ?_
  obtain ⟨z12, e_z12, h⟩ := nm_s h
  refine xs_14 hx hb hK hG hP hS k_184 l_184 (ix_in (by decide)) dX12_askOf_52 (fun H locs hP hS => ?_)
  rw [← e_z12] at hP
  refine lv_aload_n hx hb dX12_askOf_53 rfl (lv_at hl 0 rfl) ?_
  refine ge_12_26 hx hb hts (inU inW_X12) hown hK hP k_172 (hts _ (List.mem_cons_of_mem _ lw_1460)) dX12_askOf_54 ?_
  refine lv_iconst (v := 5) hx hb dX12_askOf_57 (by decide) ?_
  refine lv_aload_n hx hb dX12_askOf_58 rfl (lv_at hl 0 rfl) ?_
  refine ge_12_49 hx hb hts (inU inW_X12) hown hK hP k_172 (hts _ (List.mem_cons_of_mem _ lw_1483)) dX12_askOf_59 ?_
  refine lv_sipush (v := 169) hx hb dX12_askOf_62 (by decide) ?_
  refine xl_14 hx hb hK hP k_198 l_198 (ix_in (by decide)) dX12_askOf_65 ?_
  obtain ⟨z13, e_z13, h⟩ := nm_s h
  refine xs_14 hx hb hK hG hP hS k_184 l_184 (ix_in (by decide)) dX12_askOf_66 (fun H locs hP hS => ?_)
  rw [← e_z13] at hP
  exact x_vret hx hb hr hlocks hK hP hS h dX12_askOf_67
def fn_X12_worthOf (v1 : Int32) (v2 : Int32) (z : St) : Option (Int32 × St) := gd (ix v1 6) (bv (fn_X12_askOf  v2 (z.1 195 (Int32.toNatClampNeg v1)) 0 z) (fun z3 => bd (fn_X12_worked  0 (z3.1 184 (Int32.toNatClampNeg 0)) z3) (fun r5 z6 => some (r5, z6))))
set_option maxHeartbeats 4000000 in
set_option maxRecDepth 100000 in
theorem m_X12_worthOf {l : Launch} {G : wG} (hG : Ok G) {v1 : Int32} {v2 : Int32} {z : St} {Rz : Int32 × St}  (h : fn_X12_worthOf  v1 v2 z = some Rz) : Met l yX12_worthOf (wsU yX12_worthOf cX12_worthOf 3 (some .int)) (rmd 4) (va_Pc [.ref (G.2.2 172), .int v1, .int v2] (Pre G z)) (va_Qi (fun r u => (r, u) = Rz) (Pre G) (AW G)) 0 0 (AW G) := by
  refine Met.ofW (cc := cX12_worthOf) (maxL := 3) (ret := (some .int)) (by decide) rfl ?_
  intro p e s m args below meth c s₁ B hml hv
  obtain ⟨rfl, hP, hK⟩ := hv
  have C : CX p s m ([.ref (G.2.2 172), .int v1, .int v2] : List Value).toArray meth c cX12_worthOf 3 (wsU yX12_worthOf cX12_worthOf 3 (some .int)) RX12 (some .int) G := ⟨B.exec, B.bytes, hml, findClass_of_methodNamed B.named, atoms_spec (ws := (wsU yX12_worthOf cX12_worthOf 3 (some .int))) B.pre, B.returns, B.notSynchronized, hK, hG⟩
  obtain ⟨hx, hb, -, hown, hts, hr, hlocks, -, -⟩ := id C
  have hS : va_S (AW G) s.heap s.heap [] := va_S.rf
  have hl := lv_entry [.ref (G.2.2 172), .int v1, .int v2] (n := 3) (Nat.le_of_ble_eq_true rfl)
  rw [lg_entry_eq]
  generalize (lg_sl [.ref (G.2.2 172), .int v1, .int v2] ++ List.replicate (3 - (lg_sl [.ref (G.2.2 172), .int v1, .int v2]).length) Slot.unset).toArray = ls at hl ⊢
  have hl : lv_has ls 3 [(0, .ref (G.2.2 172)), (1, .int v1), (2, .int v2)] := hl
  unfold fn_X12_worthOf at h
  refine lv_aload_n hx hb dX12_worthOf_0 rfl (lv_at hl 0 rfl) ?_
  refine lv_iload_n hx hb dX12_worthOf_1 rfl (lv_at hl 2 rfl) ?_
  refine lv_aload_n hx hb dX12_worthOf_2 rfl (lv_at hl 0 rfl) ?_
  refine ge_12_37 hx hb hts (inU inW_X12) hown hK hP k_172 (hts _ (List.mem_cons_of_mem _ lw_1471)) dX12_worthOf_3 ?_
  refine lv_iload_n hx hb dX12_worthOf_6 rfl (lv_at hl 1 rfl) ?_
  obtain ⟨g1, h⟩ := gd_s h
  refine xl_14 hx hb hK hP k_195 l_195 (ix_in g1) dX12_worthOf_7 ?_
  refine lv_iconst (v := 0) hx hb dX12_worthOf_8 (by decide) ?_
  obtain ⟨z3, h2, h⟩ := bv_s h
  refine x_Vv (Rz := z3) (As := [.int v2, .int (z.1 195 (Int32.toNatClampNeg v1)), .int 0]) (rest := []) ⟨hx, hb, hml, hown, hts⟩ hK hP hS (kd_lt k_172 (by decide)) (cell_12 k_172) rfl (m_X12_askOf hG   h2) (cwV 3 hts (gV lw_1861 lw_1863 lw_79 lw_125 lw_1864) rfl rfl rfl (by decide +kernel) (rmd_ok (by decide) (by decide))) rfl hl.1 rfl (Nat.le_of_ble_eq_true rfl) dX12_worthOf_9 ⟨Nat.le_refl _, Nat.le_refl _⟩ (fun H locs hP hS => ?_)
  refine lv_aload_n hx hb dX12_worthOf_12 rfl (lv_at hl 0 rfl) ?_
  refine lv_iconst (v := 0) hx hb dX12_worthOf_13 (by decide) ?_
  refine lv_aload_n hx hb dX12_worthOf_14 rfl (lv_at hl 0 rfl) ?_
  refine ge_12_26 hx hb hts (inU inW_X12) hown hK hP k_172 (hts _ (List.mem_cons_of_mem _ lw_1460)) dX12_worthOf_15 ?_
  refine lv_iconst (v := 0) hx hb dX12_worthOf_18 (by decide) ?_
  refine xl_14 hx hb hK hP k_184 l_184 (ix_in (by decide)) dX12_worthOf_19 ?_
  obtain ⟨r5, z6, h4, h⟩ := bd_s h
  refine x_Vi (Rz := (r5, z6)) (As := [.int 0, .int (z3.1 184 (Int32.toNatClampNeg 0))]) (rest := []) ⟨hx, hb, hml, hown, hts⟩ hK hP hS (kd_lt k_172 (by decide)) (cell_12 k_172) rfl (m_X12_worked hG   h4) (cwV 2 hts (gV lw_1865 lw_1867 lw_80 lw_125 lw_1868) rfl rfl rfl (by decide +kernel) (rmd_ok (by decide) (by decide))) rfl hl.1 rfl (Nat.le_of_ble_eq_true rfl) dX12_worthOf_20 ⟨Nat.le_refl _, Nat.le_refl _⟩ (fun H locs hP hS => ?_)
  exact x_iret hx hb hr hlocks hK hP hS h dX12_worthOf_23
def fn_X12_isFree (v1 : Int32) (z : St) : Option (Int32 × St) := gd (ix ((7 * v1) + 6) 171) ((if (z.1 198 (Int32.toNatClampNeg ((7 * v1) + 6))) = (-1) then some (1, z) else some (0, z)))
set_option maxHeartbeats 4000000 in
set_option maxRecDepth 100000 in
theorem m_X12_isFree {l : Launch} {G : wG} (hG : Ok G) {v1 : Int32} {z : St} {Rz : Int32 × St}  (h : fn_X12_isFree  v1 z = some Rz) : Met l yX12_isFree (wsU yX12_isFree cX12_isFree 2 (some .boolean)) (rmd 1) (va_Pc [.ref (G.2.2 172), .int v1] (Pre G z)) (va_Qi (fun r u => (r, u) = Rz) (Pre G) (AW G)) 0 0 (AW G) := by
  refine Met.ofW (cc := cX12_isFree) (maxL := 2) (ret := (some .boolean)) (by decide) rfl ?_
  intro p e s m args below meth c s₁ B hml hv
  obtain ⟨rfl, hP, hK⟩ := hv
  have C : CX p s m ([.ref (G.2.2 172), .int v1] : List Value).toArray meth c cX12_isFree 2 (wsU yX12_isFree cX12_isFree 2 (some .boolean)) RX12 (some .boolean) G := ⟨B.exec, B.bytes, hml, findClass_of_methodNamed B.named, atoms_spec (ws := (wsU yX12_isFree cX12_isFree 2 (some .boolean))) B.pre, B.returns, B.notSynchronized, hK, hG⟩
  obtain ⟨hx, hb, -, hown, hts, hr, hlocks, -, -⟩ := id C
  have hS : va_S (AW G) s.heap s.heap [] := va_S.rf
  have hl := lv_entry [.ref (G.2.2 172), .int v1] (n := 2) (Nat.le_of_ble_eq_true rfl)
  rw [lg_entry_eq]
  generalize (lg_sl [.ref (G.2.2 172), .int v1] ++ List.replicate (2 - (lg_sl [.ref (G.2.2 172), .int v1]).length) Slot.unset).toArray = ls at hl ⊢
  have hl : lv_has ls 2 [(0, .ref (G.2.2 172)), (1, .int v1)] := hl
  unfold fn_X12_isFree at h
  refine lv_aload_n hx hb dX12_isFree_0 rfl (lv_at hl 0 rfl) ?_
  refine ge_12_49 hx hb hts (inU inW_X12) hown hK hP k_172 (hts _ (List.mem_cons_of_mem _ lw_1483)) dX12_isFree_1 ?_
  refine lv_bipush (v := 7) hx hb dX12_isFree_4 (by decide) ?_
  refine lv_iload_n hx hb dX12_isFree_6 rfl (lv_at hl 1 rfl) ?_
  refine lv_imul hx hb dX12_isFree_7 ?_
  refine lv_bipush (v := 6) hx hb dX12_isFree_8 (by decide) ?_
  refine lv_iadd hx hb dX12_isFree_10 ?_
  obtain ⟨g1, h⟩ := gd_s h
  refine xl_14 hx hb hK hP k_198 l_198 (ix_in g1) dX12_isFree_11 ?_
  refine lv_iconst (v := (-1)) hx hb dX12_isFree_12 (by decide) ?_
  refine lv_icmp_ne (tgt := 20) hx hb dX12_isFree_13 (by decide) (fun c2 => ?_) (fun c2 => ?_)
  · rw [if_neg c2] at h
    refine lv_iconst (v := 0) hx hb dX12_isFree_20 (by decide) ?_
    exact x_zret hx hb hr hlocks hK hP hS rfl h dX12_isFree_21
  · rw [if_pos c2] at h
    refine lv_iconst (v := 1) hx hb dX12_isFree_16 (by decide) ?_
    refine lv_goto (tgt := 21) hx hb dX12_isFree_17 (by decide) ?_
    exact x_zret hx hb hr hlocks hK hP hS rfl h dX12_isFree_21
def fn_X12_pieceOf_34 (k4 : Int32 → Int32 → Int32 → St → Option (Int32 × St)) (v1 : Int32) (v2 : Int32) (v3 : Int32) (z : St) : Option (Int32 × St) := k4 v1 v2 (v3 + 1) z
set_option maxHeartbeats 4000000 in
set_option maxRecDepth 100000 in
theorem pf_X12_pieceOf_34 {p : Program} {l : Launch} {e : Env} {s : State} {m : MethodId} {args : Array Value} {below : List Frame} {meth : Method} {c : Code} {G : wG} (C : CX p s m args meth c cX12_pieceOf 4 (wsU yX12_pieceOf cX12_pieceOf 4 (some .int)) RX12 (some .int) G) {Rz : Int32 × St} {k4 : Int32 → Int32 → Int32 → St → Option (Int32 × St)} (hk_4 : ∀ (v1 : Int32) (v2 : Int32) (v3 : Int32) (z : St)  (H : Heap) (locs : List Loc) (ls : Array Slot), WP G z H → va_S (AW G) s.heap H locs → lv_has ls 4 [(0, .ref (G.2.2 172)), (1, .int v1), (2, .int v2), (3, .int v3)] → k4 v1 v2 v3 z = some Rz → W p l e (rmd 1) s m args below meth c H locs 0 0 (QI below args s G Rz) (F0 m 4 ls [])) (v1 : Int32) (v2 : Int32) (v3 : Int32) (z : St)  {H : Heap} {locs : List Loc} {ls : Array Slot} (hP : WP G z H) (hS : va_S (AW G) s.heap H locs) (hl : lv_has ls 4 [(0, .ref (G.2.2 172)), (1, .int v1), (2, .int v2), (3, .int v3)]) (h : fn_X12_pieceOf_34  k4 v1 v2 v3 z = some Rz) : W p l e (rmd 1) s m args below meth c H locs 0 0 (QI below args s G Rz) (F0 m 34 ls []) := by
  obtain ⟨hx, hb, hml, hown, hts, hr, hlocks, hK, hG⟩ := id C
  unfold fn_X12_pieceOf_34 at h
  refine lv_iinc (v := (v3 + 1)) (lv' := [(3, .int (v3 + 1)), (0, .ref (G.2.2 172)), (1, .int v1), (2, .int v2)]) hx hb dX12_pieceOf_34 hl (k := 3) rfl rfl (by decide) rfl (fun ls hl => ?_)
  refine lv_goto (tgt := 4) hx hb dX12_pieceOf_37 (by decide) ?_
  exact hk_4 v1 v2 (v3 + 1) z  _ _ _ hP hS (lv_sub hl [1, 2, 3, 0] rfl) h
def fn_X12_pieceOf_4 : Nat → Int32 → Int32 → Int32 → St → Option (Int32 × St)
  | 0, _, _, _, _ => none
  | n + 1, v1, v2, v3, z => (if (z.1 198 (Int32.toNatClampNeg 168)) ≤ v3 then some (v2, z) else gd (ix ((7 * v3) + 6) 171) ((if (z.1 198 (Int32.toNatClampNeg ((7 * v3) + 6))) = v1 then fn_X12_pieceOf_34  (fn_X12_pieceOf_4   n) v1 v3 v3 z else fn_X12_pieceOf_34  (fn_X12_pieceOf_4   n) v1 v2 v3 z)))
set_option maxHeartbeats 4000000 in
set_option maxRecDepth 100000 in
theorem pf_X12_pieceOf_4 {p : Program} {l : Launch} {e : Env} {s : State} {m : MethodId} {args : Array Value} {below : List Frame} {meth : Method} {c : Code} {G : wG} (C : CX p s m args meth c cX12_pieceOf 4 (wsU yX12_pieceOf cX12_pieceOf 4 (some .int)) RX12 (some .int) G) {Rz : Int32 × St} : ∀ (n : Nat) (v1 : Int32) (v2 : Int32) (v3 : Int32) (z : St)  (H : Heap) (locs : List Loc) (ls : Array Slot), WP G z H → va_S (AW G) s.heap H locs → lv_has ls 4 [(0, .ref (G.2.2 172)), (1, .int v1), (2, .int v2), (3, .int v3)] → fn_X12_pieceOf_4   n v1 v2 v3 z = some Rz → W p l e (rmd 1) s m args below meth c H locs 0 0 (QI below args s G Rz) (F0 m 4 ls []) := by
  obtain ⟨hx, hb, hml, hown, hts, hr, hlocks, hK, hG⟩ := id C
  intro n
  induction n with
  | zero => intro v1 v2 v3 z  H locs ls hP hS hl h; cases h
  | succ n ih =>
    intro v1 v2 v3 z  H locs ls hP hS hl h
    rw [fn_X12_pieceOf_4] at h
    refine lv_iload_n hx hb dX12_pieceOf_4 rfl (lv_at hl 3 rfl) ?_
    refine lv_aload_n hx hb dX12_pieceOf_5 rfl (lv_at hl 0 rfl) ?_
    refine ge_12_49 hx hb hts (inU inW_X12) hown hK hP k_172 (hts _ (List.mem_cons_of_mem _ lw_1483)) dX12_pieceOf_6 ?_
    refine lv_sipush (v := 168) hx hb dX12_pieceOf_9 (by decide) ?_
    refine xl_14 hx hb hK hP k_198 l_198 (ix_in (by decide)) dX12_pieceOf_12 ?_
    refine lv_icmp_ge (tgt := 40) hx hb dX12_pieceOf_13 (by decide) (fun c1 => ?_) (fun c1 => ?_)
    · rw [if_pos c1] at h
      refine lv_iload_n hx hb dX12_pieceOf_40 rfl (lv_at hl 2 rfl) ?_
      exact x_iret hx hb hr hlocks hK hP hS h dX12_pieceOf_41
    · rw [if_neg c1] at h
      refine lv_aload_n hx hb dX12_pieceOf_16 rfl (lv_at hl 0 rfl) ?_
      refine ge_12_49 hx hb hts (inU inW_X12) hown hK hP k_172 (hts _ (List.mem_cons_of_mem _ lw_1483)) dX12_pieceOf_17 ?_
      refine lv_bipush (v := 7) hx hb dX12_pieceOf_20 (by decide) ?_
      refine lv_iload_n hx hb dX12_pieceOf_22 rfl (lv_at hl 3 rfl) ?_
      refine lv_imul hx hb dX12_pieceOf_23 ?_
      refine lv_bipush (v := 6) hx hb dX12_pieceOf_24 (by decide) ?_
      refine lv_iadd hx hb dX12_pieceOf_26 ?_
      obtain ⟨g2, h⟩ := gd_s h
      refine xl_14 hx hb hK hP k_198 l_198 (ix_in g2) dX12_pieceOf_27 ?_
      refine lv_iload_n hx hb dX12_pieceOf_28 rfl (lv_at hl 1 rfl) ?_
      refine lv_icmp_ne (tgt := 34) hx hb dX12_pieceOf_29 (by decide) (fun c3 => ?_) (fun c3 => ?_)
      · rw [if_neg c3] at h
        exact pf_X12_pieceOf_34 C  ih v1 v2 v3 z  hP hS (lv_sub hl [0, 1, 2, 3] rfl) h
      · rw [if_pos c3] at h
        refine lv_iload_n hx hb dX12_pieceOf_32 rfl (lv_at hl 3 rfl) ?_
        refine lv_istore_n (lv' := [(2, .int v3), (0, .ref (G.2.2 172)), (1, .int v1), (3, .int v3)]) hx hb dX12_pieceOf_33 rfl hl (by decide) rfl (fun ls hl => ?_)
        exact pf_X12_pieceOf_34 C  ih v1 v3 v3 z  hP hS (lv_sub hl [1, 2, 0, 3] rfl) h
def fn_X12_pieceOf (v1 : Int32) (z : St) : Option (Int32 × St) := fn_X12_pieceOf_4   fu v1 (-1) 0 z
set_option maxHeartbeats 4000000 in
set_option maxRecDepth 100000 in
theorem m_X12_pieceOf {l : Launch} {G : wG} (hG : Ok G) {v1 : Int32} {z : St} {Rz : Int32 × St}  (h : fn_X12_pieceOf  v1 z = some Rz) : Met l yX12_pieceOf (wsU yX12_pieceOf cX12_pieceOf 4 (some .int)) (rmd 1) (va_Pc [.ref (G.2.2 172), .int v1] (Pre G z)) (va_Qi (fun r u => (r, u) = Rz) (Pre G) (AW G)) 0 0 (AW G) := by
  refine Met.ofW (cc := cX12_pieceOf) (maxL := 4) (ret := (some .int)) (by decide) rfl ?_
  intro p e s m args below meth c s₁ B hml hv
  obtain ⟨rfl, hP, hK⟩ := hv
  have C : CX p s m ([.ref (G.2.2 172), .int v1] : List Value).toArray meth c cX12_pieceOf 4 (wsU yX12_pieceOf cX12_pieceOf 4 (some .int)) RX12 (some .int) G := ⟨B.exec, B.bytes, hml, findClass_of_methodNamed B.named, atoms_spec (ws := (wsU yX12_pieceOf cX12_pieceOf 4 (some .int))) B.pre, B.returns, B.notSynchronized, hK, hG⟩
  obtain ⟨hx, hb, -, hown, hts, hr, hlocks, -, -⟩ := id C
  have hS : va_S (AW G) s.heap s.heap [] := va_S.rf
  have hl := lv_entry [.ref (G.2.2 172), .int v1] (n := 4) (Nat.le_of_ble_eq_true rfl)
  rw [lg_entry_eq]
  generalize (lg_sl [.ref (G.2.2 172), .int v1] ++ List.replicate (4 - (lg_sl [.ref (G.2.2 172), .int v1]).length) Slot.unset).toArray = ls at hl ⊢
  have hl : lv_has ls 4 [(0, .ref (G.2.2 172)), (1, .int v1)] := hl
  unfold fn_X12_pieceOf at h
  refine lv_iconst (v := (-1)) hx hb dX12_pieceOf_0 (by decide) ?_
  refine lv_istore_n (lv' := [(2, .int (-1)), (0, .ref (G.2.2 172)), (1, .int v1)]) hx hb dX12_pieceOf_1 rfl hl (by decide) rfl (fun ls hl => ?_)
  refine lv_iconst (v := 0) hx hb dX12_pieceOf_2 (by decide) ?_
  refine lv_istore_n (lv' := [(3, .int 0), (2, .int (-1)), (0, .ref (G.2.2 172)), (1, .int v1)]) hx hb dX12_pieceOf_3 rfl hl (by decide) rfl (fun ls hl => ?_)
  exact pf_X12_pieceOf_4 C   fu v1 (-1) 0 z  _ _ _ hP hS (lv_sub hl [2, 3, 1, 0] rfl) h
def fn_X12_canCut_65 (tv0 : Int32) (tv1 : Int32) (tv3 : Int32) (tv4 : Int32) (z : St) : Option (Int32 × St) := gd (ix (tv3 + tv4) 171) (bd (fn_X12_isIn  tv0 tv1 ((z.1 198 (Int32.toNatClampNeg (tv3 + tv4))) - 1) z) (fun r3 z4 => (if r3 = 0 then some (0, z4) else some (1, z4))))
set_option maxHeartbeats 4000000 in
set_option maxRecDepth 100000 in
theorem pf_X12_canCut_65 {p : Program} {l : Launch} {e : Env} {s : State} {m : MethodId} {args : Array Value} {below : List Frame} {meth : Method} {c : Code} {G : wG} (C : CX p s m args meth c cX12_canCut 4 (wsU yX12_canCut cX12_canCut 4 (some .boolean)) RX12 (some .boolean) G) {Rz : Int32 × St} (tv0 : Int32) (tv1 : Int32) (tv3 : Int32) (tv4 : Int32) (z : St)  {H : Heap} {locs : List Loc} {ls : Array Slot} (hP : WP G z H) (hS : va_S (AW G) s.heap H locs) (hl : lv_has ls 4 []) (h : fn_X12_canCut_65   tv0 tv1 tv3 tv4 z = some Rz) : W p l e (rmd 2) s m args below meth c H locs 0 0 (QI below args s G Rz) (F0 m 65 ls [.int tv4, .int tv3, .ref (G.2.2 198), .int tv1, .int tv0]) := by
  obtain ⟨hx, hb, hml, hown, hts, hr, hlocks, hK, hG⟩ := id C
  unfold fn_X12_canCut_65 at h
  refine lv_iadd hx hb dX12_canCut_65 ?_
  obtain ⟨g1, h⟩ := gd_s h
  refine xl_14 hx hb hK hP k_198 l_198 (ix_in g1) dX12_canCut_66 ?_
  refine lv_iconst (v := 1) hx hb dX12_canCut_67 (by decide) ?_
  refine lv_isub hx hb dX12_canCut_68 ?_
  obtain ⟨r3, z4, h2, h⟩ := bd_s h
  refine x_Si (Rz := (r3, z4)) (As := [.int tv0, .int tv1, .int ((z.1 198 (Int32.toNatClampNeg (tv3 + tv4))) - 1)]) (rest := []) ⟨hx, hb, hml, hown, hts⟩ hK hP hS (m_X12_isIn hG   h2) (va_cwS 3 hts (gS lw_1827 lw_1828 lw_125 lw_1829) rfl rfl rfl (by decide +kernel) (rmd_ok (by decide) (by decide))) rfl hl.1 rfl (Nat.le_of_ble_eq_true rfl) dX12_canCut_69 ⟨Nat.le_refl _, Nat.le_refl _⟩ (fun H locs hP hS => ?_)
  refine lv_if_eq (tgt := 79) hx hb dX12_canCut_72 (by decide) (fun c5 => ?_) (fun c5 => ?_)
  · rw [if_pos c5] at h
    refine lv_iconst (v := 0) hx hb dX12_canCut_79 (by decide) ?_
    exact x_zret hx hb hr hlocks hK hP hS rfl h dX12_canCut_80
  · rw [if_neg c5] at h
    refine lv_iconst (v := 1) hx hb dX12_canCut_75 (by decide) ?_
    refine lv_goto (tgt := 80) hx hb dX12_canCut_76 (by decide) ?_
    exact x_zret hx hb hr hlocks hK hP hS rfl h dX12_canCut_80
def fn_X12_canCut (v1 : Int32) (v2 : Int32) (v3 : Int32) (z : St) : Option (Int32 × St) := (if v1 < 0 then some (0, z) else (if (z.1 198 (Int32.toNatClampNeg 168)) ≤ v1 then some (0, z) else (if 24 ≤ (z.1 198 (Int32.toNatClampNeg 168)) then some (0, z) else bd (fn_X12_isIn  v2 0 1 z) (fun r5 z6 => (if r5 = 0 then some (0, z6) else bd (fn_X12_isFree  v1 z6) (fun r9 z10 => (if r9 = 0 then some (0, z10) else (if v2 = 0 then fn_X12_canCut_65   v3 1 (7 * v1) 3 z10 else fn_X12_canCut_65   v3 1 (7 * v1) 4 z10))))))))
set_option maxHeartbeats 4000000 in
set_option maxRecDepth 100000 in
theorem m_X12_canCut {l : Launch} {G : wG} (hG : Ok G) {v1 : Int32} {v2 : Int32} {v3 : Int32} {z : St} {Rz : Int32 × St}  (h : fn_X12_canCut  v1 v2 v3 z = some Rz) : Met l yX12_canCut (wsU yX12_canCut cX12_canCut 4 (some .boolean)) (rmd 2) (va_Pc [.ref (G.2.2 172), .int v1, .int v2, .int v3] (Pre G z)) (va_Qi (fun r u => (r, u) = Rz) (Pre G) (AW G)) 0 0 (AW G) := by
  refine Met.ofW (cc := cX12_canCut) (maxL := 4) (ret := (some .boolean)) (by decide) rfl ?_
  intro p e s m args below meth c s₁ B hml hv
  obtain ⟨rfl, hP, hK⟩ := hv
  have C : CX p s m ([.ref (G.2.2 172), .int v1, .int v2, .int v3] : List Value).toArray meth c cX12_canCut 4 (wsU yX12_canCut cX12_canCut 4 (some .boolean)) RX12 (some .boolean) G := ⟨B.exec, B.bytes, hml, findClass_of_methodNamed B.named, atoms_spec (ws := (wsU yX12_canCut cX12_canCut 4 (some .boolean))) B.pre, B.returns, B.notSynchronized, hK, hG⟩
  obtain ⟨hx, hb, -, hown, hts, hr, hlocks, -, -⟩ := id C
  have hS : va_S (AW G) s.heap s.heap [] := va_S.rf
  have hl := lv_entry [.ref (G.2.2 172), .int v1, .int v2, .int v3] (n := 4) (Nat.le_of_ble_eq_true rfl)
  rw [lg_entry_eq]
  generalize (lg_sl [.ref (G.2.2 172), .int v1, .int v2, .int v3] ++ List.replicate (4 - (lg_sl [.ref (G.2.2 172), .int v1, .int v2, .int v3]).length) Slot.unset).toArray = ls at hl ⊢
  have hl : lv_has ls 4 [(0, .ref (G.2.2 172)), (1, .int v1), (2, .int v2), (3, .int v3)] := hl
  unfold fn_X12_canCut at h
  refine lv_iload_n hx hb dX12_canCut_0 rfl (lv_at hl 1 rfl) ?_
  refine lv_if_lt (tgt := 79) hx hb dX12_canCut_1 (by decide) (fun c1 => ?_) (fun c1 => ?_)
  · rw [if_pos c1] at h
    refine lv_iconst (v := 0) hx hb dX12_canCut_79 (by decide) ?_
    exact x_zret hx hb hr hlocks hK hP hS rfl h dX12_canCut_80
  · rw [if_neg c1] at h
    refine lv_iload_n hx hb dX12_canCut_4 rfl (lv_at hl 1 rfl) ?_
    refine lv_aload_n hx hb dX12_canCut_5 rfl (lv_at hl 0 rfl) ?_
    refine ge_12_49 hx hb hts (inU inW_X12) hown hK hP k_172 (hts _ (List.mem_cons_of_mem _ lw_1483)) dX12_canCut_6 ?_
    refine lv_sipush (v := 168) hx hb dX12_canCut_9 (by decide) ?_
    refine xl_14 hx hb hK hP k_198 l_198 (ix_in (by decide)) dX12_canCut_12 ?_
    refine lv_icmp_ge (tgt := 79) hx hb dX12_canCut_13 (by decide) (fun c2 => ?_) (fun c2 => ?_)
    · rw [if_pos c2] at h
      refine lv_iconst (v := 0) hx hb dX12_canCut_79 (by decide) ?_
      exact x_zret hx hb hr hlocks hK hP hS rfl h dX12_canCut_80
    · rw [if_neg c2] at h
      refine lv_aload_n hx hb dX12_canCut_16 rfl (lv_at hl 0 rfl) ?_
      refine ge_12_49 hx hb hts (inU inW_X12) hown hK hP k_172 (hts _ (List.mem_cons_of_mem _ lw_1483)) dX12_canCut_17 ?_
      refine lv_sipush (v := 168) hx hb dX12_canCut_20 (by decide) ?_
      refine xl_14 hx hb hK hP k_198 l_198 (ix_in (by decide)) dX12_canCut_23 ?_
      refine lv_bipush (v := 24) hx hb dX12_canCut_24 (by decide) ?_
      refine lv_icmp_ge (tgt := 79) hx hb dX12_canCut_26 (by decide) (fun c3 => ?_) (fun c3 => ?_)
      · rw [if_pos c3] at h
        refine lv_iconst (v := 0) hx hb dX12_canCut_79 (by decide) ?_
        exact x_zret hx hb hr hlocks hK hP hS rfl h dX12_canCut_80
      · rw [if_neg c3] at h
        refine lv_iload_n hx hb dX12_canCut_29 rfl (lv_at hl 2 rfl) ?_
        refine lv_iconst (v := 0) hx hb dX12_canCut_30 (by decide) ?_
        refine lv_iconst (v := 1) hx hb dX12_canCut_31 (by decide) ?_
        obtain ⟨r5, z6, h4, h⟩ := bd_s h
        refine x_Si (Rz := (r5, z6)) (As := [.int v2, .int 0, .int 1]) (rest := []) ⟨hx, hb, hml, hown, hts⟩ hK hP hS (m_X12_isIn hG   h4) (va_cwS 3 hts (gS lw_1827 lw_1828 lw_125 lw_1829) rfl rfl rfl (by decide +kernel) (rmd_ok (by decide) (by decide))) rfl hl.1 rfl (Nat.le_of_ble_eq_true rfl) dX12_canCut_32 ⟨Nat.le_refl _, Nat.le_refl _⟩ (fun H locs hP hS => ?_)
        refine lv_if_eq (tgt := 79) hx hb dX12_canCut_35 (by decide) (fun c7 => ?_) (fun c7 => ?_)
        · rw [if_pos c7] at h
          refine lv_iconst (v := 0) hx hb dX12_canCut_79 (by decide) ?_
          exact x_zret hx hb hr hlocks hK hP hS rfl h dX12_canCut_80
        · rw [if_neg c7] at h
          refine lv_aload_n hx hb dX12_canCut_38 rfl (lv_at hl 0 rfl) ?_
          refine lv_iload_n hx hb dX12_canCut_39 rfl (lv_at hl 1 rfl) ?_
          obtain ⟨r9, z10, h8, h⟩ := bd_s h
          refine x_Vi (Rz := (r9, z10)) (As := [.int v1]) (rest := []) ⟨hx, hb, hml, hown, hts⟩ hK hP hS (kd_lt k_172 (by decide)) (cell_12 k_172) rfl (m_X12_isFree hG   h8) (cwV 1 hts (gV lw_1885 lw_1887 lw_82 lw_125 lw_1888) rfl rfl rfl (by decide +kernel) (rmd_ok (by decide) (by decide))) rfl hl.1 rfl (Nat.le_of_ble_eq_true rfl) dX12_canCut_40 ⟨Nat.le_refl _, Nat.le_refl _⟩ (fun H locs hP hS => ?_)
          refine lv_if_eq (tgt := 79) hx hb dX12_canCut_43 (by decide) (fun c11 => ?_) (fun c11 => ?_)
          · rw [if_pos c11] at h
            refine lv_iconst (v := 0) hx hb dX12_canCut_79 (by decide) ?_
            exact x_zret hx hb hr hlocks hK hP hS rfl h dX12_canCut_80
          · rw [if_neg c11] at h
            refine lv_iload_n hx hb dX12_canCut_46 rfl (lv_at hl 3 rfl) ?_
            refine lv_iconst (v := 1) hx hb dX12_canCut_47 (by decide) ?_
            refine lv_aload_n hx hb dX12_canCut_48 rfl (lv_at hl 0 rfl) ?_
            refine ge_12_49 hx hb hts (inU inW_X12) hown hK hP k_172 (hts _ (List.mem_cons_of_mem _ lw_1483)) dX12_canCut_49 ?_
            refine lv_bipush (v := 7) hx hb dX12_canCut_52 (by decide) ?_
            refine lv_iload_n hx hb dX12_canCut_54 rfl (lv_at hl 1 rfl) ?_
            refine lv_imul hx hb dX12_canCut_55 ?_
            refine lv_iload_n hx hb dX12_canCut_56 rfl (lv_at hl 2 rfl) ?_
            refine lv_if_ne (tgt := 64) hx hb dX12_canCut_57 (by decide) (fun c12 => ?_) (fun c12 => ?_)
            · rw [if_neg c12] at h
              refine lv_iconst (v := 4) hx hb dX12_canCut_64 (by decide) ?_
              exact pf_X12_canCut_65 C   v3 1 (7 * v1) 4 z10  hP hS (lv_sub hl [] rfl) h
            · rw [if_pos c12] at h
              refine lv_iconst (v := 3) hx hb dX12_canCut_60 (by decide) ?_
              refine lv_goto (tgt := 65) hx hb dX12_canCut_61 (by decide) ?_
              exact pf_X12_canCut_65 C   v3 1 (7 * v1) 3 z10  hP hS (lv_sub hl [] rfl) h
def fn_X12_goCut_71 (v1 : Int32) (v3 : Int32) (v4 : Int32) (v5 : Int32) (tv0 : Int32) (z : St) : Option (Int32 × St) := gd (ix ((7 * v4) + tv0) 171) (gd (ix ((7 * v4) + tv0) 171) (nm (sI z 198 (Int32.toNatClampNeg ((7 * v4) + tv0)) ((z.1 198 (Int32.toNatClampNeg ((7 * v4) + tv0))) + v3)) (fun z3 => gd (ix ((7 * v4) + v5) 171) (gd (ix ((7 * v4) + v5) 171) (nm (sI z3 198 (Int32.toNatClampNeg ((7 * v4) + v5)) ((z3.1 198 (Int32.toNatClampNeg ((7 * v4) + v5))) - v3)) (fun z6 => gd (ix ((7 * v1) + v5) 171) (nm (sI z6 198 (Int32.toNatClampNeg ((7 * v1) + v5)) v3) (fun z8 => nm (sI z8 198 (Int32.toNatClampNeg 168) ((z8.1 198 (Int32.toNatClampNeg 168)) + 1)) (fun z9 => some (v4, z9))))))))))
set_option maxHeartbeats 4000000 in
set_option maxRecDepth 100000 in
theorem pf_X12_goCut_71 {p : Program} {l : Launch} {e : Env} {s : State} {m : MethodId} {args : Array Value} {below : List Frame} {meth : Method} {c : Code} {G : wG} (C : CX p s m args meth c cX12_goCut 7 (wsU yX12_goCut cX12_goCut 7 (some .int)) RX12 (some .int) G) {Rz : Int32 × St} (v1 : Int32) (v3 : Int32) (v4 : Int32) (v5 : Int32) (tv0 : Int32) (z : St)  {H : Heap} {locs : List Loc} {ls : Array Slot} (hP : WP G z H) (hS : va_S (AW G) s.heap H locs) (hl : lv_has ls 7 [(0, .ref (G.2.2 172)), (1, .int v1), (3, .int v3), (4, .int v4), (5, .int v5)]) (h : fn_X12_goCut_71   v1 v3 v4 v5 tv0 z = some Rz) : W p l e (rmd 1) s m args below meth c H locs 0 0 (QI below args s G Rz) (F0 m 71 ls [.int tv0]) := by
  obtain ⟨hx, hb, hml, hown, hts, hr, hlocks, hK, hG⟩ := id C
  unfold fn_X12_goCut_71 at h
  refine lv_istore (lv' := [(6, .int tv0), (0, .ref (G.2.2 172)), (1, .int v1), (3, .int v3), (4, .int v4), (5, .int v5)]) hx hb dX12_goCut_71 hl (by decide) rfl (fun ls hl => ?_)
  refine lv_aload_n hx hb dX12_goCut_73 rfl (lv_at hl 1 rfl) ?_
  refine ge_12_49 hx hb hts (inU inW_X12) hown hK hP k_172 (hts _ (List.mem_cons_of_mem _ lw_1483)) dX12_goCut_74 ?_
  refine lv_bipush (v := 7) hx hb dX12_goCut_77 (by decide) ?_
  refine lv_iload hx hb dX12_goCut_79 (lv_at hl 4 rfl) ?_
  refine lv_imul hx hb dX12_goCut_81 ?_
  refine lv_iload hx hb dX12_goCut_82 (lv_at hl 0 rfl) ?_
  refine lv_iadd hx hb dX12_goCut_84 ?_
  refine lv_dup2_11 hx hb dX12_goCut_85 rfl rfl ?_
  obtain ⟨g1, h⟩ := gd_s h
  refine xl_14 hx hb hK hP k_198 l_198 (ix_in g1) dX12_goCut_86 ?_
  refine lv_iload_n hx hb dX12_goCut_87 rfl (lv_at hl 3 rfl) ?_
  refine lv_iadd hx hb dX12_goCut_88 ?_
  obtain ⟨g2, h⟩ := gd_s h
  obtain ⟨z3, e_z3, h⟩ := nm_s h
  refine xs_14 hx hb hK hG hP hS k_198 l_198 (ix_in g2) dX12_goCut_89 (fun H locs hP hS => ?_)
  rw [← e_z3] at hP
  refine lv_aload_n hx hb dX12_goCut_90 rfl (lv_at hl 1 rfl) ?_
  refine ge_12_49 hx hb hts (inU inW_X12) hown hK hP k_172 (hts _ (List.mem_cons_of_mem _ lw_1483)) dX12_goCut_91 ?_
  refine lv_bipush (v := 7) hx hb dX12_goCut_94 (by decide) ?_
  refine lv_iload hx hb dX12_goCut_96 (lv_at hl 4 rfl) ?_
  refine lv_imul hx hb dX12_goCut_98 ?_
  refine lv_iload hx hb dX12_goCut_99 (lv_at hl 5 rfl) ?_
  refine lv_iadd hx hb dX12_goCut_101 ?_
  refine lv_dup2_11 hx hb dX12_goCut_102 rfl rfl ?_
  obtain ⟨g4, h⟩ := gd_s h
  refine xl_14 hx hb hK hP k_198 l_198 (ix_in g4) dX12_goCut_103 ?_
  refine lv_iload_n hx hb dX12_goCut_104 rfl (lv_at hl 3 rfl) ?_
  refine lv_isub hx hb dX12_goCut_105 ?_
  obtain ⟨g5, h⟩ := gd_s h
  obtain ⟨z6, e_z6, h⟩ := nm_s h
  refine xs_14 hx hb hK hG hP hS k_198 l_198 (ix_in g5) dX12_goCut_106 (fun H locs hP hS => ?_)
  rw [← e_z6] at hP
  refine lv_aload_n hx hb dX12_goCut_107 rfl (lv_at hl 1 rfl) ?_
  refine ge_12_49 hx hb hts (inU inW_X12) hown hK hP k_172 (hts _ (List.mem_cons_of_mem _ lw_1483)) dX12_goCut_108 ?_
  refine lv_bipush (v := 7) hx hb dX12_goCut_111 (by decide) ?_
  refine lv_iload_n hx hb dX12_goCut_113 rfl (lv_at hl 2 rfl) ?_
  refine lv_imul hx hb dX12_goCut_114 ?_
  refine lv_iload hx hb dX12_goCut_115 (lv_at hl 5 rfl) ?_
  refine lv_iadd hx hb dX12_goCut_117 ?_
  refine lv_iload_n hx hb dX12_goCut_118 rfl (lv_at hl 3 rfl) ?_
  obtain ⟨g7, h⟩ := gd_s h
  obtain ⟨z8, e_z8, h⟩ := nm_s h
  refine xs_14 hx hb hK hG hP hS k_198 l_198 (ix_in g7) dX12_goCut_119 (fun H locs hP hS => ?_)
  rw [← e_z8] at hP
  refine lv_aload_n hx hb dX12_goCut_120 rfl (lv_at hl 1 rfl) ?_
  refine ge_12_49 hx hb hts (inU inW_X12) hown hK hP k_172 (hts _ (List.mem_cons_of_mem _ lw_1483)) dX12_goCut_121 ?_
  refine lv_sipush (v := 168) hx hb dX12_goCut_124 (by decide) ?_
  refine lv_dup2_11 hx hb dX12_goCut_127 rfl rfl ?_
  refine xl_14 hx hb hK hP k_198 l_198 (ix_in (by decide)) dX12_goCut_128 ?_
  refine lv_iconst (v := 1) hx hb dX12_goCut_129 (by decide) ?_
  refine lv_iadd hx hb dX12_goCut_130 ?_
  obtain ⟨z9, e_z9, h⟩ := nm_s h
  refine xs_14 hx hb hK hG hP hS k_198 l_198 (ix_in (by decide)) dX12_goCut_131 (fun H locs hP hS => ?_)
  rw [← e_z9] at hP
  refine lv_iload hx hb dX12_goCut_132 (lv_at hl 4 rfl) ?_
  exact x_iret hx hb hr hlocks hK hP hS h dX12_goCut_134
def fn_X12_goCut_60 (v1 : Int32) (v2 : Int32) (v3 : Int32) (v4 : Int32) (tv0 : Int32) (z : St) : Option (Int32 × St) := (if v2 = 0 then fn_X12_goCut_71   v1 v3 v4 tv0 1 z else fn_X12_goCut_71   v1 v3 v4 tv0 2 z)
set_option maxHeartbeats 4000000 in
set_option maxRecDepth 100000 in
theorem pf_X12_goCut_60 {p : Program} {l : Launch} {e : Env} {s : State} {m : MethodId} {args : Array Value} {below : List Frame} {meth : Method} {c : Code} {G : wG} (C : CX p s m args meth c cX12_goCut 7 (wsU yX12_goCut cX12_goCut 7 (some .int)) RX12 (some .int) G) {Rz : Int32 × St} (v1 : Int32) (v2 : Int32) (v3 : Int32) (v4 : Int32) (tv0 : Int32) (z : St)  {H : Heap} {locs : List Loc} {ls : Array Slot} (hP : WP G z H) (hS : va_S (AW G) s.heap H locs) (hl : lv_has ls 7 [(0, .ref (G.2.2 172)), (1, .int v1), (2, .int v2), (3, .int v3), (4, .int v4)]) (h : fn_X12_goCut_60   v1 v2 v3 v4 tv0 z = some Rz) : W p l e (rmd 1) s m args below meth c H locs 0 0 (QI below args s G Rz) (F0 m 60 ls [.int tv0]) := by
  obtain ⟨hx, hb, hml, hown, hts, hr, hlocks, hK, hG⟩ := id C
  unfold fn_X12_goCut_60 at h
  refine lv_istore (lv' := [(5, .int tv0), (0, .ref (G.2.2 172)), (1, .int v1), (2, .int v2), (3, .int v3), (4, .int v4)]) hx hb dX12_goCut_60 hl (by decide) rfl (fun ls hl => ?_)
  refine lv_iload_n hx hb dX12_goCut_62 rfl (lv_at hl 3 rfl) ?_
  refine lv_if_ne (tgt := 70) hx hb dX12_goCut_63 (by decide) (fun c1 => ?_) (fun c1 => ?_)
  · rw [if_neg c1] at h
    refine lv_iconst (v := 2) hx hb dX12_goCut_70 (by decide) ?_
    exact pf_X12_goCut_71 C   v1 v3 v4 tv0 2 z  hP hS (lv_sub hl [1, 2, 4, 5, 0] rfl) h
  · rw [if_pos c1] at h
    refine lv_iconst (v := 1) hx hb dX12_goCut_66 (by decide) ?_
    refine lv_goto (tgt := 71) hx hb dX12_goCut_67 (by decide) ?_
    exact pf_X12_goCut_71 C   v1 v3 v4 tv0 1 z  hP hS (lv_sub hl [1, 2, 4, 5, 0] rfl) h
def fn_X12_goCut_13 : Nat → Int32 → Int32 → Int32 → Int32 → Int32 → St → Option (Int32 × St)
  | 0, _, _, _, _, _, _ => none
  | n + 1, v1, v2, v3, v4, v5, z => (if 7 ≤ v5 then (if v2 = 0 then fn_X12_goCut_60   v1 v2 v3 v4 3 z else fn_X12_goCut_60   v1 v2 v3 v4 4 z) else gd (ix ((7 * v1) + v5) 171) (gd (ix ((7 * v4) + v5) 171) (nm (sI z 198 (Int32.toNatClampNeg ((7 * v4) + v5)) (z.1 198 (Int32.toNatClampNeg ((7 * v1) + v5)))) (fun z5 => fn_X12_goCut_13   n v1 v2 v3 v4 (v5 + 1) z5))))
set_option maxHeartbeats 4000000 in
set_option maxRecDepth 100000 in
theorem pf_X12_goCut_13 {p : Program} {l : Launch} {e : Env} {s : State} {m : MethodId} {args : Array Value} {below : List Frame} {meth : Method} {c : Code} {G : wG} (C : CX p s m args meth c cX12_goCut 7 (wsU yX12_goCut cX12_goCut 7 (some .int)) RX12 (some .int) G) {Rz : Int32 × St} : ∀ (n : Nat) (v1 : Int32) (v2 : Int32) (v3 : Int32) (v4 : Int32) (v5 : Int32) (z : St)  (H : Heap) (locs : List Loc) (ls : Array Slot), WP G z H → va_S (AW G) s.heap H locs → lv_has ls 7 [(0, .ref (G.2.2 172)), (1, .int v1), (2, .int v2), (3, .int v3), (4, .int v4), (5, .int v5)] → fn_X12_goCut_13   n v1 v2 v3 v4 v5 z = some Rz → W p l e (rmd 1) s m args below meth c H locs 0 0 (QI below args s G Rz) (F0 m 13 ls []) := by
  obtain ⟨hx, hb, hml, hown, hts, hr, hlocks, hK, hG⟩ := id C
  intro n
  induction n with
  | zero => intro v1 v2 v3 v4 v5 z  H locs ls hP hS hl h; cases h
  | succ n ih =>
    intro v1 v2 v3 v4 v5 z  H locs ls hP hS hl h
    rw [fn_X12_goCut_13] at h
    refine lv_iload hx hb dX12_goCut_13 (lv_at hl 5 rfl) ?_
    refine lv_bipush (v := 7) hx hb dX12_goCut_15 (by decide) ?_
    refine lv_icmp_ge (tgt := 51) hx hb dX12_goCut_17 (by decide) (fun c1 => ?_) (fun c1 => ?_)
    · rw [if_pos c1] at h
      refine lv_iload_n hx hb dX12_goCut_51 rfl (lv_at hl 2 rfl) ?_
      refine lv_if_ne (tgt := 59) hx hb dX12_goCut_52 (by decide) (fun c2 => ?_) (fun c2 => ?_)
      · rw [if_neg c2] at h
        refine lv_iconst (v := 4) hx hb dX12_goCut_59 (by decide) ?_
        exact pf_X12_goCut_60 C   v1 v2 v3 v4 4 z  hP hS (lv_sub hl [0, 1, 2, 3, 4] rfl) h
      · rw [if_pos c2] at h
        refine lv_iconst (v := 3) hx hb dX12_goCut_55 (by decide) ?_
        refine lv_goto (tgt := 60) hx hb dX12_goCut_56 (by decide) ?_
        exact pf_X12_goCut_60 C   v1 v2 v3 v4 3 z  hP hS (lv_sub hl [0, 1, 2, 3, 4] rfl) h
    · rw [if_neg c1] at h
      refine lv_aload_n hx hb dX12_goCut_20 rfl (lv_at hl 0 rfl) ?_
      refine ge_12_49 hx hb hts (inU inW_X12) hown hK hP k_172 (hts _ (List.mem_cons_of_mem _ lw_1483)) dX12_goCut_21 ?_
      refine lv_bipush (v := 7) hx hb dX12_goCut_24 (by decide) ?_
      refine lv_iload hx hb dX12_goCut_26 (lv_at hl 4 rfl) ?_
      refine lv_imul hx hb dX12_goCut_28 ?_
      refine lv_iload hx hb dX12_goCut_29 (lv_at hl 5 rfl) ?_
      refine lv_iadd hx hb dX12_goCut_31 ?_
      refine lv_aload_n hx hb dX12_goCut_32 rfl (lv_at hl 0 rfl) ?_
      refine ge_12_49 hx hb hts (inU inW_X12) hown hK hP k_172 (hts _ (List.mem_cons_of_mem _ lw_1483)) dX12_goCut_33 ?_
      refine lv_bipush (v := 7) hx hb dX12_goCut_36 (by decide) ?_
      refine lv_iload_n hx hb dX12_goCut_38 rfl (lv_at hl 1 rfl) ?_
      refine lv_imul hx hb dX12_goCut_39 ?_
      refine lv_iload hx hb dX12_goCut_40 (lv_at hl 5 rfl) ?_
      refine lv_iadd hx hb dX12_goCut_42 ?_
      obtain ⟨g3, h⟩ := gd_s h
      refine xl_14 hx hb hK hP k_198 l_198 (ix_in g3) dX12_goCut_43 ?_
      obtain ⟨g4, h⟩ := gd_s h
      obtain ⟨z5, e_z5, h⟩ := nm_s h
      refine xs_14 hx hb hK hG hP hS k_198 l_198 (ix_in g4) dX12_goCut_44 (fun H locs hP hS => ?_)
      rw [← e_z5] at hP
      refine lv_iinc (v := (v5 + 1)) (lv' := [(5, .int (v5 + 1)), (0, .ref (G.2.2 172)), (1, .int v1), (2, .int v2), (3, .int v3), (4, .int v4)]) hx hb dX12_goCut_45 hl (k := 5) rfl rfl (by decide) rfl (fun ls hl => ?_)
      refine lv_goto (tgt := 13) hx hb dX12_goCut_48 (by decide) ?_
      exact ih v1 v2 v3 v4 (v5 + 1) z5  _ _ _ hP hS (lv_sub hl [1, 2, 3, 4, 5, 0] rfl) h
def fn_X12_goCut (v1 : Int32) (v2 : Int32) (v3 : Int32) (z : St) : Option (Int32 × St) := nm (z.1 198 (Int32.toNatClampNeg 168)) (fun v4_1 => fn_X12_goCut_13   fu v1 v2 v3 v4_1 0 z)
set_option maxHeartbeats 4000000 in
set_option maxRecDepth 100000 in
theorem m_X12_goCut {l : Launch} {G : wG} (hG : Ok G) {v1 : Int32} {v2 : Int32} {v3 : Int32} {z : St} {Rz : Int32 × St}  (h : fn_X12_goCut  v1 v2 v3 z = some Rz) : Met l yX12_goCut (wsU yX12_goCut cX12_goCut 7 (some .int)) (rmd 1) (va_Pc [.ref (G.2.2 172), .int v1, .int v2, .int v3] (Pre G z)) (va_Qi (fun r u => (r, u) = Rz) (Pre G) (AW G)) 0 0 (AW G) := by
  refine Met.ofW (cc := cX12_goCut) (maxL := 7) (ret := (some .int)) (by decide) rfl ?_
  intro p e s m args below meth c s₁ B hml hv
  obtain ⟨rfl, hP, hK⟩ := hv
  have C : CX p s m ([.ref (G.2.2 172), .int v1, .int v2, .int v3] : List Value).toArray meth c cX12_goCut 7 (wsU yX12_goCut cX12_goCut 7 (some .int)) RX12 (some .int) G := ⟨B.exec, B.bytes, hml, findClass_of_methodNamed B.named, atoms_spec (ws := (wsU yX12_goCut cX12_goCut 7 (some .int))) B.pre, B.returns, B.notSynchronized, hK, hG⟩
  obtain ⟨hx, hb, -, hown, hts, hr, hlocks, -, -⟩ := id C
  have hS : va_S (AW G) s.heap s.heap [] := va_S.rf
  have hl := lv_entry [.ref (G.2.2 172), .int v1, .int v2, .int v3] (n := 7) (Nat.le_of_ble_eq_true rfl)
  rw [lg_entry_eq]
  generalize (lg_sl [.ref (G.2.2 172), .int v1, .int v2, .int v3] ++ List.replicate (7 - (lg_sl [.ref (G.2.2 172), .int v1, .int v2, .int v3]).length) Slot.unset).toArray = ls at hl ⊢
  have hl : lv_has ls 7 [(0, .ref (G.2.2 172)), (1, .int v1), (2, .int v2), (3, .int v3)] := hl
  unfold fn_X12_goCut at h
  refine lv_aload_n hx hb dX12_goCut_0 rfl (lv_at hl 0 rfl) ?_
  refine ge_12_49 hx hb hts (inU inW_X12) hown hK hP k_172 (hts _ (List.mem_cons_of_mem _ lw_1483)) dX12_goCut_1 ?_
  refine lv_sipush (v := 168) hx hb dX12_goCut_4 (by decide) ?_
  refine xl_14 hx hb hK hP k_198 l_198 (ix_in (by decide)) dX12_goCut_7 ?_
  obtain ⟨v4_1, e_v4_1, h⟩ := nm_s h
  refine x_top e_v4_1 ?_
  refine lv_istore (lv' := [(4, .int v4_1), (0, .ref (G.2.2 172)), (1, .int v1), (2, .int v2), (3, .int v3)]) hx hb dX12_goCut_8 hl (by decide) rfl (fun ls hl => ?_)
  refine lv_iconst (v := 0) hx hb dX12_goCut_10 (by decide) ?_
  refine lv_istore (lv' := [(5, .int 0), (4, .int v4_1), (0, .ref (G.2.2 172)), (1, .int v1), (2, .int v2), (3, .int v3)]) hx hb dX12_goCut_11 hl (by decide) rfl (fun ls hl => ?_)
  exact pf_X12_goCut_13 C   fu v1 v2 v3 v4_1 0 z  _ _ _ hP hS (lv_sub hl [2, 3, 4, 5, 1, 0] rfl) h
def fn_X12_slipOf_20 (tv1 : Int32) (tv2 : Int32) (tv4 : Int32) (tv5 : Int32) (z : St) : Option (Int32 × St) := gd (ix (tv4 + tv5) 171) (bv (fn_X12_askOf  tv1 tv2 (z.1 198 (Int32.toNatClampNeg (tv4 + tv5))) z) (fun z3 => bd (fn_X12_worked  1 0 z3) (fun r5 z6 => (if 0 ≤ r5 then (if r5 ≤ 100 then some (r5, z6) else some (100, z6)) else some (0, z6)))))
set_option maxHeartbeats 4000000 in
set_option maxRecDepth 100000 in
theorem pf_X12_slipOf_20 {p : Program} {l : Launch} {e : Env} {s : State} {m : MethodId} {args : Array Value} {below : List Frame} {meth : Method} {c : Code} {G : wG} (C : CX p s m args meth c cX12_slipOf 4 (wsU yX12_slipOf cX12_slipOf 4 (some .int)) RX12 (some .int) G) {Rz : Int32 × St} (tv1 : Int32) (tv2 : Int32) (tv4 : Int32) (tv5 : Int32) (z : St)  {H : Heap} {locs : List Loc} {ls : Array Slot} (hP : WP G z H) (hS : va_S (AW G) s.heap H locs) (hl : lv_has ls 4 [(0, .ref (G.2.2 172))]) (h : fn_X12_slipOf_20   tv1 tv2 tv4 tv5 z = some Rz) : W p l e (rmd 4) s m args below meth c H locs 0 0 (QI below args s G Rz) (F0 m 20 ls [.int tv5, .int tv4, .ref (G.2.2 198), .int tv2, .int tv1, .ref (G.2.2 172)]) := by
  obtain ⟨hx, hb, hml, hown, hts, hr, hlocks, hK, hG⟩ := id C
  unfold fn_X12_slipOf_20 at h
  refine lv_iadd hx hb dX12_slipOf_20 ?_
  obtain ⟨g1, h⟩ := gd_s h
  refine xl_14 hx hb hK hP k_198 l_198 (ix_in g1) dX12_slipOf_21 ?_
  obtain ⟨z3, h2, h⟩ := bv_s h
  refine x_Vv (Rz := z3) (As := [.int tv1, .int tv2, .int (z.1 198 (Int32.toNatClampNeg (tv4 + tv5)))]) (rest := []) ⟨hx, hb, hml, hown, hts⟩ hK hP hS (kd_lt k_172 (by decide)) (cell_12 k_172) rfl (m_X12_askOf hG   h2) (cwV 3 hts (gV lw_1861 lw_1863 lw_79 lw_125 lw_1864) rfl rfl rfl (by decide +kernel) (rmd_ok (by decide) (by decide))) rfl hl.1 rfl (Nat.le_of_ble_eq_true rfl) dX12_slipOf_22 ⟨Nat.le_refl _, Nat.le_refl _⟩ (fun H locs hP hS => ?_)
  refine lv_aload_n hx hb dX12_slipOf_25 rfl (lv_at hl 0 rfl) ?_
  refine lv_iconst (v := 1) hx hb dX12_slipOf_26 (by decide) ?_
  refine lv_iconst (v := 0) hx hb dX12_slipOf_27 (by decide) ?_
  obtain ⟨r5, z6, h4, h⟩ := bd_s h
  refine x_Vi (Rz := (r5, z6)) (As := [.int 1, .int 0]) (rest := []) ⟨hx, hb, hml, hown, hts⟩ hK hP hS (kd_lt k_172 (by decide)) (cell_12 k_172) rfl (m_X12_worked hG   h4) (cwV 2 hts (gV lw_1865 lw_1867 lw_80 lw_125 lw_1868) rfl rfl rfl (by decide +kernel) (rmd_ok (by decide) (by decide))) rfl hl.1 rfl (Nat.le_of_ble_eq_true rfl) dX12_slipOf_28 ⟨Nat.le_refl _, Nat.le_refl _⟩ (fun H locs hP hS => ?_)
  refine lv_istore_n (lv' := [(3, .int r5), (0, .ref (G.2.2 172))]) hx hb dX12_slipOf_31 rfl hl (by decide) rfl (fun ls hl => ?_)
  refine lv_iload_n hx hb dX12_slipOf_32 rfl (lv_at hl 0 rfl) ?_
  refine lv_if_ge (tgt := 40) hx hb dX12_slipOf_33 (by decide) (fun c7 => ?_) (fun c7 => ?_)
  · rw [if_pos c7] at h
    refine lv_iload_n hx hb dX12_slipOf_40 rfl (lv_at hl 0 rfl) ?_
    refine lv_bipush (v := 100) hx hb dX12_slipOf_41 (by decide) ?_
    refine lv_icmp_le (tgt := 51) hx hb dX12_slipOf_43 (by decide) (fun c8 => ?_) (fun c8 => ?_)
    · rw [if_pos c8] at h
      refine lv_iload_n hx hb dX12_slipOf_51 rfl (lv_at hl 0 rfl) ?_
      exact x_iret hx hb hr hlocks hK hP hS h dX12_slipOf_52
    · rw [if_neg c8] at h
      refine lv_bipush (v := 100) hx hb dX12_slipOf_46 (by decide) ?_
      refine lv_goto (tgt := 52) hx hb dX12_slipOf_48 (by decide) ?_
      exact x_iret hx hb hr hlocks hK hP hS h dX12_slipOf_52
  · rw [if_neg c7] at h
    refine lv_iconst (v := 0) hx hb dX12_slipOf_36 (by decide) ?_
    refine lv_goto (tgt := 52) hx hb dX12_slipOf_37 (by decide) ?_
    exact x_iret hx hb hr hlocks hK hP hS h dX12_slipOf_52
def fn_X12_slipOf (v1 : Int32) (v2 : Int32) (z : St) : Option (Int32 × St) := (if v2 = 0 then fn_X12_slipOf_20   v1 0 (7 * v1) 4 z else fn_X12_slipOf_20   v1 0 (7 * v1) 3 z)
set_option maxHeartbeats 4000000 in
set_option maxRecDepth 100000 in
theorem m_X12_slipOf {l : Launch} {G : wG} (hG : Ok G) {v1 : Int32} {v2 : Int32} {z : St} {Rz : Int32 × St}  (h : fn_X12_slipOf  v1 v2 z = some Rz) : Met l yX12_slipOf (wsU yX12_slipOf cX12_slipOf 4 (some .int)) (rmd 4) (va_Pc [.ref (G.2.2 172), .int v1, .int v2] (Pre G z)) (va_Qi (fun r u => (r, u) = Rz) (Pre G) (AW G)) 0 0 (AW G) := by
  refine Met.ofW (cc := cX12_slipOf) (maxL := 4) (ret := (some .int)) (by decide) rfl ?_
  intro p e s m args below meth c s₁ B hml hv
  obtain ⟨rfl, hP, hK⟩ := hv
  have C : CX p s m ([.ref (G.2.2 172), .int v1, .int v2] : List Value).toArray meth c cX12_slipOf 4 (wsU yX12_slipOf cX12_slipOf 4 (some .int)) RX12 (some .int) G := ⟨B.exec, B.bytes, hml, findClass_of_methodNamed B.named, atoms_spec (ws := (wsU yX12_slipOf cX12_slipOf 4 (some .int))) B.pre, B.returns, B.notSynchronized, hK, hG⟩
  obtain ⟨hx, hb, -, hown, hts, hr, hlocks, -, -⟩ := id C
  have hS : va_S (AW G) s.heap s.heap [] := va_S.rf
  have hl := lv_entry [.ref (G.2.2 172), .int v1, .int v2] (n := 4) (Nat.le_of_ble_eq_true rfl)
  rw [lg_entry_eq]
  generalize (lg_sl [.ref (G.2.2 172), .int v1, .int v2] ++ List.replicate (4 - (lg_sl [.ref (G.2.2 172), .int v1, .int v2]).length) Slot.unset).toArray = ls at hl ⊢
  have hl : lv_has ls 4 [(0, .ref (G.2.2 172)), (1, .int v1), (2, .int v2)] := hl
  unfold fn_X12_slipOf at h
  refine lv_aload_n hx hb dX12_slipOf_0 rfl (lv_at hl 0 rfl) ?_
  refine lv_iload_n hx hb dX12_slipOf_1 rfl (lv_at hl 1 rfl) ?_
  refine lv_iconst (v := 0) hx hb dX12_slipOf_2 (by decide) ?_
  refine lv_aload_n hx hb dX12_slipOf_3 rfl (lv_at hl 0 rfl) ?_
  refine ge_12_49 hx hb hts (inU inW_X12) hown hK hP k_172 (hts _ (List.mem_cons_of_mem _ lw_1483)) dX12_slipOf_4 ?_
  refine lv_bipush (v := 7) hx hb dX12_slipOf_7 (by decide) ?_
  refine lv_iload_n hx hb dX12_slipOf_9 rfl (lv_at hl 1 rfl) ?_
  refine lv_imul hx hb dX12_slipOf_10 ?_
  refine lv_iload_n hx hb dX12_slipOf_11 rfl (lv_at hl 2 rfl) ?_
  refine lv_if_ne (tgt := 19) hx hb dX12_slipOf_12 (by decide) (fun c1 => ?_) (fun c1 => ?_)
  · rw [if_neg c1] at h
    refine lv_iconst (v := 3) hx hb dX12_slipOf_19 (by decide) ?_
    exact pf_X12_slipOf_20 C   v1 0 (7 * v1) 3 z  hP hS (lv_sub hl [0] rfl) h
  · rw [if_pos c1] at h
    refine lv_iconst (v := 4) hx hb dX12_slipOf_15 (by decide) ?_
    refine lv_goto (tgt := 20) hx hb dX12_slipOf_16 (by decide) ?_
    exact pf_X12_slipOf_20 C   v1 0 (7 * v1) 4 z  hP hS (lv_sub hl [0] rfl) h
