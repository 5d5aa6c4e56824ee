def fn_X7_clear (p0 : Nat) (z : St) : Option (St) := nm (sI z p0 0 0) (fun z1 => nm (sI z1 p0 5 0) (fun z2 => bv (fn_X2_clear  (p0 + 9) 1 z2) (fun z4 => bv (fn_X2_clear  (p0 + 12) 0 z4) (fun z6 => nm (sI z6 p0 12 1) (fun z7 => nm (sI z7 p0 13 0) (fun z8 => nm (sI z8 p0 14 0) (fun z9 => nm (sI z9 p0 15 0) (fun z10 => some z10))))))))
set_option maxHeartbeats 4000000 in
set_option maxRecDepth 100000 in
theorem m_X7_clear {l : Launch} {G : wG} (hG : Ok G) {p0 : Nat} {z : St} {Rz : St} (hk0 : kd p0 = 7) (h : fn_X7_clear  p0 z = some Rz) : Met l yX7_clear (wsU yX7_clear cX7_clear 1 none) (rmd 3) (va_Pc [.ref (G.2.2 p0)] (Pre G z)) (va_Qv (fun u => u = Rz) (Pre G) (AW G)) 0 0 (AW G) := by
  refine Met.ofW (cc := cX7_clear) (maxL := 1) (ret := none) (by decide) rfl ?_
  intro p e s m args below meth c s₁ B hml hv
  obtain ⟨rfl, hP, hK⟩ := hv
  have C : CX p s m ([.ref (G.2.2 p0)] : List Value).toArray meth c cX7_clear 1 (wsU yX7_clear cX7_clear 1 none) RX7 none G := ⟨B.exec, B.bytes, hml, findClass_of_methodNamed B.named, atoms_spec (ws := (wsU yX7_clear cX7_clear 1 none)) B.pre, B.returns, B.notSynchronized, hK, hG⟩
  obtain ⟨hx, hb, -, hown, hts, hr, hlocks, -, -⟩ := id C
  have hS : va_S (AW G) s.heap s.heap [] := va_S.rf
  have hl := lv_entry [.ref (G.2.2 p0)] (n := 1) (Nat.le_of_ble_eq_true rfl)
  rw [lg_entry_eq]
  generalize (lg_sl [.ref (G.2.2 p0)] ++ List.replicate (1 - (lg_sl [.ref (G.2.2 p0)]).length) Slot.unset).toArray = ls at hl ⊢
  have hl : lv_has ls 1 [(0, .ref (G.2.2 p0))] := hl
  unfold fn_X7_clear at h
  refine lv_aload_n hx hb dX7_clear_0 rfl (lv_at hl 0 rfl) ?_
  refine lv_iconst (v := 0) hx hb dX7_clear_1 (by decide) ?_
  obtain ⟨z1, e_z1, h⟩ := nm_s h
  refine pu_7_0 hx hb hts (inU inW_X7) hown hK hG hP hS hk0 (hts _ (List.mem_cons_of_mem _ lw_177)) dX7_clear_2 (fun H locs hP hS => ?_)
  rw [← e_z1] at hP
  refine lv_aload_n hx hb dX7_clear_5 rfl (lv_at hl 0 rfl) ?_
  refine lv_iconst (v := 0) hx hb dX7_clear_6 (by decide) ?_
  obtain ⟨z2, e_z2, h⟩ := nm_s h
  refine pu_7_5 hx hb hts (inU inW_X7) hown hK hG hP hS hk0 (hts _ (List.mem_cons_of_mem _ lw_194)) dX7_clear_7 (fun H locs hP hS => ?_)
  rw [← e_z2] at hP
  refine lv_aload_n hx hb dX7_clear_10 rfl (lv_at hl 0 rfl) ?_
  refine ge_7_10 hx hb hts (inU inW_X7) hown hK hP hk0 (hts _ (List.mem_cons_of_mem _ lw_210)) dX7_clear_11 ?_
  refine lv_iconst (v := 1) hx hb dX7_clear_14 (by decide) ?_
  obtain ⟨z4, h3, h⟩ := bv_s h
  refine x_Vv (Rz := z4) (As := [.int 1]) (rest := []) ⟨hx, hb, hml, hown, hts⟩ hK hP hS (kd_lt (kf_7_10 hk0) (by decide)) (cell_2 (kf_7_10 hk0)) rfl (m_X2_clear hG  (kf_7_10 hk0) h3) (cwV 1 hts (gV lw_776 lw_149 lw_150 lw_111 lw_151) rfl rfl rfl (by decide +kernel) (rmd_ok (by decide) (by decide))) rfl hl.1 rfl (Nat.le_of_ble_eq_true rfl) dX7_clear_15 ⟨Nat.le_refl _, Nat.le_refl _⟩ (fun H locs hP hS => ?_)
  refine lv_aload_n hx hb dX7_clear_18 rfl (lv_at hl 0 rfl) ?_
  refine ge_7_11 hx hb hts (inU inW_X7) hown hK hP hk0 (hts _ (List.mem_cons_of_mem _ lw_214)) dX7_clear_19 ?_
  refine lv_iconst (v := 0) hx hb dX7_clear_22 (by decide) ?_
  obtain ⟨z6, h5, h⟩ := bv_s h
  refine x_Vv (Rz := z6) (As := [.int 0]) (rest := []) ⟨hx, hb, hml, hown, hts⟩ hK hP hS (kd_lt (kf_7_11 hk0) (by decide)) (cell_2 (kf_7_11 hk0)) rfl (m_X2_clear hG  (kf_7_11 hk0) h5) (cwV 1 hts (gV lw_776 lw_149 lw_150 lw_111 lw_151) rfl rfl rfl (by decide +kernel) (rmd_ok (by decide) (by decide))) rfl hl.1 rfl (Nat.le_of_ble_eq_true rfl) dX7_clear_23 ⟨Nat.le_refl _, Nat.le_refl _⟩ (fun H locs hP hS => ?_)
  refine lv_aload_n hx hb dX7_clear_26 rfl (lv_at hl 0 rfl) ?_
  refine lv_iconst (v := 1) hx hb dX7_clear_27 (by decide) ?_
  obtain ⟨z7, e_z7, h⟩ := nm_s h
  refine pu_7_12 hx hb hts (inU inW_X7) hown hK hG hP hS hk0 (hts _ (List.mem_cons_of_mem _ lw_218)) dX7_clear_28 (fun H locs hP hS => ?_)
  rw [← e_z7] at hP
  refine lv_aload_n hx hb dX7_clear_31 rfl (lv_at hl 0 rfl) ?_
  refine lv_iconst (v := 0) hx hb dX7_clear_32 (by decide) ?_
  obtain ⟨z8, e_z8, h⟩ := nm_s h
  refine pu_7_13 hx hb hts (inU inW_X7) hown hK hG hP hS hk0 (hts _ (List.mem_cons_of_mem _ lw_221)) rfl dX7_clear_33 (fun H locs hP hS => ?_)
  rw [← e_z8] at hP
  refine lv_aload_n hx hb dX7_clear_36 rfl (lv_at hl 0 rfl) ?_
  refine lv_iconst (v := 0) hx hb dX7_clear_37 (by decide) ?_
  obtain ⟨z9, e_z9, h⟩ := nm_s h
  refine pu_7_14 hx hb hts (inU inW_X7) hown hK hG hP hS hk0 (hts _ (List.mem_cons_of_mem _ lw_223)) dX7_clear_38 (fun H locs hP hS => ?_)
  rw [← e_z9] at hP
  refine lv_aload_n hx hb dX7_clear_41 rfl (lv_at hl 0 rfl) ?_
  refine lv_iconst (v := 0) hx hb dX7_clear_42 (by decide) ?_
  obtain ⟨z10, e_z10, h⟩ := nm_s h
  refine pu_7_15 hx hb hts (inU inW_X7) hown hK hG hP hS hk0 (hts _ (List.mem_cons_of_mem _ lw_226)) rfl dX7_clear_43 (fun H locs hP hS => ?_)
  rw [← e_z10] at hP
  exact x_vret hx hb hr hlocks hK hP hS h dX7_clear_46
def fn_X7_takeFrom_67 : Nat → Nat → Nat → Int32 → St → Option (St)
  | 0, _, _, _, _ => none
  | n + 1, p0, p1, v2, z => (if 6 ≤ v2 then bv (fn_X2_takeFrom  (p0 + 9) (p1 + 9) z) (fun z3 => bv (fn_X2_takeFrom  (p0 + 12) (p1 + 12) z3) (fun z5 => nm (sI z5 p0 12 (z5.1 p1 12)) (fun z6 => nm (sI z6 p0 14 (z6.1 p1 14)) (fun z7 => some z7)))) else gd (ix v2 6) (gd (ix v2 6) (nm (sI z (p0 + 6) (Int32.toNatClampNeg v2) (z.1 (p1 + 6) (Int32.toNatClampNeg v2))) (fun z10 => gd (ix v2 6) (gd (ix v2 6) (nm (sI z10 (p0 + 7) (Int32.toNatClampNeg v2) (z10.1 (p1 + 7) (Int32.toNatClampNeg v2))) (fun z13 => gd (ix v2 6) (gd (ix v2 6) (nm (sI z13 (p0 + 8) (Int32.toNatClampNeg v2) (z13.1 (p1 + 8) (Int32.toNatClampNeg v2))) (fun z16 => fn_X7_takeFrom_67   n p0 p1 (v2 + 1) z16))))))))))
set_option maxHeartbeats 4000000 in
set_option maxRecDepth 100000 in
theorem pf_X7_takeFrom_67 {p : Program} {l : Launch} {e : Env} {s : State} {m : MethodId} {args : Array Value} {below : List Frame} {meth : Method} {c : Code} {G : wG} (C : CX p s m args meth c cX7_takeFrom 3 (wsU yX7_takeFrom cX7_takeFrom 3 none) RX7 none G) {Rz : St} : ∀ (n : Nat) (p0 : Nat) (p1 : Nat) (v2 : Int32) (z : St) (hk0 : kd p0 = 7) (hk1 : kd p1 = 7) (H : Heap) (locs : List Loc) (ls : Array Slot), WP G z H → va_S (AW G) s.heap H locs → lv_has ls 3 [(0, .ref (G.2.2 p0)), (1, .ref (G.2.2 p1)), (2, .int v2)] → fn_X7_takeFrom_67   n p0 p1 v2 z = some Rz → W p l e (rmd 2) s m args below meth c H locs 0 0 (QV below args s G Rz) (F0 m 67 ls []) := by
  obtain ⟨hx, hb, hml, hown, hts, hr, hlocks, hK, hG⟩ := id C
  intro n
  induction n with
  | zero => intro p0 p1 v2 z hk0 hk1 H locs ls hP hS hl h; cases h
  | succ n ih =>
    intro p0 p1 v2 z hk0 hk1 H locs ls hP hS hl h
    rw [fn_X7_takeFrom_67] at h
    refine lv_iload_n hx hb dX7_takeFrom_67 rfl (lv_at hl 2 rfl) ?_
    refine lv_bipush (v := 6) hx hb dX7_takeFrom_68 (by decide) ?_
    refine lv_icmp_ge (tgt := 115) hx hb dX7_takeFrom_70 (by decide) (fun c1 => ?_) (fun c1 => ?_)
    · rw [if_pos c1] at h
      refine lv_aload_n hx hb dX7_takeFrom_115 rfl (lv_at hl 0 rfl) ?_
      refine ge_7_10 hx hb hts (inU inW_X7) hown hK hP hk0 (hts _ (List.mem_cons_of_mem _ lw_210)) dX7_takeFrom_116 ?_
      refine lv_aload_n hx hb dX7_takeFrom_119 rfl (lv_at hl 1 rfl) ?_
      refine ge_7_10 hx hb hts (inU inW_X7) hown hK hP hk1 (hts _ (List.mem_cons_of_mem _ lw_210)) dX7_takeFrom_120 ?_
      obtain ⟨z3, h2, h⟩ := bv_s h
      refine x_Vv (Rz := z3) (As := [.ref (G.2.2 (p1 + 9))]) (rest := []) ⟨hx, hb, hml, hown, hts⟩ hK hP hS (kd_lt (kf_7_10 hk0) (by decide)) (cell_2 (kf_7_10 hk0)) rfl (m_X2_takeFrom hG  (kf_7_10 hk0) (kf_7_10 hk1) h2) (cwV 1 hts (gV lw_914 lw_915 lw_916 lw_111 lw_917) rfl rfl rfl (by decide +kernel) (rmd_ok (by decide) (by decide))) rfl hl.1 rfl (Nat.le_of_ble_eq_true rfl) dX7_takeFrom_123 ⟨Nat.le_refl _, Nat.le_refl _⟩ (fun H locs hP hS => ?_)
      refine lv_aload_n hx hb dX7_takeFrom_126 rfl (lv_at hl 0 rfl) ?_
      refine ge_7_11 hx hb hts (inU inW_X7) hown hK hP hk0 (hts _ (List.mem_cons_of_mem _ lw_214)) dX7_takeFrom_127 ?_
      refine lv_aload_n hx hb dX7_takeFrom_130 rfl (lv_at hl 1 rfl) ?_
      refine ge_7_11 hx hb hts (inU inW_X7) hown hK hP hk1 (hts _ (List.mem_cons_of_mem _ lw_214)) dX7_takeFrom_131 ?_
      obtain ⟨z5, h4, h⟩ := bv_s h
      refine x_Vv (Rz := z5) (As := [.ref (G.2.2 (p1 + 12))]) (rest := []) ⟨hx, hb, hml, hown, hts⟩ hK hP hS (kd_lt (kf_7_11 hk0) (by decide)) (cell_2 (kf_7_11 hk0)) rfl (m_X2_takeFrom hG  (kf_7_11 hk0) (kf_7_11 hk1) h4) (cwV 1 hts (gV lw_914 lw_915 lw_916 lw_111 lw_917) rfl rfl rfl (by decide +kernel) (rmd_ok (by decide) (by decide))) rfl hl.1 rfl (Nat.le_of_ble_eq_true rfl) dX7_takeFrom_134 ⟨Nat.le_refl _, Nat.le_refl _⟩ (fun H locs hP hS => ?_)
      refine lv_aload_n hx hb dX7_takeFrom_137 rfl (lv_at hl 0 rfl) ?_
      refine lv_aload_n hx hb dX7_takeFrom_138 rfl (lv_at hl 1 rfl) ?_
      refine ge_7_12 hx hb hts (inU inW_X7) hown hK hP hk1 (hts _ (List.mem_cons_of_mem _ lw_218)) dX7_takeFrom_139 ?_
      obtain ⟨z6, e_z6, h⟩ := nm_s h
      refine pu_7_12 hx hb hts (inU inW_X7) hown hK hG hP hS hk0 (hts _ (List.mem_cons_of_mem _ lw_218)) dX7_takeFrom_142 (fun H locs hP hS => ?_)
      rw [← e_z6] at hP
      refine lv_aload_n hx hb dX7_takeFrom_145 rfl (lv_at hl 0 rfl) ?_
      refine lv_aload_n hx hb dX7_takeFrom_146 rfl (lv_at hl 1 rfl) ?_
      refine ge_7_14 hx hb hts (inU inW_X7) hown hK hP hk1 (hts _ (List.mem_cons_of_mem _ lw_223)) dX7_takeFrom_147 ?_
      obtain ⟨z7, e_z7, h⟩ := nm_s h
      refine pu_7_14 hx hb hts (inU inW_X7) hown hK hG hP hS hk0 (hts _ (List.mem_cons_of_mem _ lw_223)) dX7_takeFrom_150 (fun H locs hP hS => ?_)
      rw [← e_z7] at hP
      exact x_vret hx hb hr hlocks hK hP hS h dX7_takeFrom_153
    · rw [if_neg c1] at h
      refine lv_aload_n hx hb dX7_takeFrom_73 rfl (lv_at hl 0 rfl) ?_
      refine ge_7_7 hx hb hts (inU inW_X7) hown hK hP hk0 (hts _ (List.mem_cons_of_mem _ lw_202)) dX7_takeFrom_74 ?_
      refine lv_iload_n hx hb dX7_takeFrom_77 rfl (lv_at hl 2 rfl) ?_
      refine lv_aload_n hx hb dX7_takeFrom_78 rfl (lv_at hl 1 rfl) ?_
      refine ge_7_7 hx hb hts (inU inW_X7) hown hK hP hk1 (hts _ (List.mem_cons_of_mem _ lw_202)) dX7_takeFrom_79 ?_
      refine lv_iload_n hx hb dX7_takeFrom_82 rfl (lv_at hl 2 rfl) ?_
      obtain ⟨g8, h⟩ := gd_s h
      refine xl_14 hx hb hK hP (kf_7_7 hk1) (lf_7_7 hk1) (ix_in g8) dX7_takeFrom_83 ?_
      obtain ⟨g9, h⟩ := gd_s h
      obtain ⟨z10, e_z10, h⟩ := nm_s h
      refine xs_14 hx hb hK hG hP hS (kf_7_7 hk0) (lf_7_7 hk0) (ix_in g9) dX7_takeFrom_84 (fun H locs hP hS => ?_)
      rw [← e_z10] at hP
      refine lv_aload_n hx hb dX7_takeFrom_85 rfl (lv_at hl 0 rfl) ?_
      refine ge_7_8 hx hb hts (inU inW_X7) hown hK hP hk0 (hts _ (List.mem_cons_of_mem _ lw_205)) dX7_takeFrom_86 ?_
      refine lv_iload_n hx hb dX7_takeFrom_89 rfl (lv_at hl 2 rfl) ?_
      refine lv_aload_n hx hb dX7_takeFrom_90 rfl (lv_at hl 1 rfl) ?_
      refine ge_7_8 hx hb hts (inU inW_X7) hown hK hP hk1 (hts _ (List.mem_cons_of_mem _ lw_205)) dX7_takeFrom_91 ?_
      refine lv_iload_n hx hb dX7_takeFrom_94 rfl (lv_at hl 2 rfl) ?_
      obtain ⟨g11, h⟩ := gd_s h
      refine xl_14 hx hb hK hP (kf_7_8 hk1) (lf_7_8 hk1) (ix_in g11) dX7_takeFrom_95 ?_
      obtain ⟨g12, h⟩ := gd_s h
      obtain ⟨z13, e_z13, h⟩ := nm_s h
      refine xs_14 hx hb hK hG hP hS (kf_7_8 hk0) (lf_7_8 hk0) (ix_in g12) dX7_takeFrom_96 (fun H locs hP hS => ?_)
      rw [← e_z13] at hP
      refine lv_aload_n hx hb dX7_takeFrom_97 rfl (lv_at hl 0 rfl) ?_
      refine ge_7_9 hx hb hts (inU inW_X7) hown hK hP hk0 (hts _ (List.mem_cons_of_mem _ lw_208)) dX7_takeFrom_98 ?_
      refine lv_iload_n hx hb dX7_takeFrom_101 rfl (lv_at hl 2 rfl) ?_
      refine lv_aload_n hx hb dX7_takeFrom_102 rfl (lv_at hl 1 rfl) ?_
      refine ge_7_9 hx hb hts (inU inW_X7) hown hK hP hk1 (hts _ (List.mem_cons_of_mem _ lw_208)) dX7_takeFrom_103 ?_
      refine lv_iload_n hx hb dX7_takeFrom_106 rfl (lv_at hl 2 rfl) ?_
      obtain ⟨g14, h⟩ := gd_s h
      refine xl_14 hx hb hK hP (kf_7_9 hk1) (lf_7_9 hk1) (ix_in g14) dX7_takeFrom_107 ?_
      obtain ⟨g15, h⟩ := gd_s h
      obtain ⟨z16, e_z16, h⟩ := nm_s h
      refine xs_14 hx hb hK hG hP hS (kf_7_9 hk0) (lf_7_9 hk0) (ix_in g15) dX7_takeFrom_108 (fun H locs hP hS => ?_)
      rw [← e_z16] at hP
      refine lv_iinc (v := (v2 + 1)) (lv' := [(2, .int (v2 + 1)), (0, .ref (G.2.2 p0)), (1, .ref (G.2.2 p1))]) hx hb dX7_takeFrom_109 hl (k := 2) rfl rfl (by decide) rfl (fun ls hl => ?_)
      refine lv_goto (tgt := 67) hx hb dX7_takeFrom_112 (by decide) ?_
      exact ih p0 p1 (v2 + 1) z16 hk0 hk1 _ _ _ hP hS (lv_sub hl [1, 2, 0] rfl) h
def fn_X7_takeFrom_10 : Nat → Nat → Nat → Int32 → St → Option (St)
  | 0, _, _, _, _ => none
  | n + 1, p0, p1, v2, z => (if 3 ≤ v2 then nm (sI z p0 5 (z.1 p1 5)) (fun z2 => fn_X7_takeFrom_67   fu p0 p1 0 z2) else gd (ix v2 3) (gd (ix v2 3) (nm (sI z (p0 + 2) (Int32.toNatClampNeg v2) (z.1 (p1 + 2) (Int32.toNatClampNeg v2))) (fun z5 => gd (ix v2 3) (gd (ix v2 3) (nm (sI z5 (p0 + 3) (Int32.toNatClampNeg v2) (z5.1 (p1 + 3) (Int32.toNatClampNeg v2))) (fun z8 => gd (ix v2 3) (gd (ix v2 3) (nm (sI z8 (p0 + 4) (Int32.toNatClampNeg v2) (z8.1 (p1 + 4) (Int32.toNatClampNeg v2))) (fun z11 => fn_X7_takeFrom_10   n p0 p1 (v2 + 1) z11))))))))))
set_option maxHeartbeats 4000000 in
set_option maxRecDepth 100000 in
theorem pf_X7_takeFrom_10 {p : Program} {l : Launch} {e : Env} {s : State} {m : MethodId} {args : Array Value} {below : List Frame} {meth : Method} {c : Code} {G : wG} (C : CX p s m args meth c cX7_takeFrom 3 (wsU yX7_takeFrom cX7_takeFrom 3 none) RX7 none G) {Rz : St} : ∀ (n : Nat) (p0 : Nat) (p1 : Nat) (v2 : Int32) (z : St) (hk0 : kd p0 = 7) (hk1 : kd p1 = 7) (H : Heap) (locs : List Loc) (ls : Array Slot), WP G z H → va_S (AW G) s.heap H locs → lv_has ls 3 [(0, .ref (G.2.2 p0)), (1, .ref (G.2.2 p1)), (2, .int v2)] → fn_X7_takeFrom_10   n p0 p1 v2 z = some Rz → W p l e (rmd 2) s m args below meth c H locs 0 0 (QV below args s G Rz) (F0 m 10 ls []) := by
  obtain ⟨hx, hb, hml, hown, hts, hr, hlocks, hK, hG⟩ := id C
  intro n
  induction n with
  | zero => intro p0 p1 v2 z hk0 hk1 H locs ls hP hS hl h; cases h
  | succ n ih =>
    intro p0 p1 v2 z hk0 hk1 H locs ls hP hS hl h
    rw [fn_X7_takeFrom_10] at h
    refine lv_iload_n hx hb dX7_takeFrom_10 rfl (lv_at hl 2 rfl) ?_
    refine lv_iconst (v := 3) hx hb dX7_takeFrom_11 (by decide) ?_
    refine lv_icmp_ge (tgt := 57) hx hb dX7_takeFrom_12 (by decide) (fun c1 => ?_) (fun c1 => ?_)
    · rw [if_pos c1] at h
      refine lv_aload_n hx hb dX7_takeFrom_57 rfl (lv_at hl 0 rfl) ?_
      refine lv_aload_n hx hb dX7_takeFrom_58 rfl (lv_at hl 1 rfl) ?_
      refine ge_7_5 hx hb hts (inU inW_X7) hown hK hP hk1 (hts _ (List.mem_cons_of_mem _ lw_194)) dX7_takeFrom_59 ?_
      obtain ⟨z2, e_z2, h⟩ := nm_s h
      refine pu_7_5 hx hb hts (inU inW_X7) hown hK hG hP hS hk0 (hts _ (List.mem_cons_of_mem _ lw_194)) dX7_takeFrom_62 (fun H locs hP hS => ?_)
      rw [← e_z2] at hP
      refine lv_iconst (v := 0) hx hb dX7_takeFrom_65 (by decide) ?_
      refine lv_istore_n (lv' := [(2, .int 0), (0, .ref (G.2.2 p0)), (1, .ref (G.2.2 p1))]) hx hb dX7_takeFrom_66 rfl hl (by decide) rfl (fun ls hl => ?_)
      exact pf_X7_takeFrom_67 C   fu p0 p1 0 z2 hk0 hk1 _ _ _ hP hS (lv_sub hl [1, 2, 0] rfl) h
    · rw [if_neg c1] at h
      refine lv_aload_n hx hb dX7_takeFrom_15 rfl (lv_at hl 0 rfl) ?_
      refine ge_7_2 hx hb hts (inU inW_X7) hown hK hP hk0 (hts _ (List.mem_cons_of_mem _ lw_184)) dX7_takeFrom_16 ?_
      refine lv_iload_n hx hb dX7_takeFrom_19 rfl (lv_at hl 2 rfl) ?_
      refine lv_aload_n hx hb dX7_takeFrom_20 rfl (lv_at hl 1 rfl) ?_
      refine ge_7_2 hx hb hts (inU inW_X7) hown hK hP hk1 (hts _ (List.mem_cons_of_mem _ lw_184)) dX7_takeFrom_21 ?_
      refine lv_iload_n hx hb dX7_takeFrom_24 rfl (lv_at hl 2 rfl) ?_
      obtain ⟨g3, h⟩ := gd_s h
      refine xl_14 hx hb hK hP (kf_7_2 hk1) (lf_7_2 hk1) (ix_in g3) dX7_takeFrom_25 ?_
      obtain ⟨g4, h⟩ := gd_s h
      obtain ⟨z5, e_z5, h⟩ := nm_s h
      refine xs_14 hx hb hK hG hP hS (kf_7_2 hk0) (lf_7_2 hk0) (ix_in g4) dX7_takeFrom_26 (fun H locs hP hS => ?_)
      rw [← e_z5] at hP
      refine lv_aload_n hx hb dX7_takeFrom_27 rfl (lv_at hl 0 rfl) ?_
      refine ge_7_3 hx hb hts (inU inW_X7) hown hK hP hk0 (hts _ (List.mem_cons_of_mem _ lw_188)) dX7_takeFrom_28 ?_
      refine lv_iload_n hx hb dX7_takeFrom_31 rfl (lv_at hl 2 rfl) ?_
      refine lv_aload_n hx hb dX7_takeFrom_32 rfl (lv_at hl 1 rfl) ?_
      refine ge_7_3 hx hb hts (inU inW_X7) hown hK hP hk1 (hts _ (List.mem_cons_of_mem _ lw_188)) dX7_takeFrom_33 ?_
      refine lv_iload_n hx hb dX7_takeFrom_36 rfl (lv_at hl 2 rfl) ?_
      obtain ⟨g6, h⟩ := gd_s h
      refine xl_14 hx hb hK hP (kf_7_3 hk1) (lf_7_3 hk1) (ix_in g6) dX7_takeFrom_37 ?_
      obtain ⟨g7, h⟩ := gd_s h
      obtain ⟨z8, e_z8, h⟩ := nm_s h
      refine xs_14 hx hb hK hG hP hS (kf_7_3 hk0) (lf_7_3 hk0) (ix_in g7) dX7_takeFrom_38 (fun H locs hP hS => ?_)
      rw [← e_z8] at hP
      refine lv_aload_n hx hb dX7_takeFrom_39 rfl (lv_at hl 0 rfl) ?_
      refine ge_7_4 hx hb hts (inU inW_X7) hown hK hP hk0 (hts _ (List.mem_cons_of_mem _ lw_192)) dX7_takeFrom_40 ?_
      refine lv_iload_n hx hb dX7_takeFrom_43 rfl (lv_at hl 2 rfl) ?_
      refine lv_aload_n hx hb dX7_takeFrom_44 rfl (lv_at hl 1 rfl) ?_
      refine ge_7_4 hx hb hts (inU inW_X7) hown hK hP hk1 (hts _ (List.mem_cons_of_mem _ lw_192)) dX7_takeFrom_45 ?_
      refine lv_iload_n hx hb dX7_takeFrom_48 rfl (lv_at hl 2 rfl) ?_
      obtain ⟨g9, h⟩ := gd_s h
      refine xl_14 hx hb hK hP (kf_7_4 hk1) (lf_7_4 hk1) (ix_in g9) dX7_takeFrom_49 ?_
      obtain ⟨g10, h⟩ := gd_s h
      obtain ⟨z11, e_z11, h⟩ := nm_s h
      refine xs_14 hx hb hK hG hP hS (kf_7_4 hk0) (lf_7_4 hk0) (ix_in g10) dX7_takeFrom_50 (fun H locs hP hS => ?_)
      rw [← e_z11] at hP
      refine lv_iinc (v := (v2 + 1)) (lv' := [(2, .int (v2 + 1)), (0, .ref (G.2.2 p0)), (1, .ref (G.2.2 p1))]) hx hb dX7_takeFrom_51 hl (k := 2) rfl rfl (by decide) rfl (fun ls hl => ?_)
      refine lv_goto (tgt := 10) hx hb dX7_takeFrom_54 (by decide) ?_
      exact ih p0 p1 (v2 + 1) z11 hk0 hk1 _ _ _ hP hS (lv_sub hl [1, 2, 0] rfl) h
def fn_X7_takeFrom (p0 : Nat) (p1 : Nat) (z : St) : Option (St) := nm (sI z p0 0 (z.1 p1 0)) (fun z1 => fn_X7_takeFrom_10   fu p0 p1 0 z1)
set_option maxHeartbeats 4000000 in
set_option maxRecDepth 100000 in
theorem m_X7_takeFrom {l : Launch} {G : wG} (hG : Ok G) {p0 : Nat} {p1 : Nat} {z : St} {Rz : St} (hk0 : kd p0 = 7) (hk1 : kd p1 = 7) (h : fn_X7_takeFrom  p0 p1 z = some Rz) : Met l yX7_takeFrom (wsU yX7_takeFrom cX7_takeFrom 3 none) (rmd 2) (va_Pc [.ref (G.2.2 p0), .ref (G.2.2 p1)] (Pre G z)) (va_Qv (fun u => u = Rz) (Pre G) (AW G)) 0 0 (AW G) := by
  refine Met.ofW (cc := cX7_takeFrom) (maxL := 3) (ret := none) (by decide) rfl ?_
  intro p e s m args below meth c s₁ B hml hv
  obtain ⟨rfl, hP, hK⟩ := hv
  have C : CX p s m ([.ref (G.2.2 p0), .ref (G.2.2 p1)] : List Value).toArray meth c cX7_takeFrom 3 (wsU yX7_takeFrom cX7_takeFrom 3 none) RX7 none G := ⟨B.exec, B.bytes, hml, findClass_of_methodNamed B.named, atoms_spec (ws := (wsU yX7_takeFrom cX7_takeFrom 3 none)) B.pre, B.returns, B.notSynchronized, hK, hG⟩
  obtain ⟨hx, hb, -, hown, hts, hr, hlocks, -, -⟩ := id C
  have hS : va_S (AW G) s.heap s.heap [] := va_S.rf
  have hl := lv_entry [.ref (G.2.2 p0), .ref (G.2.2 p1)] (n := 3) (Nat.le_of_ble_eq_true rfl)
  rw [lg_entry_eq]
  generalize (lg_sl [.ref (G.2.2 p0), .ref (G.2.2 p1)] ++ List.replicate (3 - (lg_sl [.ref (G.2.2 p0), .ref (G.2.2 p1)]).length) Slot.unset).toArray = ls at hl ⊢
  have hl : lv_has ls 3 [(0, .ref (G.2.2 p0)), (1, .ref (G.2.2 p1))] := hl
  unfold fn_X7_takeFrom at h
  refine lv_aload_n hx hb dX7_takeFrom_0 rfl (lv_at hl 0 rfl) ?_
  refine lv_aload_n hx hb dX7_takeFrom_1 rfl (lv_at hl 1 rfl) ?_
  refine ge_7_0 hx hb hts (inU inW_X7) hown hK hP hk1 (hts _ (List.mem_cons_of_mem _ lw_177)) dX7_takeFrom_2 ?_
  obtain ⟨z1, e_z1, h⟩ := nm_s h
  refine pu_7_0 hx hb hts (inU inW_X7) hown hK hG hP hS hk0 (hts _ (List.mem_cons_of_mem _ lw_177)) dX7_takeFrom_5 (fun H locs hP hS => ?_)
  rw [← e_z1] at hP
  refine lv_iconst (v := 0) hx hb dX7_takeFrom_8 (by decide) ?_
  refine lv_istore_n (lv' := [(2, .int 0), (0, .ref (G.2.2 p0)), (1, .ref (G.2.2 p1))]) hx hb dX7_takeFrom_9 rfl hl (by decide) rfl (fun ls hl => ?_)
  exact pf_X7_takeFrom_10 C   fu p0 p1 0 z1 hk0 hk1 _ _ _ hP hS (lv_sub hl [1, 2, 0] rfl) h
def fn_X7_addTier (p0 : Nat) (v1 : Int32) (v2 : Int32) (v3 : Int32) (z : St) : Option (St) := (if 3 ≤ (z.1 p0 0) then some z else gd (ix (z.1 p0 0) 3) (nm (sI z (p0 + 2) (Int32.toNatClampNeg (z.1 p0 0)) v1) (fun z3 => gd (ix (z3.1 p0 0) 3) (nm (sI z3 (p0 + 3) (Int32.toNatClampNeg (z3.1 p0 0)) v2) (fun z5 => gd (ix (z5.1 p0 0) 3) (nm (sI z5 (p0 + 4) (Int32.toNatClampNeg (z5.1 p0 0)) v3) (fun z7 => nm (sI z7 p0 0 ((z7.1 p0 0) + 1)) (fun z8 => some z8))))))))
set_option maxHeartbeats 4000000 in
set_option maxRecDepth 100000 in
theorem m_X7_addTier {l : Launch} {G : wG} (hG : Ok G) {p0 : Nat} {v1 : Int32} {v2 : Int32} {v3 : Int32} {z : St} {Rz : St} (hk0 : kd p0 = 7) (h : fn_X7_addTier  p0 v1 v2 v3 z = some Rz) : Met l yX7_addTier (wsU yX7_addTier cX7_addTier 4 none) (rmd 1) (va_Pc [.ref (G.2.2 p0), .int v1, .int v2, .int v3] (Pre G z)) (va_Qv (fun u => u = Rz) (Pre G) (AW G)) 0 0 (AW G) := by
  refine Met.ofW (cc := cX7_addTier) (maxL := 4) (ret := none) (by decide) rfl ?_
  intro p e s m args below meth c s₁ B hml hv
  obtain ⟨rfl, hP, hK⟩ := hv
  have C : CX p s m ([.ref (G.2.2 p0), .int v1, .int v2, .int v3] : List Value).toArray meth c cX7_addTier 4 (wsU yX7_addTier cX7_addTier 4 none) RX7 none G := ⟨B.exec, B.bytes, hml, findClass_of_methodNamed B.named, atoms_spec (ws := (wsU yX7_addTier cX7_addTier 4 none)) B.pre, B.returns, B.notSynchronized, hK, hG⟩
  obtain ⟨hx, hb, -, hown, hts, hr, hlocks, -, -⟩ := id C
  have hS : va_S (AW G) s.heap s.heap [] := va_S.rf
  have hl := lv_entry [.ref (G.2.2 p0), .int v1, .int v2, .int v3] (n := 4) (Nat.le_of_ble_eq_true rfl)
  rw [lg_entry_eq]
  generalize (lg_sl [.ref (G.2.2 p0), .int v1, .int v2, .int v3] ++ List.replicate (4 - (lg_sl [.ref (G.2.2 p0), .int v1, .int v2, .int v3]).length) Slot.unset).toArray = ls at hl ⊢
  have hl : lv_has ls 4 [(0, .ref (G.2.2 p0)), (1, .int v1), (2, .int v2), (3, .int v3)] := hl
  unfold fn_X7_addTier at h
  refine lv_aload_n hx hb dX7_addTier_0 rfl (lv_at hl 0 rfl) ?_
  refine ge_7_0 hx hb hts (inU inW_X7) hown hK hP hk0 (hts _ (List.mem_cons_of_mem _ lw_177)) dX7_addTier_1 ?_
  refine lv_iconst (v := 3) hx hb dX7_addTier_4 (by decide) ?_
  refine lv_icmp_ge (tgt := 48) hx hb dX7_addTier_5 (by decide) (fun c1 => ?_) (fun c1 => ?_)
  · rw [if_pos c1] at h
    exact x_vret hx hb hr hlocks hK hP hS h dX7_addTier_48
  · rw [if_neg c1] at h
    refine lv_aload_n hx hb dX7_addTier_8 rfl (lv_at hl 0 rfl) ?_
    refine ge_7_2 hx hb hts (inU inW_X7) hown hK hP hk0 (hts _ (List.mem_cons_of_mem _ lw_184)) dX7_addTier_9 ?_
    refine lv_aload_n hx hb dX7_addTier_12 rfl (lv_at hl 0 rfl) ?_
    refine ge_7_0 hx hb hts (inU inW_X7) hown hK hP hk0 (hts _ (List.mem_cons_of_mem _ lw_177)) dX7_addTier_13 ?_
    refine lv_iload_n hx hb dX7_addTier_16 rfl (lv_at hl 1 rfl) ?_
    obtain ⟨g2, h⟩ := gd_s h
    obtain ⟨z3, e_z3, h⟩ := nm_s h
    refine xs_14 hx hb hK hG hP hS (kf_7_2 hk0) (lf_7_2 hk0) (ix_in g2) dX7_addTier_17 (fun H locs hP hS => ?_)
    rw [← e_z3] at hP
    refine lv_aload_n hx hb dX7_addTier_18 rfl (lv_at hl 0 rfl) ?_
    refine ge_7_3 hx hb hts (inU inW_X7) hown hK hP hk0 (hts _ (List.mem_cons_of_mem _ lw_188)) dX7_addTier_19 ?_
    refine lv_aload_n hx hb dX7_addTier_22 rfl (lv_at hl 0 rfl) ?_
    refine ge_7_0 hx hb hts (inU inW_X7) hown hK hP hk0 (hts _ (List.mem_cons_of_mem _ lw_177)) dX7_addTier_23 ?_
    refine lv_iload_n hx hb dX7_addTier_26 rfl (lv_at hl 2 rfl) ?_
    obtain ⟨g4, h⟩ := gd_s h
    obtain ⟨z5, e_z5, h⟩ := nm_s h
    refine xs_14 hx hb hK hG hP hS (kf_7_3 hk0) (lf_7_3 hk0) (ix_in g4) dX7_addTier_27 (fun H locs hP hS => ?_)
    rw [← e_z5] at hP
    refine lv_aload_n hx hb dX7_addTier_28 rfl (lv_at hl 0 rfl) ?_
    refine ge_7_4 hx hb hts (inU inW_X7) hown hK hP hk0 (hts _ (List.mem_cons_of_mem _ lw_192)) dX7_addTier_29 ?_
    refine lv_aload_n hx hb dX7_addTier_32 rfl (lv_at hl 0 rfl) ?_
    refine ge_7_0 hx hb hts (inU inW_X7) hown hK hP hk0 (hts _ (List.mem_cons_of_mem _ lw_177)) dX7_addTier_33 ?_
    refine lv_iload_n hx hb dX7_addTier_36 rfl (lv_at hl 3 rfl) ?_
    obtain ⟨g6, h⟩ := gd_s h
    obtain ⟨z7, e_z7, h⟩ := nm_s h
    refine xs_14 hx hb hK hG hP hS (kf_7_4 hk0) (lf_7_4 hk0) (ix_in g6) dX7_addTier_37 (fun H locs hP hS => ?_)
    rw [← e_z7] at hP
    refine lv_aload_n hx hb dX7_addTier_38 rfl (lv_at hl 0 rfl) ?_
    refine lv_dup hx hb dX7_addTier_39 rfl ?_
    refine ge_7_0 hx hb hts (inU inW_X7) hown hK hP hk0 (hts _ (List.mem_cons_of_mem _ lw_177)) dX7_addTier_40 ?_
    refine lv_iconst (v := 1) hx hb dX7_addTier_43 (by decide) ?_
    refine lv_iadd hx hb dX7_addTier_44 ?_
    obtain ⟨z8, e_z8, h⟩ := nm_s h
    refine pu_7_0 hx hb hts (inU inW_X7) hown hK hG hP hS hk0 (hts _ (List.mem_cons_of_mem _ lw_177)) dX7_addTier_45 (fun H locs hP hS => ?_)
    rw [← e_z8] at hP
    exact x_vret hx hb hr hlocks hK hP hS h dX7_addTier_48
def fn_X7_addGuest (p0 : Nat) (v1 : Int32) (v2 : Int32) (v3 : Int32) (z : St) : Option (St) := (if 6 ≤ (z.1 p0 5) then some z else gd (ix (z.1 p0 5) 6) (nm (sI z (p0 + 6) (Int32.toNatClampNeg (z.1 p0 5)) v1) (fun z3 => gd (ix (z3.1 p0 5) 6) (nm (sI z3 (p0 + 7) (Int32.toNatClampNeg (z3.1 p0 5)) v2) (fun z5 => gd (ix (z5.1 p0 5) 6) (nm (sI z5 (p0 + 8) (Int32.toNatClampNeg (z5.1 p0 5)) v3) (fun z7 => nm (sI z7 p0 5 ((z7.1 p0 5) + 1)) (fun z8 => some z8))))))))
set_option maxHeartbeats 4000000 in
set_option maxRecDepth 100000 in
theorem m_X7_addGuest {l : Launch} {G : wG} (hG : Ok G) {p0 : Nat} {v1 : Int32} {v2 : Int32} {v3 : Int32} {z : St} {Rz : St} (hk0 : kd p0 = 7) (h : fn_X7_addGuest  p0 v1 v2 v3 z = some Rz) : Met l yX7_addGuest (wsU yX7_addGuest cX7_addGuest 4 none) (rmd 1) (va_Pc [.ref (G.2.2 p0), .int v1, .int v2, .int v3] (Pre G z)) (va_Qv (fun u => u = Rz) (Pre G) (AW G)) 0 0 (AW G) := by
  refine Met.ofW (cc := cX7_addGuest) (maxL := 4) (ret := none) (by decide) rfl ?_
  intro p e s m args below meth c s₁ B hml hv
  obtain ⟨rfl, hP, hK⟩ := hv
  have C : CX p s m ([.ref (G.2.2 p0), .int v1, .int v2, .int v3] : List Value).toArray meth c cX7_addGuest 4 (wsU yX7_addGuest cX7_addGuest 4 none) RX7 none G := ⟨B.exec, B.bytes, hml, findClass_of_methodNamed B.named, atoms_spec (ws := (wsU yX7_addGuest cX7_addGuest 4 none)) B.pre, B.returns, B.notSynchronized, hK, hG⟩
  obtain ⟨hx, hb, -, hown, hts, hr, hlocks, -, -⟩ := id C
  have hS : va_S (AW G) s.heap s.heap [] := va_S.rf
  have hl := lv_entry [.ref (G.2.2 p0), .int v1, .int v2, .int v3] (n := 4) (Nat.le_of_ble_eq_true rfl)
  rw [lg_entry_eq]
  generalize (lg_sl [.ref (G.2.2 p0), .int v1, .int v2, .int v3] ++ List.replicate (4 - (lg_sl [.ref (G.2.2 p0), .int v1, .int v2, .int v3]).length) Slot.unset).toArray = ls at hl ⊢
  have hl : lv_has ls 4 [(0, .ref (G.2.2 p0)), (1, .int v1), (2, .int v2), (3, .int v3)] := hl
  unfold fn_X7_addGuest at h
  refine lv_aload_n hx hb dX7_addGuest_0 rfl (lv_at hl 0 rfl) ?_
  refine ge_7_5 hx hb hts (inU inW_X7) hown hK hP hk0 (hts _ (List.mem_cons_of_mem _ lw_194)) dX7_addGuest_1 ?_
  refine lv_bipush (v := 6) hx hb dX7_addGuest_4 (by decide) ?_
  refine lv_icmp_ge (tgt := 49) hx hb dX7_addGuest_6 (by decide) (fun c1 => ?_) (fun c1 => ?_)
  · rw [if_pos c1] at h
    exact x_vret hx hb hr hlocks hK hP hS h dX7_addGuest_49
  · rw [if_neg c1] at h
    refine lv_aload_n hx hb dX7_addGuest_9 rfl (lv_at hl 0 rfl) ?_
    refine ge_7_7 hx hb hts (inU inW_X7) hown hK hP hk0 (hts _ (List.mem_cons_of_mem _ lw_202)) dX7_addGuest_10 ?_
    refine lv_aload_n hx hb dX7_addGuest_13 rfl (lv_at hl 0 rfl) ?_
    refine ge_7_5 hx hb hts (inU inW_X7) hown hK hP hk0 (hts _ (List.mem_cons_of_mem _ lw_194)) dX7_addGuest_14 ?_
    refine lv_iload_n hx hb dX7_addGuest_17 rfl (lv_at hl 1 rfl) ?_
    obtain ⟨g2, h⟩ := gd_s h
    obtain ⟨z3, e_z3, h⟩ := nm_s h
    refine xs_14 hx hb hK hG hP hS (kf_7_7 hk0) (lf_7_7 hk0) (ix_in g2) dX7_addGuest_18 (fun H locs hP hS => ?_)
    rw [← e_z3] at hP
    refine lv_aload_n hx hb dX7_addGuest_19 rfl (lv_at hl 0 rfl) ?_
    refine ge_7_8 hx hb hts (inU inW_X7) hown hK hP hk0 (hts _ (List.mem_cons_of_mem _ lw_205)) dX7_addGuest_20 ?_
    refine lv_aload_n hx hb dX7_addGuest_23 rfl (lv_at hl 0 rfl) ?_
    refine ge_7_5 hx hb hts (inU inW_X7) hown hK hP hk0 (hts _ (List.mem_cons_of_mem _ lw_194)) dX7_addGuest_24 ?_
    refine lv_iload_n hx hb dX7_addGuest_27 rfl (lv_at hl 2 rfl) ?_
    obtain ⟨g4, h⟩ := gd_s h
    obtain ⟨z5, e_z5, h⟩ := nm_s h
    refine xs_14 hx hb hK hG hP hS (kf_7_8 hk0) (lf_7_8 hk0) (ix_in g4) dX7_addGuest_28 (fun H locs hP hS => ?_)
    rw [← e_z5] at hP
    refine lv_aload_n hx hb dX7_addGuest_29 rfl (lv_at hl 0 rfl) ?_
    refine ge_7_9 hx hb hts (inU inW_X7) hown hK hP hk0 (hts _ (List.mem_cons_of_mem _ lw_208)) dX7_addGuest_30 ?_
    refine lv_aload_n hx hb dX7_addGuest_33 rfl (lv_at hl 0 rfl) ?_
    refine ge_7_5 hx hb hts (inU inW_X7) hown hK hP hk0 (hts _ (List.mem_cons_of_mem _ lw_194)) dX7_addGuest_34 ?_
    refine lv_iload_n hx hb dX7_addGuest_37 rfl (lv_at hl 3 rfl) ?_
    obtain ⟨g6, h⟩ := gd_s h
    obtain ⟨z7, e_z7, h⟩ := nm_s h
    refine xs_14 hx hb hK hG hP hS (kf_7_9 hk0) (lf_7_9 hk0) (ix_in g6) dX7_addGuest_38 (fun H locs hP hS => ?_)
    rw [← e_z7] at hP
    refine lv_aload_n hx hb dX7_addGuest_39 rfl (lv_at hl 0 rfl) ?_
    refine lv_dup hx hb dX7_addGuest_40 rfl ?_
    refine ge_7_5 hx hb hts (inU inW_X7) hown hK hP hk0 (hts _ (List.mem_cons_of_mem _ lw_194)) dX7_addGuest_41 ?_
    refine lv_iconst (v := 1) hx hb dX7_addGuest_44 (by decide) ?_
    refine lv_iadd hx hb dX7_addGuest_45 ?_
    obtain ⟨z8, e_z8, h⟩ := nm_s h
    refine pu_7_5 hx hb hts (inU inW_X7) hown hK hG hP hS hk0 (hts _ (List.mem_cons_of_mem _ lw_194)) dX7_addGuest_46 (fun H locs hP hS => ?_)
    rw [← e_z8] at hP
    exact x_vret hx hb hr hlocks hK hP hS h dX7_addGuest_49
def fn_X7_isTier (p0 : Nat) (v1 : Int32) (z : St) : Option (Int32 × St) := (if v1 < 0 then some (0, z) else (if (z.1 p0 0) ≤ v1 then some (0, z) else some (1, z)))
set_option maxHeartbeats 4000000 in
set_option maxRecDepth 100000 in
theorem m_X7_isTier {l : Launch} {G : wG} (hG : Ok G) {p0 : Nat} {v1 : Int32} {z : St} {Rz : Int32 × St} (hk0 : kd p0 = 7) (h : fn_X7_isTier  p0 v1 z = some Rz) : Met l yX7_isTier (wsU yX7_isTier cX7_isTier 2 (some .boolean)) (rmd 1) (va_Pc [.ref (G.2.2 p0), .int v1] (Pre G z)) (va_Qi (fun r u => (r, u) = Rz) (Pre G) (AW G)) 0 0 (AW G) := by
  refine Met.ofW (cc := cX7_isTier) (maxL := 2) (ret := (some .boolean)) (by decide) rfl ?_
  intro p e s m args below meth c s₁ B hml hv
  obtain ⟨rfl, hP, hK⟩ := hv
  have C : CX p s m ([.ref (G.2.2 p0), .int v1] : List Value).toArray meth c cX7_isTier 2 (wsU yX7_isTier cX7_isTier 2 (some .boolean)) RX7 (some .boolean) G := ⟨B.exec, B.bytes, hml, findClass_of_methodNamed B.named, atoms_spec (ws := (wsU yX7_isTier cX7_isTier 2 (some .boolean))) B.pre, B.returns, B.notSynchronized, hK, hG⟩
  obtain ⟨hx, hb, -, hown, hts, hr, hlocks, -, -⟩ := id C
  have hS : va_S (AW G) s.heap s.heap [] := va_S.rf
  have hl := lv_entry [.ref (G.2.2 p0), .int v1] (n := 2) (Nat.le_of_ble_eq_true rfl)
  rw [lg_entry_eq]
  generalize (lg_sl [.ref (G.2.2 p0), .int v1] ++ List.replicate (2 - (lg_sl [.ref (G.2.2 p0), .int v1]).length) Slot.unset).toArray = ls at hl ⊢
  have hl : lv_has ls 2 [(0, .ref (G.2.2 p0)), (1, .int v1)] := hl
  unfold fn_X7_isTier at h
  refine lv_iload_n hx hb dX7_isTier_0 rfl (lv_at hl 1 rfl) ?_
  refine lv_if_lt (tgt := 16) hx hb dX7_isTier_1 (by decide) (fun c1 => ?_) (fun c1 => ?_)
  · rw [if_pos c1] at h
    refine lv_iconst (v := 0) hx hb dX7_isTier_16 (by decide) ?_
    exact x_zret hx hb hr hlocks hK hP hS rfl h dX7_isTier_17
  · rw [if_neg c1] at h
    refine lv_iload_n hx hb dX7_isTier_4 rfl (lv_at hl 1 rfl) ?_
    refine lv_aload_n hx hb dX7_isTier_5 rfl (lv_at hl 0 rfl) ?_
    refine ge_7_0 hx hb hts (inU inW_X7) hown hK hP hk0 (hts _ (List.mem_cons_of_mem _ lw_177)) dX7_isTier_6 ?_
    refine lv_icmp_ge (tgt := 16) hx hb dX7_isTier_9 (by decide) (fun c2 => ?_) (fun c2 => ?_)
    · rw [if_pos c2] at h
      refine lv_iconst (v := 0) hx hb dX7_isTier_16 (by decide) ?_
      exact x_zret hx hb hr hlocks hK hP hS rfl h dX7_isTier_17
    · rw [if_neg c2] at h
      refine lv_iconst (v := 1) hx hb dX7_isTier_12 (by decide) ?_
      refine lv_goto (tgt := 17) hx hb dX7_isTier_13 (by decide) ?_
      exact x_zret hx hb hr hlocks hK hP hS rfl h dX7_isTier_17
def fn_X7_isGuest (p0 : Nat) (v1 : Int32) (z : St) : Option (Int32 × St) := (if v1 < 0 then some (0, z) else (if (z.1 p0 5) ≤ v1 then some (0, z) else some (1, z)))
set_option maxHeartbeats 4000000 in
set_option maxRecDepth 100000 in
theorem m_X7_isGuest {l : Launch} {G : wG} (hG : Ok G) {p0 : Nat} {v1 : Int32} {z : St} {Rz : Int32 × St} (hk0 : kd p0 = 7) (h : fn_X7_isGuest  p0 v1 z = some Rz) : Met l yX7_isGuest (wsU yX7_isGuest cX7_isGuest 2 (some .boolean)) (rmd 1) (va_Pc [.ref (G.2.2 p0), .int v1] (Pre G z)) (va_Qi (fun r u => (r, u) = Rz) (Pre G) (AW G)) 0 0 (AW G) := by
  refine Met.ofW (cc := cX7_isGuest) (maxL := 2) (ret := (some .boolean)) (by decide) rfl ?_
  intro p e s m args below meth c s₁ B hml hv
  obtain ⟨rfl, hP, hK⟩ := hv
  have C : CX p s m ([.ref (G.2.2 p0), .int v1] : List Value).toArray meth c cX7_isGuest 2 (wsU yX7_isGuest cX7_isGuest 2 (some .boolean)) RX7 (some .boolean) G := ⟨B.exec, B.bytes, hml, findClass_of_methodNamed B.named, atoms_spec (ws := (wsU yX7_isGuest cX7_isGuest 2 (some .boolean))) B.pre, B.returns, B.notSynchronized, hK, hG⟩
  obtain ⟨hx, hb, -, hown, hts, hr, hlocks, -, -⟩ := id C
  have hS : va_S (AW G) s.heap s.heap [] := va_S.rf
  have hl := lv_entry [.ref (G.2.2 p0), .int v1] (n := 2) (Nat.le_of_ble_eq_true rfl)
  rw [lg_entry_eq]
  generalize (lg_sl [.ref (G.2.2 p0), .int v1] ++ List.replicate (2 - (lg_sl [.ref (G.2.2 p0), .int v1]).length) Slot.unset).toArray = ls at hl ⊢
  have hl : lv_has ls 2 [(0, .ref (G.2.2 p0)), (1, .int v1)] := hl
  unfold fn_X7_isGuest at h
  refine lv_iload_n hx hb dX7_isGuest_0 rfl (lv_at hl 1 rfl) ?_
  refine lv_if_lt (tgt := 16) hx hb dX7_isGuest_1 (by decide) (fun c1 => ?_) (fun c1 => ?_)
  · rw [if_pos c1] at h
    refine lv_iconst (v := 0) hx hb dX7_isGuest_16 (by decide) ?_
    exact x_zret hx hb hr hlocks hK hP hS rfl h dX7_isGuest_17
  · rw [if_neg c1] at h
    refine lv_iload_n hx hb dX7_isGuest_4 rfl (lv_at hl 1 rfl) ?_
    refine lv_aload_n hx hb dX7_isGuest_5 rfl (lv_at hl 0 rfl) ?_
    refine ge_7_5 hx hb hts (inU inW_X7) hown hK hP hk0 (hts _ (List.mem_cons_of_mem _ lw_194)) dX7_isGuest_6 ?_
    refine lv_icmp_ge (tgt := 16) hx hb dX7_isGuest_9 (by decide) (fun c2 => ?_) (fun c2 => ?_)
    · rw [if_pos c2] at h
      refine lv_iconst (v := 0) hx hb dX7_isGuest_16 (by decide) ?_
      exact x_zret hx hb hr hlocks hK hP hS rfl h dX7_isGuest_17
    · rw [if_neg c2] at h
      refine lv_iconst (v := 1) hx hb dX7_isGuest_12 (by decide) ?_
      refine lv_goto (tgt := 17) hx hb dX7_isGuest_13 (by decide) ?_
      exact x_zret hx hb hr hlocks hK hP hS rfl h dX7_isGuest_17
def fn_X7_areaOf (p0 : Nat) (p1 : Nat) (z : St) : Option (Int32 × St) := bd (fn_X7_isTier  p0 (z.1 p1 0) z) (fun r2 z3 => (if r2 = 0 then some (0, z3) else gd (ix (z3.1 p1 0) 3) (some ((((z3.1 p1 3) * (z3.1 p1 4)) * (z3.1 (p0 + 4) (Int32.toNatClampNeg (z3.1 p1 0)))), z3))))
set_option maxHeartbeats 4000000 in
set_option maxRecDepth 100000 in
theorem m_X7_areaOf {l : Launch} {G : wG} (hG : Ok G) {p0 : Nat} {p1 : Nat} {z : St} {Rz : Int32 × St} (hk0 : kd p0 = 7) (hk1 : kd p1 = 9) (h : fn_X7_areaOf  p0 p1 z = some Rz) : Met l yX7_areaOf (wsU yX7_areaOf cX7_areaOf 2 (some .int)) (rmd 2) (va_Pc [.ref (G.2.2 p0), .ref (G.2.2 p1)] (Pre G z)) (va_Qi (fun r u => (r, u) = Rz) (Pre G) (AW G)) 0 0 (AW G) := by
  refine Met.ofW (cc := cX7_areaOf) (maxL := 2) (ret := (some .int)) (by decide) rfl ?_
  intro p e s m args below meth c s₁ B hml hv
  obtain ⟨rfl, hP, hK⟩ := hv
  have C : CX p s m ([.ref (G.2.2 p0), .ref (G.2.2 p1)] : List Value).toArray meth c cX7_areaOf 2 (wsU yX7_areaOf cX7_areaOf 2 (some .int)) RX7 (some .int) G := ⟨B.exec, B.bytes, hml, findClass_of_methodNamed B.named, atoms_spec (ws := (wsU yX7_areaOf cX7_areaOf 2 (some .int))) B.pre, B.returns, B.notSynchronized, hK, hG⟩
  obtain ⟨hx, hb, -, hown, hts, hr, hlocks, -, -⟩ := id C
  have hS : va_S (AW G) s.heap s.heap [] := va_S.rf
  have hl := lv_entry [.ref (G.2.2 p0), .ref (G.2.2 p1)] (n := 2) (Nat.le_of_ble_eq_true rfl)
  rw [lg_entry_eq]
  generalize (lg_sl [.ref (G.2.2 p0), .ref (G.2.2 p1)] ++ List.replicate (2 - (lg_sl [.ref (G.2.2 p0), .ref (G.2.2 p1)]).length) Slot.unset).toArray = ls at hl ⊢
  have hl : lv_has ls 2 [(0, .ref (G.2.2 p0)), (1, .ref (G.2.2 p1))] := hl
  unfold fn_X7_areaOf at h
  refine lv_aload_n hx hb dX7_areaOf_0 rfl (lv_at hl 0 rfl) ?_
  refine lv_aload_n hx hb dX7_areaOf_1 rfl (lv_at hl 1 rfl) ?_
  refine ge_9_0 hx hb hts (inU inW_X9) hown hK hP hk1 (hts _ (List.mem_cons_of_mem _ lw_377)) dX7_areaOf_2 ?_
  obtain ⟨r2, z3, h1, h⟩ := bd_s h
  refine x_Vi (Rz := (r2, z3)) (As := [.int (z.1 p1 0)]) (rest := []) ⟨hx, hb, hml, hown, hts⟩ hK hP hS (kd_lt hk0 (by decide)) (cell_7 hk0) rfl (m_X7_isTier hG  hk0 h1) (cwV 1 hts (gV lw_950 lw_951 lw_952 lw_110 lw_953) rfl rfl rfl (by decide +kernel) (rmd_ok (by decide) (by decide))) rfl hl.1 rfl (Nat.le_of_ble_eq_true rfl) dX7_areaOf_5 ⟨Nat.le_refl _, Nat.le_refl _⟩ (fun H locs hP hS => ?_)
  refine lv_if_eq (tgt := 33) hx hb dX7_areaOf_8 (by decide) (fun c4 => ?_) (fun c4 => ?_)
  · rw [if_pos c4] at h
    refine lv_iconst (v := 0) hx hb dX7_areaOf_33 (by decide) ?_
    exact x_iret hx hb hr hlocks hK hP hS h dX7_areaOf_34
  · rw [if_neg c4] at h
    refine lv_aload_n hx hb dX7_areaOf_11 rfl (lv_at hl 1 rfl) ?_
    refine ge_9_3 hx hb hts (inU inW_X9) hown hK hP hk1 (hts _ (List.mem_cons_of_mem _ lw_386)) dX7_areaOf_12 ?_
    refine lv_aload_n hx hb dX7_areaOf_15 rfl (lv_at hl 1 rfl) ?_
    refine ge_9_4 hx hb hts (inU inW_X9) hown hK hP hk1 (hts _ (List.mem_cons_of_mem _ lw_389)) dX7_areaOf_16 ?_
    refine lv_imul hx hb dX7_areaOf_19 ?_
    refine lv_aload_n hx hb dX7_areaOf_20 rfl (lv_at hl 0 rfl) ?_
    refine ge_7_4 hx hb hts (inU inW_X7) hown hK hP hk0 (hts _ (List.mem_cons_of_mem _ lw_192)) dX7_areaOf_21 ?_
    refine lv_aload_n hx hb dX7_areaOf_24 rfl (lv_at hl 1 rfl) ?_
    refine ge_9_0 hx hb hts (inU inW_X9) hown hK hP hk1 (hts _ (List.mem_cons_of_mem _ lw_377)) dX7_areaOf_25 ?_
    obtain ⟨g5, h⟩ := gd_s h
    refine xl_14 hx hb hK hP (kf_7_4 hk0) (lf_7_4 hk0) (ix_in g5) dX7_areaOf_28 ?_
    refine lv_imul hx hb dX7_areaOf_29 ?_
    refine lv_goto (tgt := 34) hx hb dX7_areaOf_30 (by decide) ?_
    exact x_iret hx hb hr hlocks hK hP hS h dX7_areaOf_34
def fn_X7_icingOf_71 (p0 : Nat) (p1 : Nat) (v2 : Int32) (z : St) : Option (Int32 × St) := gd (ix (z.1 p1 0) 3) ((if ((z.1 p1 2) + (z.1 p1 4)) = (z.1 (p0 + 3) (Int32.toNatClampNeg (z.1 p1 0))) then nm (v2 + (z.1 p1 3)) (fun v2_3 => some (v2_3, z)) else some (v2, z)))
set_option maxHeartbeats 4000000 in
set_option maxRecDepth 100000 in
theorem pf_X7_icingOf_71 {p : Program} {l : Launch} {e : Env} {s : State} {m : MethodId} {args : Array Value} {below : List Frame} {meth : Method} {c : Code} {G : wG} (C : CX p s m args meth c cX7_icingOf 3 (wsU yX7_icingOf cX7_icingOf 3 (some .int)) RX7 (some .int) G) {Rz : Int32 × St} (p0 : Nat) (p1 : Nat) (v2 : Int32) (z : St) (hk0 : kd p0 = 7) (hk1 : kd p1 = 9) {H : Heap} {locs : List Loc} {ls : Array Slot} (hP : WP G z H) (hS : va_S (AW G) s.heap H locs) (hl : lv_has ls 3 [(0, .ref (G.2.2 p0)), (1, .ref (G.2.2 p1)), (2, .int v2)]) (h : fn_X7_icingOf_71   p0 p1 v2 z = some Rz) : W p l e (rmd 2) s m args below meth c H locs 0 0 (QI below args s G Rz) (F0 m 71 ls []) := by
  obtain ⟨hx, hb, hml, hown, hts, hr, hlocks, hK, hG⟩ := id C
  unfold fn_X7_icingOf_71 at h
  refine lv_aload_n hx hb dX7_icingOf_71 rfl (lv_at hl 1 rfl) ?_
  refine ge_9_2 hx hb hts (inU inW_X9) hown hK hP hk1 (hts _ (List.mem_cons_of_mem _ lw_383)) dX7_icingOf_72 ?_
  refine lv_aload_n hx hb dX7_icingOf_75 rfl (lv_at hl 1 rfl) ?_
  refine ge_9_4 hx hb hts (inU inW_X9) hown hK hP hk1 (hts _ (List.mem_cons_of_mem _ lw_389)) dX7_icingOf_76 ?_
  refine lv_iadd hx hb dX7_icingOf_79 ?_
  refine lv_aload_n hx hb dX7_icingOf_80 rfl (lv_at hl 0 rfl) ?_
  refine ge_7_3 hx hb hts (inU inW_X7) hown hK hP hk0 (hts _ (List.mem_cons_of_mem _ lw_188)) dX7_icingOf_81 ?_
  refine lv_aload_n hx hb dX7_icingOf_84 rfl (lv_at hl 1 rfl) ?_
  refine ge_9_0 hx hb hts (inU inW_X9) hown hK hP hk1 (hts _ (List.mem_cons_of_mem _ lw_377)) dX7_icingOf_85 ?_
  obtain ⟨g1, h⟩ := gd_s h
  refine xl_14 hx hb hK hP (kf_7_3 hk0) (lf_7_3 hk0) (ix_in g1) dX7_icingOf_88 ?_
  refine lv_icmp_ne (tgt := 99) hx hb dX7_icingOf_89 (by decide) (fun c2 => ?_) (fun c2 => ?_)
  · rw [if_neg c2] at h
    refine lv_iload_n hx hb dX7_icingOf_99 rfl (lv_at hl 2 rfl) ?_
    exact x_iret hx hb hr hlocks hK hP hS h dX7_icingOf_100
  · rw [if_pos c2] at h
    refine lv_iload_n hx hb dX7_icingOf_92 rfl (lv_at hl 2 rfl) ?_
    refine lv_aload_n hx hb dX7_icingOf_93 rfl (lv_at hl 1 rfl) ?_
    refine ge_9_3 hx hb hts (inU inW_X9) hown hK hP hk1 (hts _ (List.mem_cons_of_mem _ lw_386)) dX7_icingOf_94 ?_
    refine lv_iadd hx hb dX7_icingOf_97 ?_
    obtain ⟨v2_3, e_v2_3, h⟩ := nm_s h
    refine x_top e_v2_3 ?_
    refine lv_istore_n (lv' := [(2, .int v2_3), (0, .ref (G.2.2 p0)), (1, .ref (G.2.2 p1))]) hx hb dX7_icingOf_98 rfl hl (by decide) rfl (fun ls hl => ?_)
    refine lv_iload_n hx hb dX7_icingOf_99 rfl (lv_at hl 0 rfl) ?_
    exact x_iret hx hb hr hlocks hK hP hS h dX7_icingOf_100
def fn_X7_icingOf_57 (p0 : Nat) (p1 : Nat) (v2 : Int32) (z : St) : Option (Int32 × St) := (if (z.1 p1 2) = 0 then nm (v2 + (z.1 p1 3)) (fun v2_2 => fn_X7_icingOf_71   p0 p1 v2_2 z) else fn_X7_icingOf_71   p0 p1 v2 z)
set_option maxHeartbeats 4000000 in
set_option maxRecDepth 100000 in
theorem pf_X7_icingOf_57 {p : Program} {l : Launch} {e : Env} {s : State} {m : MethodId} {args : Array Value} {below : List Frame} {meth : Method} {c : Code} {G : wG} (C : CX p s m args meth c cX7_icingOf 3 (wsU yX7_icingOf cX7_icingOf 3 (some .int)) RX7 (some .int) G) {Rz : Int32 × St} (p0 : Nat) (p1 : Nat) (v2 : Int32) (z : St) (hk0 : kd p0 = 7) (hk1 : kd p1 = 9) {H : Heap} {locs : List Loc} {ls : Array Slot} (hP : WP G z H) (hS : va_S (AW G) s.heap H locs) (hl : lv_has ls 3 [(0, .ref (G.2.2 p0)), (1, .ref (G.2.2 p1)), (2, .int v2)]) (h : fn_X7_icingOf_57   p0 p1 v2 z = some Rz) : W p l e (rmd 2) s m args below meth c H locs 0 0 (QI below args s G Rz) (F0 m 57 ls []) := by
  obtain ⟨hx, hb, hml, hown, hts, hr, hlocks, hK, hG⟩ := id C
  unfold fn_X7_icingOf_57 at h
  refine lv_aload_n hx hb dX7_icingOf_57 rfl (lv_at hl 1 rfl) ?_
  refine ge_9_2 hx hb hts (inU inW_X9) hown hK hP hk1 (hts _ (List.mem_cons_of_mem _ lw_383)) dX7_icingOf_58 ?_
  refine lv_if_ne (tgt := 71) hx hb dX7_icingOf_61 (by decide) (fun c1 => ?_) (fun c1 => ?_)
  · rw [if_neg c1] at h
    exact pf_X7_icingOf_71 C   p0 p1 v2 z hk0 hk1 hP hS (lv_sub hl [0, 1, 2] rfl) h
  · rw [if_pos c1] at h
    refine lv_iload_n hx hb dX7_icingOf_64 rfl (lv_at hl 2 rfl) ?_
    refine lv_aload_n hx hb dX7_icingOf_65 rfl (lv_at hl 1 rfl) ?_
    refine ge_9_3 hx hb hts (inU inW_X9) hown hK hP hk1 (hts _ (List.mem_cons_of_mem _ lw_386)) dX7_icingOf_66 ?_
    refine lv_iadd hx hb dX7_icingOf_69 ?_
    obtain ⟨v2_2, e_v2_2, h⟩ := nm_s h
    refine x_top e_v2_2 ?_
    refine lv_istore_n (lv' := [(2, .int v2_2), (0, .ref (G.2.2 p0)), (1, .ref (G.2.2 p1))]) hx hb dX7_icingOf_70 rfl hl (by decide) rfl (fun ls hl => ?_)
    exact pf_X7_icingOf_71 C   p0 p1 v2_2 z hk0 hk1 hP hS (lv_sub hl [1, 2, 0] rfl) h
def fn_X7_icingOf_28 (p0 : Nat) (p1 : Nat) (tv0 : Int32) (z : St) : Option (Int32 × St) := gd (ix (z.1 p1 0) 3) ((if ((z.1 p1 1) + (z.1 p1 3)) = (z.1 (p0 + 2) (Int32.toNatClampNeg (z.1 p1 0))) then nm (tv0 + (z.1 p1 4)) (fun v2_3 => fn_X7_icingOf_57   p0 p1 v2_3 z) else fn_X7_icingOf_57   p0 p1 tv0 z))
set_option maxHeartbeats 4000000 in
set_option maxRecDepth 100000 in
theorem pf_X7_icingOf_28 {p : Program} {l : Launch} {e : Env} {s : State} {m : MethodId} {args : Array Value} {below : List Frame} {meth : Method} {c : Code} {G : wG} (C : CX p s m args meth c cX7_icingOf 3 (wsU yX7_icingOf cX7_icingOf 3 (some .int)) RX7 (some .int) G) {Rz : Int32 × St} (p0 : Nat) (p1 : Nat) (tv0 : Int32) (z : St) (hk0 : kd p0 = 7) (hk1 : kd p1 = 9) {H : Heap} {locs : List Loc} {ls : Array Slot} (hP : WP G z H) (hS : va_S (AW G) s.heap H locs) (hl : lv_has ls 3 [(0, .ref (G.2.2 p0)), (1, .ref (G.2.2 p1))]) (h : fn_X7_icingOf_28   p0 p1 tv0 z = some Rz) : W p l e (rmd 2) s m args below meth c H locs 0 0 (QI below args s G Rz) (F0 m 28 ls [.int tv0]) := by
  obtain ⟨hx, hb, hml, hown, hts, hr, hlocks, hK, hG⟩ := id C
  unfold fn_X7_icingOf_28 at h
  refine lv_istore_n (lv' := [(2, .int tv0), (0, .ref (G.2.2 p0)), (1, .ref (G.2.2 p1))]) hx hb dX7_icingOf_28 rfl hl (by decide) rfl (fun ls hl => ?_)
  refine lv_aload_n hx hb dX7_icingOf_29 rfl (lv_at hl 2 rfl) ?_
  refine ge_9_1 hx hb hts (inU inW_X9) hown hK hP hk1 (hts _ (List.mem_cons_of_mem _ lw_380)) dX7_icingOf_30 ?_
  refine lv_aload_n hx hb dX7_icingOf_33 rfl (lv_at hl 2 rfl) ?_
  refine ge_9_3 hx hb hts (inU inW_X9) hown hK hP hk1 (hts _ (List.mem_cons_of_mem _ lw_386)) dX7_icingOf_34 ?_
  refine lv_iadd hx hb dX7_icingOf_37 ?_
  refine lv_aload_n hx hb dX7_icingOf_38 rfl (lv_at hl 1 rfl) ?_
  refine ge_7_2 hx hb hts (inU inW_X7) hown hK hP hk0 (hts _ (List.mem_cons_of_mem _ lw_184)) dX7_icingOf_39 ?_
  refine lv_aload_n hx hb dX7_icingOf_42 rfl (lv_at hl 2 rfl) ?_
  refine ge_9_0 hx hb hts (inU inW_X9) hown hK hP hk1 (hts _ (List.mem_cons_of_mem _ lw_377)) dX7_icingOf_43 ?_
  obtain ⟨g1, h⟩ := gd_s h
  refine xl_14 hx hb hK hP (kf_7_2 hk0) (lf_7_2 hk0) (ix_in g1) dX7_icingOf_46 ?_
  refine lv_icmp_ne (tgt := 57) hx hb dX7_icingOf_47 (by decide) (fun c2 => ?_) (fun c2 => ?_)
  · rw [if_neg c2] at h
    exact pf_X7_icingOf_57 C   p0 p1 tv0 z hk0 hk1 hP hS (lv_sub hl [1, 2, 0] rfl) h
  · rw [if_pos c2] at h
    refine lv_iload_n hx hb dX7_icingOf_50 rfl (lv_at hl 0 rfl) ?_
    refine lv_aload_n hx hb dX7_icingOf_51 rfl (lv_at hl 2 rfl) ?_
    refine ge_9_4 hx hb hts (inU inW_X9) hown hK hP hk1 (hts _ (List.mem_cons_of_mem _ lw_389)) dX7_icingOf_52 ?_
    refine lv_iadd hx hb dX7_icingOf_55 ?_
    obtain ⟨v2_3, e_v2_3, h⟩ := nm_s h
    refine x_top e_v2_3 ?_
    refine lv_istore_n (lv' := [(2, .int v2_3), (0, .ref (G.2.2 p0)), (1, .ref (G.2.2 p1))]) hx hb dX7_icingOf_56 rfl hl (by decide) rfl (fun ls hl => ?_)
    exact pf_X7_icingOf_57 C   p0 p1 v2_3 z hk0 hk1 hP hS (lv_sub hl [1, 2, 0] rfl) h
def fn_X7_icingOf (p0 : Nat) (p1 : Nat) (z : St) : Option (Int32 × St) := bd (fn_X7_isTier  p0 (z.1 p1 0) z) (fun r2 z3 => (if r2 = 0 then some (0, z3) else (if (z3.1 p1 1) = 0 then fn_X7_icingOf_28   p0 p1 (z3.1 p1 4) z3 else fn_X7_icingOf_28   p0 p1 0 z3)))
set_option maxHeartbeats 4000000 in
set_option maxRecDepth 100000 in
theorem m_X7_icingOf {l : Launch} {G : wG} (hG : Ok G) {p0 : Nat} {p1 : Nat} {z : St} {Rz : Int32 × St} (hk0 : kd p0 = 7) (hk1 : kd p1 = 9) (h : fn_X7_icingOf  p0 p1 z = some Rz) : Met l yX7_icingOf (wsU yX7_icingOf cX7_icingOf 3 (some .int)) (rmd 2) (va_Pc [.ref (G.2.2 p0), .ref (G.2.2 p1)] (Pre G z)) (va_Qi (fun r u => (r, u) = Rz) (Pre G) (AW G)) 0 0 (AW G) := by
  refine Met.ofW (cc := cX7_icingOf) (maxL := 3) (ret := (some .int)) (by decide) rfl ?_
  intro p e s m args below meth c s₁ B hml hv
  obtain ⟨rfl, hP, hK⟩ := hv
  have C : CX p s m ([.ref (G.2.2 p0), .ref (G.2.2 p1)] : List Value).toArray meth c cX7_icingOf 3 (wsU yX7_icingOf cX7_icingOf 3 (some .int)) RX7 (some .int) G := ⟨B.exec, B.bytes, hml, findClass_of_methodNamed B.named, atoms_spec (ws := (wsU yX7_icingOf cX7_icingOf 3 (some .int))) B.pre, B.returns, B.notSynchronized, hK, hG⟩
  obtain ⟨hx, hb, -, hown, hts, hr, hlocks, -, -⟩ := id C
  have hS : va_S (AW G) s.heap s.heap [] := va_S.rf
  have hl := lv_entry [.ref (G.2.2 p0), .ref (G.2.2 p1)] (n := 3) (Nat.le_of_ble_eq_true rfl)
  rw [lg_entry_eq]
  generalize (lg_sl [.ref (G.2.2 p0), .ref (G.2.2 p1)] ++ List.replicate (3 - (lg_sl [.ref (G.2.2 p0), .ref (G.2.2 p1)]).length) Slot.unset).toArray = ls at hl ⊢
  have hl : lv_has ls 3 [(0, .ref (G.2.2 p0)), (1, .ref (G.2.2 p1))] := hl
  unfold fn_X7_icingOf at h
  refine lv_aload_n hx hb dX7_icingOf_0 rfl (lv_at hl 0 rfl) ?_
  refine lv_aload_n hx hb dX7_icingOf_1 rfl (lv_at hl 1 rfl) ?_
  refine ge_9_0 hx hb hts (inU inW_X9) hown hK hP hk1 (hts _ (List.mem_cons_of_mem _ lw_377)) dX7_icingOf_2 ?_
  obtain ⟨r2, z3, h1, h⟩ := bd_s h
  refine x_Vi (Rz := (r2, z3)) (As := [.int (z.1 p1 0)]) (rest := []) ⟨hx, hb, hml, hown, hts⟩ hK hP hS (kd_lt hk0 (by decide)) (cell_7 hk0) rfl (m_X7_isTier hG  hk0 h1) (cwV 1 hts (gV lw_950 lw_951 lw_952 lw_110 lw_953) rfl rfl rfl (by decide +kernel) (rmd_ok (by decide) (by decide))) rfl hl.1 rfl (Nat.le_of_ble_eq_true rfl) dX7_icingOf_5 ⟨Nat.le_refl _, Nat.le_refl _⟩ (fun H locs hP hS => ?_)
  refine lv_if_ne (tgt := 13) hx hb dX7_icingOf_8 (by decide) (fun c4 => ?_) (fun c4 => ?_)
  · rw [if_neg c4] at h
    refine lv_aload_n hx hb dX7_icingOf_13 rfl (lv_at hl 1 rfl) ?_
    refine ge_9_1 hx hb hts (inU inW_X9) hown hK hP hk1 (hts _ (List.mem_cons_of_mem _ lw_380)) dX7_icingOf_14 ?_
    refine lv_if_ne (tgt := 27) hx hb dX7_icingOf_17 (by decide) (fun c5 => ?_) (fun c5 => ?_)
    · rw [if_neg c5] at h
      refine lv_iconst (v := 0) hx hb dX7_icingOf_27 (by decide) ?_
      exact pf_X7_icingOf_28 C   p0 p1 0 z3 hk0 hk1 hP hS (lv_sub hl [0, 1] rfl) h
    · rw [if_pos c5] at h
      refine lv_aload_n hx hb dX7_icingOf_20 rfl (lv_at hl 1 rfl) ?_
      refine ge_9_4 hx hb hts (inU inW_X9) hown hK hP hk1 (hts _ (List.mem_cons_of_mem _ lw_389)) dX7_icingOf_21 ?_
      refine lv_goto (tgt := 28) hx hb dX7_icingOf_24 (by decide) ?_
      exact pf_X7_icingOf_28 C   p0 p1 (z3.1 p1 4) z3 hk0 hk1 hP hS (lv_sub hl [0, 1] rfl) h
  · rw [if_pos c4] at h
    refine lv_iconst (v := 0) hx hb dX7_icingOf_11 (by decide) ?_
    exact x_iret hx hb hr hlocks hK hP hS h dX7_icingOf_12
