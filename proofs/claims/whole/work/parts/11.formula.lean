def fn_X2_add (p0 : Nat) (v1 : Int32) (v2 : Int32) (z : St) : Option (St) := (if 272 ≤ (z.1 p0 2) then some z else gd (ix (z.1 p0 2) 272) (nm (sI z (p0 + 1) (Int32.toNatClampNeg (z.1 p0 2)) ((v2 <<< (5 &&& 31)) ||| v1)) (fun z3 => nm (sI z3 p0 2 ((z3.1 p0 2) + 1)) (fun z4 => some z4))))
set_option maxHeartbeats 4000000 in
set_option maxRecDepth 100000 in
theorem m_X2_add {l : Launch} {G : wG} (hG : Ok G) {p0 : Nat} {v1 : Int32} {v2 : Int32} {z : St} {Rz : St} (hk0 : kd p0 = 2) (h : fn_X2_add  p0 v1 v2 z = some Rz) : Met l yX2_add (wsU yX2_add cX2_add 3 none) (rmd 1) (va_Pc [.ref (G.2.2 p0), .int v1, .int v2] (Pre G z)) (va_Qv (fun u => u = Rz) (Pre G) (AW G)) 0 0 (AW G) := by
  refine Met.ofW (cc := cX2_add) (maxL := 3) (ret := none) (by decide) rfl ?_
  intro p e s m args below meth c s₁ B hml hv
  obtain ⟨rfl, hP, hK⟩ := hv
  have C : CX p s m ([.ref (G.2.2 p0), .int v1, .int v2] : List Value).toArray meth c cX2_add 3 (wsU yX2_add cX2_add 3 none) RX2 none G := ⟨B.exec, B.bytes, hml, findClass_of_methodNamed B.named, atoms_spec (ws := (wsU yX2_add cX2_add 3 none)) B.pre, B.returns, B.notSynchronized, hK, hG⟩
  obtain ⟨hx, hb, -, hown, hts, hr, hlocks, -, -⟩ := id C
  have hS : va_S (AW G) s.heap s.heap [] := va_S.rf
  have hl := lv_entry [.ref (G.2.2 p0), .int v1, .int v2] (n := 3) (Nat.le_of_ble_eq_true rfl)
  rw [lg_entry_eq]
  generalize (lg_sl [.ref (G.2.2 p0), .int v1, .int v2] ++ List.replicate (3 - (lg_sl [.ref (G.2.2 p0), .int v1, .int v2]).length) Slot.unset).toArray = ls at hl ⊢
  have hl : lv_has ls 3 [(0, .ref (G.2.2 p0)), (1, .int v1), (2, .int v2)] := hl
  unfold fn_X2_add at h
  refine lv_aload_n hx hb dX2_add_0 rfl (lv_at hl 0 rfl) ?_
  refine ge_2_2 hx hb hts (inU inW_X2) hown hK hP hk0 (hts _ (List.mem_cons_of_mem _ lw_158)) dX2_add_1 ?_
  refine lv_aload_n hx hb dX2_add_4 rfl (lv_at hl 0 rfl) ?_
  refine ge_2_0 hx hb hts (inU inW_X2) hown hK hP hk0 (hts _ (List.mem_cons_of_mem _ lw_156)) dX2_add_5 ?_
  refine xn_14 (v := 272) hx hb hK hP (kf_2_0 hk0) (lf_2_0 hk0) rfl dX2_add_8 ?_
  refine lv_icmp_ge (tgt := 36) hx hb dX2_add_9 (by decide) (fun c1 => ?_) (fun c1 => ?_)
  · rw [if_pos c1] at h
    exact x_vret hx hb hr hlocks hK hP hS h dX2_add_36
  · rw [if_neg c1] at h
    refine lv_aload_n hx hb dX2_add_12 rfl (lv_at hl 0 rfl) ?_
    refine ge_2_0 hx hb hts (inU inW_X2) hown hK hP hk0 (hts _ (List.mem_cons_of_mem _ lw_156)) dX2_add_13 ?_
    refine lv_aload_n hx hb dX2_add_16 rfl (lv_at hl 0 rfl) ?_
    refine ge_2_2 hx hb hts (inU inW_X2) hown hK hP hk0 (hts _ (List.mem_cons_of_mem _ lw_158)) dX2_add_17 ?_
    refine lv_iload_n hx hb dX2_add_20 rfl (lv_at hl 2 rfl) ?_
    refine lv_iconst (v := 5) hx hb dX2_add_21 (by decide) ?_
    refine lv_ishl hx hb dX2_add_22 ?_
    refine lv_iload_n hx hb dX2_add_23 rfl (lv_at hl 1 rfl) ?_
    refine lv_ior hx hb dX2_add_24 ?_
    obtain ⟨g2, h⟩ := gd_s h
    obtain ⟨z3, e_z3, h⟩ := nm_s h
    refine xs_14 hx hb hK hG hP hS (kf_2_0 hk0) (lf_2_0 hk0) (ix_in g2) dX2_add_25 (fun H locs hP hS => ?_)
    rw [← e_z3] at hP
    refine lv_aload_n hx hb dX2_add_26 rfl (lv_at hl 0 rfl) ?_
    refine lv_dup hx hb dX2_add_27 rfl ?_
    refine ge_2_2 hx hb hts (inU inW_X2) hown hK hP hk0 (hts _ (List.mem_cons_of_mem _ lw_158)) dX2_add_28 ?_
    refine lv_iconst (v := 1) hx hb dX2_add_31 (by decide) ?_
    refine lv_iadd hx hb dX2_add_32 ?_
    obtain ⟨z4, e_z4, h⟩ := nm_s h
    refine pu_2_2 hx hb hts (inU inW_X2) hown hK hG hP hS hk0 (hts _ (List.mem_cons_of_mem _ lw_158)) dX2_add_33 (fun H locs hP hS => ?_)
    rw [← e_z4] at hP
    exact x_vret hx hb hr hlocks hK hP hS h dX2_add_36
def fn_X2_clear (p0 : Nat) (v1 : Int32) (z : St) : Option (St) := nm (sI z p0 2 0) (fun z1 => nm (sI z1 p0 3 0) (fun z2 => nm (sI z2 p0 4 0) (fun z3 => bv (fn_X2_add  p0 v1 0 z3) (fun z5 => some z5))))
set_option maxHeartbeats 4000000 in
set_option maxRecDepth 100000 in
theorem m_X2_clear {l : Launch} {G : wG} (hG : Ok G) {p0 : Nat} {v1 : Int32} {z : St} {Rz : St} (hk0 : kd p0 = 2) (h : fn_X2_clear  p0 v1 z = some Rz) : Met l yX2_clear (wsU yX2_clear cX2_clear 2 none) (rmd 2) (va_Pc [.ref (G.2.2 p0), .int v1] (Pre G z)) (va_Qv (fun u => u = Rz) (Pre G) (AW G)) 0 0 (AW G) := by
  refine Met.ofW (cc := cX2_clear) (maxL := 2) (ret := none) (by decide) rfl ?_
  intro p e s m args below meth c s₁ B hml hv
  obtain ⟨rfl, hP, hK⟩ := hv
  have C : CX p s m ([.ref (G.2.2 p0), .int v1] : List Value).toArray meth c cX2_clear 2 (wsU yX2_clear cX2_clear 2 none) RX2 none G := ⟨B.exec, B.bytes, hml, findClass_of_methodNamed B.named, atoms_spec (ws := (wsU yX2_clear cX2_clear 2 none)) B.pre, B.returns, B.notSynchronized, hK, hG⟩
  obtain ⟨hx, hb, -, hown, hts, hr, hlocks, -, -⟩ := id C
  have hS : va_S (AW G) s.heap s.heap [] := va_S.rf
  have hl := lv_entry [.ref (G.2.2 p0), .int v1] (n := 2) (Nat.le_of_ble_eq_true rfl)
  rw [lg_entry_eq]
  generalize (lg_sl [.ref (G.2.2 p0), .int v1] ++ List.replicate (2 - (lg_sl [.ref (G.2.2 p0), .int v1]).length) Slot.unset).toArray = ls at hl ⊢
  have hl : lv_has ls 2 [(0, .ref (G.2.2 p0)), (1, .int v1)] := hl
  unfold fn_X2_clear at h
  refine lv_aload_n hx hb dX2_clear_0 rfl (lv_at hl 0 rfl) ?_
  refine lv_iconst (v := 0) hx hb dX2_clear_1 (by decide) ?_
  obtain ⟨z1, e_z1, h⟩ := nm_s h
  refine pu_2_2 hx hb hts (inU inW_X2) hown hK hG hP hS hk0 (hts _ (List.mem_cons_of_mem _ lw_158)) dX2_clear_2 (fun H locs hP hS => ?_)
  rw [← e_z1] at hP
  refine lv_aload_n hx hb dX2_clear_5 rfl (lv_at hl 0 rfl) ?_
  refine lv_iconst (v := 0) hx hb dX2_clear_6 (by decide) ?_
  obtain ⟨z2, e_z2, h⟩ := nm_s h
  refine pu_2_3 hx hb hts (inU inW_X2) hown hK hG hP hS hk0 (hts _ (List.mem_cons_of_mem _ lw_159)) dX2_clear_7 (fun H locs hP hS => ?_)
  rw [← e_z2] at hP
  refine lv_aload_n hx hb dX2_clear_10 rfl (lv_at hl 0 rfl) ?_
  refine lv_iconst (v := 0) hx hb dX2_clear_11 (by decide) ?_
  obtain ⟨z3, e_z3, h⟩ := nm_s h
  refine pu_2_4 hx hb hts (inU inW_X2) hown hK hG hP hS hk0 (hts _ (List.mem_cons_of_mem _ lw_161)) rfl dX2_clear_12 (fun H locs hP hS => ?_)
  rw [← e_z3] at hP
  refine lv_aload_n hx hb dX2_clear_15 rfl (lv_at hl 0 rfl) ?_
  refine lv_iload_n hx hb dX2_clear_16 rfl (lv_at hl 1 rfl) ?_
  refine lv_iconst (v := 0) hx hb dX2_clear_17 (by decide) ?_
  obtain ⟨z5, h4, h⟩ := bv_s h
  refine x_Vv (Rz := z5) (As := [.int v1, .int 0]) (rest := []) ⟨hx, hb, hml, hown, hts⟩ hK hP hS (kd_lt hk0 (by decide)) (cell_2 hk0) rfl (m_X2_add hG  hk0 h4) (cwV 2 hts (gV lw_152 lw_153 lw_154 lw_111 lw_155) rfl rfl rfl (by decide +kernel) (rmd_ok (by decide) (by decide))) rfl hl.1 rfl (Nat.le_of_ble_eq_true rfl) dX2_clear_18 ⟨Nat.le_refl _, Nat.le_refl _⟩ (fun H locs hP hS => ?_)
  exact x_vret hx hb hr hlocks hK hP hS h dX2_clear_21
def fn_X2_begin (p0 : Nat) (z : St) : Option (St) := nm (sI z p0 2 0) (fun z1 => nm (sI z1 p0 4 1) (fun z2 => some z2))
set_option maxHeartbeats 4000000 in
set_option maxRecDepth 100000 in
theorem m_X2_begin {l : Launch} {G : wG} (hG : Ok G) {p0 : Nat} {z : St} {Rz : St} (hk0 : kd p0 = 2) (h : fn_X2_begin  p0 z = some Rz) : Met l yX2_begin (wsU yX2_begin cX2_begin 1 none) (rmd 1) (va_Pc [.ref (G.2.2 p0)] (Pre G z)) (va_Qv (fun u => u = Rz) (Pre G) (AW G)) 0 0 (AW G) := by
  refine Met.ofW (cc := cX2_begin) (maxL := 1) (ret := none) (by decide) rfl ?_
  intro p e s m args below meth c s₁ B hml hv
  obtain ⟨rfl, hP, hK⟩ := hv
  have C : CX p s m ([.ref (G.2.2 p0)] : List Value).toArray meth c cX2_begin 1 (wsU yX2_begin cX2_begin 1 none) RX2 none G := ⟨B.exec, B.bytes, hml, findClass_of_methodNamed B.named, atoms_spec (ws := (wsU yX2_begin cX2_begin 1 none)) B.pre, B.returns, B.notSynchronized, hK, hG⟩
  obtain ⟨hx, hb, -, hown, hts, hr, hlocks, -, -⟩ := id C
  have hS : va_S (AW G) s.heap s.heap [] := va_S.rf
  have hl := lv_entry [.ref (G.2.2 p0)] (n := 1) (Nat.le_of_ble_eq_true rfl)
  rw [lg_entry_eq]
  generalize (lg_sl [.ref (G.2.2 p0)] ++ List.replicate (1 - (lg_sl [.ref (G.2.2 p0)]).length) Slot.unset).toArray = ls at hl ⊢
  have hl : lv_has ls 1 [(0, .ref (G.2.2 p0))] := hl
  unfold fn_X2_begin at h
  refine lv_aload_n hx hb dX2_begin_0 rfl (lv_at hl 0 rfl) ?_
  refine lv_iconst (v := 0) hx hb dX2_begin_1 (by decide) ?_
  obtain ⟨z1, e_z1, h⟩ := nm_s h
  refine pu_2_2 hx hb hts (inU inW_X2) hown hK hG hP hS hk0 (hts _ (List.mem_cons_of_mem _ lw_158)) dX2_begin_2 (fun H locs hP hS => ?_)
  rw [← e_z1] at hP
  refine lv_aload_n hx hb dX2_begin_5 rfl (lv_at hl 0 rfl) ?_
  refine lv_iconst (v := 1) hx hb dX2_begin_6 (by decide) ?_
  obtain ⟨z2, e_z2, h⟩ := nm_s h
  refine pu_2_4 hx hb hts (inU inW_X2) hown hK hG hP hS hk0 (hts _ (List.mem_cons_of_mem _ lw_161)) rfl dX2_begin_7 (fun H locs hP hS => ?_)
  rw [← e_z2] at hP
  exact x_vret hx hb hr hlocks hK hP hS h dX2_begin_10
def fn_X2_takeFrom_2 : Nat → Nat → Nat → Int32 → St → Option (St)
  | 0, _, _, _, _ => none
  | n + 1, p0, p1, v2, z => (if (z.1 p1 2) ≤ v2 then nm (sI z p0 2 (z.1 p1 2)) (fun z2 => nm (sI z2 p0 3 (z2.1 p1 3)) (fun z3 => gd (zok (z3.1 p1 4)) (nm (sI z3 p0 4 (z3.1 p1 4)) (fun z5 => some z5)))) else gd (ix v2 272) (gd (ix v2 272) (nm (sI z (p0 + 1) (Int32.toNatClampNeg v2) (z.1 (p1 + 1) (Int32.toNatClampNeg v2))) (fun z8 => fn_X2_takeFrom_2   n p0 p1 (v2 + 1) z8))))
set_option maxHeartbeats 4000000 in
set_option maxRecDepth 100000 in
theorem pf_X2_takeFrom_2 {p : Program} {l : Launch} {e : Env} {s : State} {m : MethodId} {args : Array Value} {below : List Frame} {meth : Method} {c : Code} {G : wG} (C : CX p s m args meth c cX2_takeFrom 3 (wsU yX2_takeFrom cX2_takeFrom 3 none) RX2 none G) {Rz : St} : ∀ (n : Nat) (p0 : Nat) (p1 : Nat) (v2 : Int32) (z : St) (hk0 : kd p0 = 2) (hk1 : kd p1 = 2) (H : Heap) (locs : List Loc) (ls : Array Slot), WP G z H → va_S (AW G) s.heap H locs → lv_has ls 3 [(0, .ref (G.2.2 p0)), (1, .ref (G.2.2 p1)), (2, .int v2)] → fn_X2_takeFrom_2   n p0 p1 v2 z = some Rz → W p l e (rmd 1) s m args below meth c H locs 0 0 (QV below args s G Rz) (F0 m 2 ls []) := by
  obtain ⟨hx, hb, hml, hown, hts, hr, hlocks, hK, hG⟩ := id C
  intro n
  induction n with
  | zero => intro p0 p1 v2 z hk0 hk1 H locs ls hP hS hl h; cases h
  | succ n ih =>
    intro p0 p1 v2 z hk0 hk1 H locs ls hP hS hl h
    rw [fn_X2_takeFrom_2] at h
    refine lv_iload_n hx hb dX2_takeFrom_2 rfl (lv_at hl 2 rfl) ?_
    refine lv_aload_n hx hb dX2_takeFrom_3 rfl (lv_at hl 1 rfl) ?_
    refine ge_2_2 hx hb hts (inU inW_X2) hown hK hP hk1 (hts _ (List.mem_cons_of_mem _ lw_158)) dX2_takeFrom_4 ?_
    refine lv_icmp_ge (tgt := 28) hx hb dX2_takeFrom_7 (by decide) (fun c1 => ?_) (fun c1 => ?_)
    · rw [if_pos c1] at h
      refine lv_aload_n hx hb dX2_takeFrom_28 rfl (lv_at hl 0 rfl) ?_
      refine lv_aload_n hx hb dX2_takeFrom_29 rfl (lv_at hl 1 rfl) ?_
      refine ge_2_2 hx hb hts (inU inW_X2) hown hK hP hk1 (hts _ (List.mem_cons_of_mem _ lw_158)) dX2_takeFrom_30 ?_
      obtain ⟨z2, e_z2, h⟩ := nm_s h
      refine pu_2_2 hx hb hts (inU inW_X2) hown hK hG hP hS hk0 (hts _ (List.mem_cons_of_mem _ lw_158)) dX2_takeFrom_33 (fun H locs hP hS => ?_)
      rw [← e_z2] at hP
      refine lv_aload_n hx hb dX2_takeFrom_36 rfl (lv_at hl 0 rfl) ?_
      refine lv_aload_n hx hb dX2_takeFrom_37 rfl (lv_at hl 1 rfl) ?_
      refine ge_2_3 hx hb hts (inU inW_X2) hown hK hP hk1 (hts _ (List.mem_cons_of_mem _ lw_159)) dX2_takeFrom_38 ?_
      obtain ⟨z3, e_z3, h⟩ := nm_s h
      refine pu_2_3 hx hb hts (inU inW_X2) hown hK hG hP hS hk0 (hts _ (List.mem_cons_of_mem _ lw_159)) dX2_takeFrom_41 (fun H locs hP hS => ?_)
      rw [← e_z3] at hP
      refine lv_aload_n hx hb dX2_takeFrom_44 rfl (lv_at hl 0 rfl) ?_
      refine lv_aload_n hx hb dX2_takeFrom_45 rfl (lv_at hl 1 rfl) ?_
      refine ge_2_4 hx hb hts (inU inW_X2) hown hK hP hk1 (hts _ (List.mem_cons_of_mem _ lw_161)) dX2_takeFrom_46 ?_
      obtain ⟨g4, h⟩ := gd_s h
      obtain ⟨z5, e_z5, h⟩ := nm_s h
      refine pu_2_4 hx hb hts (inU inW_X2) hown hK hG hP hS hk0 (hts _ (List.mem_cons_of_mem _ lw_161)) g4 dX2_takeFrom_49 (fun H locs hP hS => ?_)
      rw [← e_z5] at hP
      exact x_vret hx hb hr hlocks hK hP hS h dX2_takeFrom_52
    · rw [if_neg c1] at h
      refine lv_aload_n hx hb dX2_takeFrom_10 rfl (lv_at hl 0 rfl) ?_
      refine ge_2_0 hx hb hts (inU inW_X2) hown hK hP hk0 (hts _ (List.mem_cons_of_mem _ lw_156)) dX2_takeFrom_11 ?_
      refine lv_iload_n hx hb dX2_takeFrom_14 rfl (lv_at hl 2 rfl) ?_
      refine lv_aload_n hx hb dX2_takeFrom_15 rfl (lv_at hl 1 rfl) ?_
      refine ge_2_0 hx hb hts (inU inW_X2) hown hK hP hk1 (hts _ (List.mem_cons_of_mem _ lw_156)) dX2_takeFrom_16 ?_
      refine lv_iload_n hx hb dX2_takeFrom_19 rfl (lv_at hl 2 rfl) ?_
      obtain ⟨g6, h⟩ := gd_s h
      refine xl_14 hx hb hK hP (kf_2_0 hk1) (lf_2_0 hk1) (ix_in g6) dX2_takeFrom_20 ?_
      obtain ⟨g7, h⟩ := gd_s h
      obtain ⟨z8, e_z8, h⟩ := nm_s h
      refine xs_14 hx hb hK hG hP hS (kf_2_0 hk0) (lf_2_0 hk0) (ix_in g7) dX2_takeFrom_21 (fun H locs hP hS => ?_)
      rw [← e_z8] at hP
      refine lv_iinc (v := (v2 + 1)) (lv' := [(2, .int (v2 + 1)), (0, .ref (G.2.2 p0)), (1, .ref (G.2.2 p1))]) hx hb dX2_takeFrom_22 hl (k := 2) rfl rfl (by decide) rfl (fun ls hl => ?_)
      refine lv_goto (tgt := 2) hx hb dX2_takeFrom_25 (by decide) ?_
      exact ih p0 p1 (v2 + 1) z8 hk0 hk1 _ _ _ hP hS (lv_sub hl [1, 2, 0] rfl) h
def fn_X2_takeFrom (p0 : Nat) (p1 : Nat) (z : St) : Option (St) := fn_X2_takeFrom_2   fu p0 p1 0 z
set_option maxHeartbeats 4000000 in
set_option maxRecDepth 100000 in
theorem m_X2_takeFrom {l : Launch} {G : wG} (hG : Ok G) {p0 : Nat} {p1 : Nat} {z : St} {Rz : St} (hk0 : kd p0 = 2) (hk1 : kd p1 = 2) (h : fn_X2_takeFrom  p0 p1 z = some Rz) : Met l yX2_takeFrom (wsU yX2_takeFrom cX2_takeFrom 3 none) (rmd 1) (va_Pc [.ref (G.2.2 p0), .ref (G.2.2 p1)] (Pre G z)) (va_Qv (fun u => u = Rz) (Pre G) (AW G)) 0 0 (AW G) := by
  refine Met.ofW (cc := cX2_takeFrom) (maxL := 3) (ret := none) (by decide) rfl ?_
  intro p e s m args below meth c s₁ B hml hv
  obtain ⟨rfl, hP, hK⟩ := hv
  have C : CX p s m ([.ref (G.2.2 p0), .ref (G.2.2 p1)] : List Value).toArray meth c cX2_takeFrom 3 (wsU yX2_takeFrom cX2_takeFrom 3 none) RX2 none G := ⟨B.exec, B.bytes, hml, findClass_of_methodNamed B.named, atoms_spec (ws := (wsU yX2_takeFrom cX2_takeFrom 3 none)) B.pre, B.returns, B.notSynchronized, hK, hG⟩
  obtain ⟨hx, hb, -, hown, hts, hr, hlocks, -, -⟩ := id C
  have hS : va_S (AW G) s.heap s.heap [] := va_S.rf
  have hl := lv_entry [.ref (G.2.2 p0), .ref (G.2.2 p1)] (n := 3) (Nat.le_of_ble_eq_true rfl)
  rw [lg_entry_eq]
  generalize (lg_sl [.ref (G.2.2 p0), .ref (G.2.2 p1)] ++ List.replicate (3 - (lg_sl [.ref (G.2.2 p0), .ref (G.2.2 p1)]).length) Slot.unset).toArray = ls at hl ⊢
  have hl : lv_has ls 3 [(0, .ref (G.2.2 p0)), (1, .ref (G.2.2 p1))] := hl
  unfold fn_X2_takeFrom at h
  refine lv_iconst (v := 0) hx hb dX2_takeFrom_0 (by decide) ?_
  refine lv_istore_n (lv' := [(2, .int 0), (0, .ref (G.2.2 p0)), (1, .ref (G.2.2 p1))]) hx hb dX2_takeFrom_1 rfl hl (by decide) rfl (fun ls hl => ?_)
  exact pf_X2_takeFrom_2 C   fu p0 p1 0 z hk0 hk1 _ _ _ hP hS (lv_sub hl [1, 2, 0] rfl) h
def fn_X2_countUnit (p0 : Nat) (z : St) : Option (Int32 × St) := (if (z.1 p0 3) < 30 then nm (sI z p0 3 ((z.1 p0 3) + 1)) (fun z2 => some (1, z2)) else some (0, z))
set_option maxHeartbeats 4000000 in
set_option maxRecDepth 100000 in
theorem m_X2_countUnit {l : Launch} {G : wG} (hG : Ok G) {p0 : Nat} {z : St} {Rz : Int32 × St} (hk0 : kd p0 = 2) (h : fn_X2_countUnit  p0 z = some Rz) : Met l yX2_countUnit (wsU yX2_countUnit cX2_countUnit 1 (some .boolean)) (rmd 1) (va_Pc [.ref (G.2.2 p0)] (Pre G z)) (va_Qi (fun r u => (r, u) = Rz) (Pre G) (AW G)) 0 0 (AW G) := by
  refine Met.ofW (cc := cX2_countUnit) (maxL := 1) (ret := (some .boolean)) (by decide) rfl ?_
  intro p e s m args below meth c s₁ B hml hv
  obtain ⟨rfl, hP, hK⟩ := hv
  have C : CX p s m ([.ref (G.2.2 p0)] : List Value).toArray meth c cX2_countUnit 1 (wsU yX2_countUnit cX2_countUnit 1 (some .boolean)) RX2 (some .boolean) G := ⟨B.exec, B.bytes, hml, findClass_of_methodNamed B.named, atoms_spec (ws := (wsU yX2_countUnit cX2_countUnit 1 (some .boolean))) B.pre, B.returns, B.notSynchronized, hK, hG⟩
  obtain ⟨hx, hb, -, hown, hts, hr, hlocks, -, -⟩ := id C
  have hS : va_S (AW G) s.heap s.heap [] := va_S.rf
  have hl := lv_entry [.ref (G.2.2 p0)] (n := 1) (Nat.le_of_ble_eq_true rfl)
  rw [lg_entry_eq]
  generalize (lg_sl [.ref (G.2.2 p0)] ++ List.replicate (1 - (lg_sl [.ref (G.2.2 p0)]).length) Slot.unset).toArray = ls at hl ⊢
  have hl : lv_has ls 1 [(0, .ref (G.2.2 p0))] := hl
  unfold fn_X2_countUnit at h
  refine lv_aload_n hx hb dX2_countUnit_0 rfl (lv_at hl 0 rfl) ?_
  refine ge_2_3 hx hb hts (inU inW_X2) hown hK hP hk0 (hts _ (List.mem_cons_of_mem _ lw_159)) dX2_countUnit_1 ?_
  refine lv_bipush (v := 30) hx hb dX2_countUnit_4 (by decide) ?_
  refine lv_icmp_lt (tgt := 11) hx hb dX2_countUnit_6 (by decide) (fun c1 => ?_) (fun c1 => ?_)
  · rw [if_pos c1] at h
    refine lv_aload_n hx hb dX2_countUnit_11 rfl (lv_at hl 0 rfl) ?_
    refine lv_dup hx hb dX2_countUnit_12 rfl ?_
    refine ge_2_3 hx hb hts (inU inW_X2) hown hK hP hk0 (hts _ (List.mem_cons_of_mem _ lw_159)) dX2_countUnit_13 ?_
    refine lv_iconst (v := 1) hx hb dX2_countUnit_16 (by decide) ?_
    refine lv_iadd hx hb dX2_countUnit_17 ?_
    obtain ⟨z2, e_z2, h⟩ := nm_s h
    refine pu_2_3 hx hb hts (inU inW_X2) hown hK hG hP hS hk0 (hts _ (List.mem_cons_of_mem _ lw_159)) dX2_countUnit_18 (fun H locs hP hS => ?_)
    rw [← e_z2] at hP
    refine lv_iconst (v := 1) hx hb dX2_countUnit_21 (by decide) ?_
    exact x_zret hx hb hr hlocks hK hP hS rfl h dX2_countUnit_22
  · rw [if_neg c1] at h
    refine lv_iconst (v := 0) hx hb dX2_countUnit_9 (by decide) ?_
    exact x_zret hx hb hr hlocks hK hP hS rfl h dX2_countUnit_10
def fn_X2_truth (v0 : Int32) (z : St) : Option (Int32 × St) := (if v0 = 0 then some (0, z) else some (1, z))
set_option maxHeartbeats 4000000 in
set_option maxRecDepth 100000 in
theorem m_X2_truth {l : Launch} {G : wG} (hG : Ok G) {v0 : Int32} {z : St} {Rz : Int32 × St}  (h : fn_X2_truth  v0 z = some Rz) : Met l yX2_truth (wsU yX2_truth cX2_truth 1 (some .int)) (rmd 1) (va_Pc [.int v0] (Pre G z)) (va_Qi (fun r u => (r, u) = Rz) (Pre G) (AW G)) 0 0 (AW G) := by
  refine Met.ofW (cc := cX2_truth) (maxL := 1) (ret := (some .int)) (by decide) rfl ?_
  intro p e s m args below meth c s₁ B hml hv
  obtain ⟨rfl, hP, hK⟩ := hv
  have C : CX p s m ([.int v0] : List Value).toArray meth c cX2_truth 1 (wsU yX2_truth cX2_truth 1 (some .int)) RX2 (some .int) G := ⟨B.exec, B.bytes, hml, findClass_of_methodNamed B.named, atoms_spec (ws := (wsU yX2_truth cX2_truth 1 (some .int))) B.pre, B.returns, B.notSynchronized, hK, hG⟩
  obtain ⟨hx, hb, -, hown, hts, hr, hlocks, -, -⟩ := id C
  have hS : va_S (AW G) s.heap s.heap [] := va_S.rf
  have hl := lv_entry [.int v0] (n := 1) (Nat.le_of_ble_eq_true rfl)
  rw [lg_entry_eq]
  generalize (lg_sl [.int v0] ++ List.replicate (1 - (lg_sl [.int v0]).length) Slot.unset).toArray = ls at hl ⊢
  have hl : lv_has ls 1 [(0, .int v0)] := hl
  unfold fn_X2_truth at h
  refine lv_iload_n hx hb dX2_truth_0 rfl (lv_at hl 0 rfl) ?_
  refine lv_if_eq (tgt := 8) hx hb dX2_truth_1 (by decide) (fun c1 => ?_) (fun c1 => ?_)
  · rw [if_pos c1] at h
    refine lv_iconst (v := 0) hx hb dX2_truth_8 (by decide) ?_
    exact x_iret hx hb hr hlocks hK hP hS h dX2_truth_9
  · rw [if_neg c1] at h
    refine lv_iconst (v := 1) hx hb dX2_truth_4 (by decide) ?_
    refine lv_goto (tgt := 9) hx hb dX2_truth_5 (by decide) ?_
    exact x_iret hx hb hr hlocks hK hP hS h dX2_truth_9
def fn_X2_joined_69 (tv0 : Int32) (z : St) : Option (Int32 × St) := bd (fn_X2_truth  tv0 z) (fun r2 z3 => some (r2, z3))
set_option maxHeartbeats 4000000 in
set_option maxRecDepth 100000 in
theorem pf_X2_joined_69 {p : Program} {l : Launch} {e : Env} {s : State} {m : MethodId} {args : Array Value} {below : List Frame} {meth : Method} {c : Code} {G : wG} (C : CX p s m args meth c cX2_joined 3 (wsU yX2_joined cX2_joined 3 (some .int)) RX2 (some .int) G) {Rz : Int32 × St} (tv0 : Int32) (z : St)  {H : Heap} {locs : List Loc} {ls : Array Slot} (hP : WP G z H) (hS : va_S (AW G) s.heap H locs) (hl : lv_has ls 3 []) (h : fn_X2_joined_69   tv0 z = some Rz) : W p l e (rmd 2) s m args below meth c H locs 0 0 (QI below args s G Rz) (F0 m 69 ls [.int tv0]) := by
  obtain ⟨hx, hb, hml, hown, hts, hr, hlocks, hK, hG⟩ := id C
  unfold fn_X2_joined_69 at h
  obtain ⟨r2, z3, h1, h⟩ := bd_s h
  refine x_Si (Rz := (r2, z3)) (As := [.int tv0]) (rest := []) ⟨hx, hb, hml, hown, hts⟩ hK hP hS (m_X2_truth hG   h1) (va_cwS 1 hts (gS lw_986 lw_987 lw_111 lw_988) rfl rfl rfl (by decide +kernel) (rmd_ok (by decide) (by decide))) rfl hl.1 rfl (Nat.le_of_ble_eq_true rfl) dX2_joined_69 ⟨Nat.le_refl _, Nat.le_refl _⟩ (fun H locs hP hS => ?_)
  exact x_iret hx hb hr hlocks hK hP hS h dX2_joined_72
def fn_X2_joined_64  (z : St) : Option (Int32 × St) := fn_X2_joined_69   1 z
set_option maxHeartbeats 4000000 in
set_option maxRecDepth 100000 in
theorem pf_X2_joined_64 {p : Program} {l : Launch} {e : Env} {s : State} {m : MethodId} {args : Array Value} {below : List Frame} {meth : Method} {c : Code} {G : wG} (C : CX p s m args meth c cX2_joined 3 (wsU yX2_joined cX2_joined 3 (some .int)) RX2 (some .int) G) {Rz : Int32 × St}  (z : St)  {H : Heap} {locs : List Loc} {ls : Array Slot} (hP : WP G z H) (hS : va_S (AW G) s.heap H locs) (hl : lv_has ls 3 []) (h : fn_X2_joined_64    z = some Rz) : W p l e (rmd 2) s m args below meth c H locs 0 0 (QI below args s G Rz) (F0 m 64 ls []) := by
  obtain ⟨hx, hb, hml, hown, hts, hr, hlocks, hK, hG⟩ := id C
  unfold fn_X2_joined_64 at h
  refine lv_iconst (v := 1) hx hb dX2_joined_64 (by decide) ?_
  refine lv_goto (tgt := 69) hx hb dX2_joined_65 (by decide) ?_
  exact pf_X2_joined_69 C   1 z  hP hS (lv_sub hl [] rfl) h
def fn_X2_joined_86 (tv0 : Int32) (z : St) : Option (Int32 × St) := bd (fn_X2_truth  tv0 z) (fun r2 z3 => some (r2, z3))
set_option maxHeartbeats 4000000 in
set_option maxRecDepth 100000 in
theorem pf_X2_joined_86 {p : Program} {l : Launch} {e : Env} {s : State} {m : MethodId} {args : Array Value} {below : List Frame} {meth : Method} {c : Code} {G : wG} (C : CX p s m args meth c cX2_joined 3 (wsU yX2_joined cX2_joined 3 (some .int)) RX2 (some .int) G) {Rz : Int32 × St} (tv0 : Int32) (z : St)  {H : Heap} {locs : List Loc} {ls : Array Slot} (hP : WP G z H) (hS : va_S (AW G) s.heap H locs) (hl : lv_has ls 3 []) (h : fn_X2_joined_86   tv0 z = some Rz) : W p l e (rmd 2) s m args below meth c H locs 0 0 (QI below args s G Rz) (F0 m 86 ls [.int tv0]) := by
  obtain ⟨hx, hb, hml, hown, hts, hr, hlocks, hK, hG⟩ := id C
  unfold fn_X2_joined_86 at h
  obtain ⟨r2, z3, h1, h⟩ := bd_s h
  refine x_Si (Rz := (r2, z3)) (As := [.int tv0]) (rest := []) ⟨hx, hb, hml, hown, hts⟩ hK hP hS (m_X2_truth hG   h1) (va_cwS 1 hts (gS lw_986 lw_987 lw_111 lw_988) rfl rfl rfl (by decide +kernel) (rmd_ok (by decide) (by decide))) rfl hl.1 rfl (Nat.le_of_ble_eq_true rfl) dX2_joined_86 ⟨Nat.le_refl _, Nat.le_refl _⟩ (fun H locs hP hS => ?_)
  exact x_iret hx hb hr hlocks hK hP hS h dX2_joined_89
def fn_X2_joined_85  (z : St) : Option (Int32 × St) := fn_X2_joined_86   0 z
set_option maxHeartbeats 4000000 in
set_option maxRecDepth 100000 in
theorem pf_X2_joined_85 {p : Program} {l : Launch} {e : Env} {s : State} {m : MethodId} {args : Array Value} {below : List Frame} {meth : Method} {c : Code} {G : wG} (C : CX p s m args meth c cX2_joined 3 (wsU yX2_joined cX2_joined 3 (some .int)) RX2 (some .int) G) {Rz : Int32 × St}  (z : St)  {H : Heap} {locs : List Loc} {ls : Array Slot} (hP : WP G z H) (hS : va_S (AW G) s.heap H locs) (hl : lv_has ls 3 []) (h : fn_X2_joined_85    z = some Rz) : W p l e (rmd 2) s m args below meth c H locs 0 0 (QI below args s G Rz) (F0 m 85 ls []) := by
  obtain ⟨hx, hb, hml, hown, hts, hr, hlocks, hK, hG⟩ := id C
  unfold fn_X2_joined_85 at h
  refine lv_iconst (v := 0) hx hb dX2_joined_85 (by decide) ?_
  exact pf_X2_joined_86 C   0 z  hP hS (lv_sub hl [] rfl) h
def fn_X2_joined_100 (tv0 : Int32) (z : St) : Option (Int32 × St) := bd (fn_X2_truth  tv0 z) (fun r2 z3 => some (r2, z3))
set_option maxHeartbeats 4000000 in
set_option maxRecDepth 100000 in
theorem pf_X2_joined_100 {p : Program} {l : Launch} {e : Env} {s : State} {m : MethodId} {args : Array Value} {below : List Frame} {meth : Method} {c : Code} {G : wG} (C : CX p s m args meth c cX2_joined 3 (wsU yX2_joined cX2_joined 3 (some .int)) RX2 (some .int) G) {Rz : Int32 × St} (tv0 : Int32) (z : St)  {H : Heap} {locs : List Loc} {ls : Array Slot} (hP : WP G z H) (hS : va_S (AW G) s.heap H locs) (hl : lv_has ls 3 []) (h : fn_X2_joined_100   tv0 z = some Rz) : W p l e (rmd 2) s m args below meth c H locs 0 0 (QI below args s G Rz) (F0 m 100 ls [.int tv0]) := by
  obtain ⟨hx, hb, hml, hown, hts, hr, hlocks, hK, hG⟩ := id C
  unfold fn_X2_joined_100 at h
  obtain ⟨r2, z3, h1, h⟩ := bd_s h
  refine x_Si (Rz := (r2, z3)) (As := [.int tv0]) (rest := []) ⟨hx, hb, hml, hown, hts⟩ hK hP hS (m_X2_truth hG   h1) (va_cwS 1 hts (gS lw_986 lw_987 lw_111 lw_988) rfl rfl rfl (by decide +kernel) (rmd_ok (by decide) (by decide))) rfl hl.1 rfl (Nat.le_of_ble_eq_true rfl) dX2_joined_100 ⟨Nat.le_refl _, Nat.le_refl _⟩ (fun H locs hP hS => ?_)
  exact x_iret hx hb hr hlocks hK hP hS h dX2_joined_103
def fn_X2_joined_114 (tv0 : Int32) (z : St) : Option (Int32 × St) := bd (fn_X2_truth  tv0 z) (fun r2 z3 => some (r2, z3))
set_option maxHeartbeats 4000000 in
set_option maxRecDepth 100000 in
theorem pf_X2_joined_114 {p : Program} {l : Launch} {e : Env} {s : State} {m : MethodId} {args : Array Value} {below : List Frame} {meth : Method} {c : Code} {G : wG} (C : CX p s m args meth c cX2_joined 3 (wsU yX2_joined cX2_joined 3 (some .int)) RX2 (some .int) G) {Rz : Int32 × St} (tv0 : Int32) (z : St)  {H : Heap} {locs : List Loc} {ls : Array Slot} (hP : WP G z H) (hS : va_S (AW G) s.heap H locs) (hl : lv_has ls 3 []) (h : fn_X2_joined_114   tv0 z = some Rz) : W p l e (rmd 2) s m args below meth c H locs 0 0 (QI below args s G Rz) (F0 m 114 ls [.int tv0]) := by
  obtain ⟨hx, hb, hml, hown, hts, hr, hlocks, hK, hG⟩ := id C
  unfold fn_X2_joined_114 at h
  obtain ⟨r2, z3, h1, h⟩ := bd_s h
  refine x_Si (Rz := (r2, z3)) (As := [.int tv0]) (rest := []) ⟨hx, hb, hml, hown, hts⟩ hK hP hS (m_X2_truth hG   h1) (va_cwS 1 hts (gS lw_986 lw_987 lw_111 lw_988) rfl rfl rfl (by decide +kernel) (rmd_ok (by decide) (by decide))) rfl hl.1 rfl (Nat.le_of_ble_eq_true rfl) dX2_joined_114 ⟨Nat.le_refl _, Nat.le_refl _⟩ (fun H locs hP hS => ?_)
  exact x_iret hx hb hr hlocks hK hP hS h dX2_joined_117
def fn_X2_joined_128 (tv0 : Int32) (z : St) : Option (Int32 × St) := bd (fn_X2_truth  tv0 z) (fun r2 z3 => some (r2, z3))
set_option maxHeartbeats 4000000 in
set_option maxRecDepth 100000 in
theorem pf_X2_joined_128 {p : Program} {l : Launch} {e : Env} {s : State} {m : MethodId} {args : Array Value} {below : List Frame} {meth : Method} {c : Code} {G : wG} (C : CX p s m args meth c cX2_joined 3 (wsU yX2_joined cX2_joined 3 (some .int)) RX2 (some .int) G) {Rz : Int32 × St} (tv0 : Int32) (z : St)  {H : Heap} {locs : List Loc} {ls : Array Slot} (hP : WP G z H) (hS : va_S (AW G) s.heap H locs) (hl : lv_has ls 3 []) (h : fn_X2_joined_128   tv0 z = some Rz) : W p l e (rmd 2) s m args below meth c H locs 0 0 (QI below args s G Rz) (F0 m 128 ls [.int tv0]) := by
  obtain ⟨hx, hb, hml, hown, hts, hr, hlocks, hK, hG⟩ := id C
  unfold fn_X2_joined_128 at h
  obtain ⟨r2, z3, h1, h⟩ := bd_s h
  refine x_Si (Rz := (r2, z3)) (As := [.int tv0]) (rest := []) ⟨hx, hb, hml, hown, hts⟩ hK hP hS (m_X2_truth hG   h1) (va_cwS 1 hts (gS lw_986 lw_987 lw_111 lw_988) rfl rfl rfl (by decide +kernel) (rmd_ok (by decide) (by decide))) rfl hl.1 rfl (Nat.le_of_ble_eq_true rfl) dX2_joined_128 ⟨Nat.le_refl _, Nat.le_refl _⟩ (fun H locs hP hS => ?_)
  exact x_iret hx hb hr hlocks hK hP hS h dX2_joined_131
def fn_X2_joined (v0 : Int32) (v1 : Int32) (v2 : Int32) (z : St) : Option (Int32 × St) := (if v0 = 8 then (if v1 = 0 then (if v2 = 0 then fn_X2_joined_69   0 z else fn_X2_joined_64    z) else fn_X2_joined_64    z) else (if v0 = 9 then (if v1 = 0 then fn_X2_joined_85    z else (if v2 = 0 then fn_X2_joined_85    z else fn_X2_joined_86   1 z)) else (if v0 = 10 then (if v2 ≤ v1 then fn_X2_joined_100   0 z else fn_X2_joined_100   1 z) else (if v0 = 11 then (if v1 ≤ v2 then fn_X2_joined_114   0 z else fn_X2_joined_114   1 z) else (if v0 = 12 then (if v1 = v2 then fn_X2_joined_128   1 z else fn_X2_joined_128   0 z) else (if v0 = 13 then some ((v1 + v2), z) else (if v0 = 14 then some ((v1 - v2), z) else (if v0 = 15 then some ((v1 * v2), z) else (if v0 = 16 then (if v2 = 0 then some (0, z) else gd (v2 != 0) (some ((v1 / v2), z))) else (if v0 = 17 then (if v2 = 0 then some (0, z) else gd (v2 != 0) (some ((v1 - v1 / v2 * v2), z))) else (some (0, z))))))))))))
set_option maxHeartbeats 4000000 in
set_option maxRecDepth 100000 in
theorem m_X2_joined {l : Launch} {G : wG} (hG : Ok G) {v0 : Int32} {v1 : Int32} {v2 : Int32} {z : St} {Rz : Int32 × St}  (h : fn_X2_joined  v0 v1 v2 z = some Rz) : Met l yX2_joined (wsU yX2_joined cX2_joined 3 (some .int)) (rmd 2) (va_Pc [.int v0, .int v1, .int v2] (Pre G z)) (va_Qi (fun r u => (r, u) = Rz) (Pre G) (AW G)) 0 0 (AW G) := by
  refine Met.ofW (cc := cX2_joined) (maxL := 3) (ret := (some .int)) (by decide) rfl ?_
  intro p e s m args below meth c s₁ B hml hv
  obtain ⟨rfl, hP, hK⟩ := hv
  have C : CX p s m ([.int v0, .int v1, .int v2] : List Value).toArray meth c cX2_joined 3 (wsU yX2_joined cX2_joined 3 (some .int)) RX2 (some .int) G := ⟨B.exec, B.bytes, hml, findClass_of_methodNamed B.named, atoms_spec (ws := (wsU yX2_joined cX2_joined 3 (some .int))) B.pre, B.returns, B.notSynchronized, hK, hG⟩
  obtain ⟨hx, hb, -, hown, hts, hr, hlocks, -, -⟩ := id C
  have hS : va_S (AW G) s.heap s.heap [] := va_S.rf
  have hl := lv_entry [.int v0, .int v1, .int v2] (n := 3) (Nat.le_of_ble_eq_true rfl)
  rw [lg_entry_eq]
  generalize (lg_sl [.int v0, .int v1, .int v2] ++ List.replicate (3 - (lg_sl [.int v0, .int v1, .int v2]).length) Slot.unset).toArray = ls at hl ⊢
  have hl : lv_has ls 3 [(0, .int v0), (1, .int v1), (2, .int v2)] := hl
  unfold fn_X2_joined at h
  refine lv_iload_n hx hb dX2_joined_0 rfl (lv_at hl 0 rfl) ?_
  by_cases c1 : v0 = 8
  · rw [if_pos c1] at h
    refine lv_tableIn (off := 55) (tgt := 56) hx hb dX2_joined_1 (by rw [c1]; decide) (by rw [c1]; decide) (by rw [c1]; rfl) (by decide) ?_
    refine lv_iload_n hx hb dX2_joined_56 rfl (lv_at hl 1 rfl) ?_
    refine lv_if_ne (tgt := 64) hx hb dX2_joined_57 (by decide) (fun c2 => ?_) (fun c2 => ?_)
    · rw [if_neg c2] at h
      exact pf_X2_joined_64 C    z  hP hS (lv_sub hl [] rfl) h
    · rw [if_pos c2] at h
      refine lv_iload_n hx hb dX2_joined_60 rfl (lv_at hl 2 rfl) ?_
      refine lv_if_eq (tgt := 68) hx hb dX2_joined_61 (by decide) (fun c3 => ?_) (fun c3 => ?_)
      · rw [if_pos c3] at h
        refine lv_iconst (v := 0) hx hb dX2_joined_68 (by decide) ?_
        exact pf_X2_joined_69 C   0 z  hP hS (lv_sub hl [] rfl) h
      · rw [if_neg c3] at h
        exact pf_X2_joined_64 C    z  hP hS (lv_sub hl [] rfl) h
  rw [if_neg c1] at h
  by_cases c4 : v0 = 9
  · rw [if_pos c4] at h
    refine lv_tableIn (off := 72) (tgt := 73) hx hb dX2_joined_1 (by rw [c4]; decide) (by rw [c4]; decide) (by rw [c4]; rfl) (by decide) ?_
    refine lv_iload_n hx hb dX2_joined_73 rfl (lv_at hl 1 rfl) ?_
    refine lv_if_eq (tgt := 85) hx hb dX2_joined_74 (by decide) (fun c5 => ?_) (fun c5 => ?_)
    · rw [if_pos c5] at h
      exact pf_X2_joined_85 C    z  hP hS (lv_sub hl [] rfl) h
    · rw [if_neg c5] at h
      refine lv_iload_n hx hb dX2_joined_77 rfl (lv_at hl 2 rfl) ?_
      refine lv_if_eq (tgt := 85) hx hb dX2_joined_78 (by decide) (fun c6 => ?_) (fun c6 => ?_)
      · rw [if_pos c6] at h
        exact pf_X2_joined_85 C    z  hP hS (lv_sub hl [] rfl) h
      · rw [if_neg c6] at h
        refine lv_iconst (v := 1) hx hb dX2_joined_81 (by decide) ?_
        refine lv_goto (tgt := 86) hx hb dX2_joined_82 (by decide) ?_
        exact pf_X2_joined_86 C   1 z  hP hS (lv_sub hl [] rfl) h
  rw [if_neg c4] at h
  by_cases c7 : v0 = 10
  · rw [if_pos c7] at h
    refine lv_tableIn (off := 89) (tgt := 90) hx hb dX2_joined_1 (by rw [c7]; decide) (by rw [c7]; decide) (by rw [c7]; rfl) (by decide) ?_
    refine lv_iload_n hx hb dX2_joined_90 rfl (lv_at hl 1 rfl) ?_
    refine lv_iload_n hx hb dX2_joined_91 rfl (lv_at hl 2 rfl) ?_
    refine lv_icmp_ge (tgt := 99) hx hb dX2_joined_92 (by decide) (fun c8 => ?_) (fun c8 => ?_)
    · rw [if_pos c8] at h
      refine lv_iconst (v := 0) hx hb dX2_joined_99 (by decide) ?_
      exact pf_X2_joined_100 C   0 z  hP hS (lv_sub hl [] rfl) h
    · rw [if_neg c8] at h
      refine lv_iconst (v := 1) hx hb dX2_joined_95 (by decide) ?_
      refine lv_goto (tgt := 100) hx hb dX2_joined_96 (by decide) ?_
      exact pf_X2_joined_100 C   1 z  hP hS (lv_sub hl [] rfl) h
  rw [if_neg c7] at h
  by_cases c9 : v0 = 11
  · rw [if_pos c9] at h
    refine lv_tableIn (off := 103) (tgt := 104) hx hb dX2_joined_1 (by rw [c9]; decide) (by rw [c9]; decide) (by rw [c9]; rfl) (by decide) ?_
    refine lv_iload_n hx hb dX2_joined_104 rfl (lv_at hl 1 rfl) ?_
    refine lv_iload_n hx hb dX2_joined_105 rfl (lv_at hl 2 rfl) ?_
    refine lv_icmp_le (tgt := 113) hx hb dX2_joined_106 (by decide) (fun c10 => ?_) (fun c10 => ?_)
    · rw [if_pos c10] at h
      refine lv_iconst (v := 0) hx hb dX2_joined_113 (by decide) ?_
      exact pf_X2_joined_114 C   0 z  hP hS (lv_sub hl [] rfl) h
    · rw [if_neg c10] at h
      refine lv_iconst (v := 1) hx hb dX2_joined_109 (by decide) ?_
      refine lv_goto (tgt := 114) hx hb dX2_joined_110 (by decide) ?_
      exact pf_X2_joined_114 C   1 z  hP hS (lv_sub hl [] rfl) h
  rw [if_neg c9] at h
  by_cases c11 : v0 = 12
  · rw [if_pos c11] at h
    refine lv_tableIn (off := 117) (tgt := 118) hx hb dX2_joined_1 (by rw [c11]; decide) (by rw [c11]; decide) (by rw [c11]; rfl) (by decide) ?_
    refine lv_iload_n hx hb dX2_joined_118 rfl (lv_at hl 1 rfl) ?_
    refine lv_iload_n hx hb dX2_joined_119 rfl (lv_at hl 2 rfl) ?_
    refine lv_icmp_ne (tgt := 127) hx hb dX2_joined_120 (by decide) (fun c12 => ?_) (fun c12 => ?_)
    · rw [if_neg c12] at h
      refine lv_iconst (v := 0) hx hb dX2_joined_127 (by decide) ?_
      exact pf_X2_joined_128 C   0 z  hP hS (lv_sub hl [] rfl) h
    · rw [if_pos c12] at h
      refine lv_iconst (v := 1) hx hb dX2_joined_123 (by decide) ?_
      refine lv_goto (tgt := 128) hx hb dX2_joined_124 (by decide) ?_
      exact pf_X2_joined_128 C   1 z  hP hS (lv_sub hl [] rfl) h
  rw [if_neg c11] at h
  by_cases c13 : v0 = 13
  · rw [if_pos c13] at h
    refine lv_tableIn (off := 131) (tgt := 132) hx hb dX2_joined_1 (by rw [c13]; decide) (by rw [c13]; decide) (by rw [c13]; rfl) (by decide) ?_
    refine lv_iload_n hx hb dX2_joined_132 rfl (lv_at hl 1 rfl) ?_
    refine lv_iload_n hx hb dX2_joined_133 rfl (lv_at hl 2 rfl) ?_
    refine lv_iadd hx hb dX2_joined_134 ?_
    exact x_iret hx hb hr hlocks hK hP hS h dX2_joined_135
  rw [if_neg c13] at h
  by_cases c14 : v0 = 14
  · rw [if_pos c14] at h
    refine lv_tableIn (off := 135) (tgt := 136) hx hb dX2_joined_1 (by rw [c14]; decide) (by rw [c14]; decide) (by rw [c14]; rfl) (by decide) ?_
    refine lv_iload_n hx hb dX2_joined_136 rfl (lv_at hl 1 rfl) ?_
    refine lv_iload_n hx hb dX2_joined_137 rfl (lv_at hl 2 rfl) ?_
    refine lv_isub hx hb dX2_joined_138 ?_
    exact x_iret hx hb hr hlocks hK hP hS h dX2_joined_139
  rw [if_neg c14] at h
  by_cases c15 : v0 = 15
  · rw [if_pos c15] at h
    refine lv_tableIn (off := 139) (tgt := 140) hx hb dX2_joined_1 (by rw [c15]; decide) (by rw [c15]; decide) (by rw [c15]; rfl) (by decide) ?_
    refine lv_iload_n hx hb dX2_joined_140 rfl (lv_at hl 1 rfl) ?_
    refine lv_iload_n hx hb dX2_joined_141 rfl (lv_at hl 2 rfl) ?_
    refine lv_imul hx hb dX2_joined_142 ?_
    exact x_iret hx hb hr hlocks hK hP hS h dX2_joined_143
  rw [if_neg c15] at h
  by_cases c16 : v0 = 16
  · rw [if_pos c16] at h
    refine lv_tableIn (off := 143) (tgt := 144) hx hb dX2_joined_1 (by rw [c16]; decide) (by rw [c16]; decide) (by rw [c16]; rfl) (by decide) ?_
    refine lv_iload_n hx hb dX2_joined_144 rfl (lv_at hl 2 rfl) ?_
    refine lv_if_ne (tgt := 152) hx hb dX2_joined_145 (by decide) (fun c17 => ?_) (fun c17 => ?_)
    · rw [if_neg c17] at h
      refine lv_iload_n hx hb dX2_joined_152 rfl (lv_at hl 1 rfl) ?_
      refine lv_iload_n hx hb dX2_joined_153 rfl (lv_at hl 2 rfl) ?_
      obtain ⟨g18, h⟩ := gd_s h
      refine lv_idiv hx hb dX2_joined_154 (bne_z g18) ?_
      exact x_iret hx hb hr hlocks hK hP hS h dX2_joined_155
    · rw [if_pos c17] at h
      refine lv_iconst (v := 0) hx hb dX2_joined_148 (by decide) ?_
      refine lv_goto (tgt := 155) hx hb dX2_joined_149 (by decide) ?_
      exact x_iret hx hb hr hlocks hK hP hS h dX2_joined_155
  rw [if_neg c16] at h
  by_cases c19 : v0 = 17
  · rw [if_pos c19] at h
    refine lv_tableIn (off := 155) (tgt := 156) hx hb dX2_joined_1 (by rw [c19]; decide) (by rw [c19]; decide) (by rw [c19]; rfl) (by decide) ?_
    refine lv_iload_n hx hb dX2_joined_156 rfl (lv_at hl 2 rfl) ?_
    refine lv_if_ne (tgt := 164) hx hb dX2_joined_157 (by decide) (fun c20 => ?_) (fun c20 => ?_)
    · rw [if_neg c20] at h
      refine lv_iload_n hx hb dX2_joined_164 rfl (lv_at hl 1 rfl) ?_
      refine lv_iload_n hx hb dX2_joined_165 rfl (lv_at hl 2 rfl) ?_
      obtain ⟨g21, h⟩ := gd_s h
      refine lv_irem hx hb dX2_joined_166 (bne_z g21) ?_
      exact x_iret hx hb hr hlocks hK hP hS h dX2_joined_167
    · rw [if_pos c20] at h
      refine lv_iconst (v := 0) hx hb dX2_joined_160 (by decide) ?_
      refine lv_goto (tgt := 167) hx hb dX2_joined_161 (by decide) ?_
      exact x_iret hx hb hr hlocks hK hP hS h dX2_joined_167
  rw [if_neg c19] at h
  have n22 : (v0 : Int32).toInt < 8 ∨ 17 < (v0 : Int32).toInt := by
    have c1_n := lv_neT (a := 8) c1 (by decide)
    have c4_n := lv_neT (a := 9) c4 (by decide)
    have c7_n := lv_neT (a := 10) c7 (by decide)
    have c9_n := lv_neT (a := 11) c9 (by decide)
    have c11_n := lv_neT (a := 12) c11 (by decide)
    have c13_n := lv_neT (a := 13) c13 (by decide)
    have c14_n := lv_neT (a := 14) c14 (by decide)
    have c15_n := lv_neT (a := 15) c15 (by decide)
    have c16_n := lv_neT (a := 16) c16 (by decide)
    have c19_n := lv_neT (a := 17) c19 (by decide)
    omega
  refine lv_tableOut (tgt := 168) hx hb dX2_joined_1 n22 (by decide) ?_
  refine lv_iconst (v := 0) hx hb dX2_joined_168 (by decide) ?_
  exact x_iret hx hb hr hlocks hK hP hS h dX2_joined_169
def fn_X2_outcome_154 (k4 : Nat → Nat → Int32 → Int32 → St → Option (Int32 × St)) (p0 : Nat) (p1 : Nat) (v2 : Int32) (v3 : Int32) (z : St) : Option (Int32 × St) := k4 p0 p1 v2 (v3 + 1) z
set_option maxHeartbeats 4000000 in
set_option maxRecDepth 100000 in
theorem pf_X2_outcome_154 {p : Program} {l : Launch} {e : Env} {s : State} {m : MethodId} {args : Array Value} {below : List Frame} {meth : Method} {c : Code} {G : wG} (C : CX p s m args meth c cX2_outcome 5 (wsU yX2_outcome cX2_outcome 5 (some .int)) RX2 (some .int) G) {Rz : Int32 × St} {k4 : Nat → Nat → Int32 → Int32 → St → Option (Int32 × St)} (hk_4 : ∀ (p0 : Nat) (p1 : Nat) (v2 : Int32) (v3 : Int32) (z : St) (hk0 : kd p0 = 2) (hk1 : kd p1 = 14) (H : Heap) (locs : List Loc) (ls : Array Slot), WP G z H → va_S (AW G) s.heap H locs → lv_has ls 5 [(0, .ref (G.2.2 p0)), (1, .ref (G.2.2 p1)), (2, .int v2), (3, .int v3)] → k4 p0 p1 v2 v3 z = some Rz → W p l e (rmd 3) s m args below meth c H locs 0 0 (QI below args s G Rz) (F0 m 4 ls [])) (p0 : Nat) (p1 : Nat) (v2 : Int32) (v3 : Int32) (z : St) (hk0 : kd p0 = 2) (hk1 : kd p1 = 14) {H : Heap} {locs : List Loc} {ls : Array Slot} (hP : WP G z H) (hS : va_S (AW G) s.heap H locs) (hl : lv_has ls 5 [(0, .ref (G.2.2 p0)), (1, .ref (G.2.2 p1)), (2, .int v2), (3, .int v3)]) (h : fn_X2_outcome_154  k4 p0 p1 v2 v3 z = some Rz) : W p l e (rmd 3) s m args below meth c H locs 0 0 (QI below args s G Rz) (F0 m 154 ls []) := by
  obtain ⟨hx, hb, hml, hown, hts, hr, hlocks, hK, hG⟩ := id C
  unfold fn_X2_outcome_154 at h
  refine lv_iinc (v := (v3 + 1)) (lv' := [(3, .int (v3 + 1)), (0, .ref (G.2.2 p0)), (1, .ref (G.2.2 p1)), (2, .int v2)]) hx hb dX2_outcome_154 hl (k := 3) rfl rfl (by decide) rfl (fun ls hl => ?_)
  refine lv_goto (tgt := 4) hx hb dX2_outcome_157 (by decide) ?_
  exact hk_4 p0 p1 v2 (v3 + 1) z hk0 hk1 _ _ _ hP hS (lv_sub hl [1, 2, 3, 0] rfl) h
def fn_X2_outcome_71 (k4 : Nat → Nat → Int32 → Int32 → St → Option (Int32 × St)) (p0 : Nat) (p1 : Nat) (v2 : Int32) (v3 : Int32) (tv1 : Int32) (tv2 : Int32) (z : St) : Option (Int32 × St) := gd (ix tv1 32) (nm (sI z (p0 + 2) (Int32.toNatClampNeg tv1) tv2) (fun z2 => fn_X2_outcome_154  k4 p0 p1 (v2 + 1) v3 z2))
set_option maxHeartbeats 4000000 in
set_option maxRecDepth 100000 in
theorem pf_X2_outcome_71 {p : Program} {l : Launch} {e : Env} {s : State} {m : MethodId} {args : Array Value} {below : List Frame} {meth : Method} {c : Code} {G : wG} (C : CX p s m args meth c cX2_outcome 5 (wsU yX2_outcome cX2_outcome 5 (some .int)) RX2 (some .int) G) {Rz : Int32 × St} {k4 : Nat → Nat → Int32 → Int32 → St → Option (Int32 × St)} (hk_4 : ∀ (p0 : Nat) (p1 : Nat) (v2 : Int32) (v3 : Int32) (z : St) (hk0 : kd p0 = 2) (hk1 : kd p1 = 14) (H : Heap) (locs : List Loc) (ls : Array Slot), WP G z H → va_S (AW G) s.heap H locs → lv_has ls 5 [(0, .ref (G.2.2 p0)), (1, .ref (G.2.2 p1)), (2, .int v2), (3, .int v3)] → k4 p0 p1 v2 v3 z = some Rz → W p l e (rmd 3) s m args below meth c H locs 0 0 (QI below args s G Rz) (F0 m 4 ls [])) (p0 : Nat) (p1 : Nat) (v2 : Int32) (v3 : Int32) (tv1 : Int32) (tv2 : Int32) (z : St) (hk0 : kd p0 = 2) (hk1 : kd p1 = 14) {H : Heap} {locs : List Loc} {ls : Array Slot} (hP : WP G z H) (hS : va_S (AW G) s.heap H locs) (hl : lv_has ls 5 [(0, .ref (G.2.2 p0)), (1, .ref (G.2.2 p1)), (2, .int v2), (3, .int v3)]) (h : fn_X2_outcome_71  k4 p0 p1 v2 v3 tv1 tv2 z = some Rz) : W p l e (rmd 3) s m args below meth c H locs 0 0 (QI below args s G Rz) (F0 m 71 ls [.int tv2, .int tv1, .ref (G.2.2 (p0 + 2))]) := by
  obtain ⟨hx, hb, hml, hown, hts, hr, hlocks, hK, hG⟩ := id C
  unfold fn_X2_outcome_71 at h
  obtain ⟨g1, h⟩ := gd_s h
  obtain ⟨z2, e_z2, h⟩ := nm_s h
  refine xs_14 hx hb hK hG hP hS (kf_2_1 hk0) (lf_2_1 hk0) (ix_in g1) dX2_outcome_71 (fun H locs hP hS => ?_)
  rw [← e_z2] at hP
  refine lv_iinc (v := (v2 + 1)) (lv' := [(2, .int (v2 + 1)), (0, .ref (G.2.2 p0)), (1, .ref (G.2.2 p1)), (3, .int v3)]) hx hb dX2_outcome_72 hl (k := 2) rfl rfl (by decide) rfl (fun ls hl => ?_)
  refine lv_goto (tgt := 154) hx hb dX2_outcome_75 (by decide) ?_
  exact pf_X2_outcome_154 C  hk_4 p0 p1 (v2 + 1) v3 z2 hk0 hk1 hP hS (lv_sub hl [1, 2, 0, 3] rfl) h
def fn_X2_outcome_112 (k4 : Nat → Nat → Int32 → Int32 → St → Option (Int32 × St)) (p0 : Nat) (p1 : Nat) (v2 : Int32) (v3 : Int32) (tv1 : Int32) (tv2 : Int32) (z : St) : Option (Int32 × St) := bd (fn_X2_truth  tv2 z) (fun r2 z3 => gd (ix tv1 32) (nm (sI z3 (p0 + 2) (Int32.toNatClampNeg tv1) r2) (fun z5 => fn_X2_outcome_154  k4 p0 p1 v2 v3 z5)))
set_option maxHeartbeats 4000000 in
set_option maxRecDepth 100000 in
theorem pf_X2_outcome_112 {p : Program} {l : Launch} {e : Env} {s : State} {m : MethodId} {args : Array Value} {below : List Frame} {meth : Method} {c : Code} {G : wG} (C : CX p s m args meth c cX2_outcome 5 (wsU yX2_outcome cX2_outcome 5 (some .int)) RX2 (some .int) G) {Rz : Int32 × St} {k4 : Nat → Nat → Int32 → Int32 → St → Option (Int32 × St)} (hk_4 : ∀ (p0 : Nat) (p1 : Nat) (v2 : Int32) (v3 : Int32) (z : St) (hk0 : kd p0 = 2) (hk1 : kd p1 = 14) (H : Heap) (locs : List Loc) (ls : Array Slot), WP G z H → va_S (AW G) s.heap H locs → lv_has ls 5 [(0, .ref (G.2.2 p0)), (1, .ref (G.2.2 p1)), (2, .int v2), (3, .int v3)] → k4 p0 p1 v2 v3 z = some Rz → W p l e (rmd 3) s m args below meth c H locs 0 0 (QI below args s G Rz) (F0 m 4 ls [])) (p0 : Nat) (p1 : Nat) (v2 : Int32) (v3 : Int32) (tv1 : Int32) (tv2 : Int32) (z : St) (hk0 : kd p0 = 2) (hk1 : kd p1 = 14) {H : Heap} {locs : List Loc} {ls : Array Slot} (hP : WP G z H) (hS : va_S (AW G) s.heap H locs) (hl : lv_has ls 5 [(0, .ref (G.2.2 p0)), (1, .ref (G.2.2 p1)), (2, .int v2), (3, .int v3)]) (h : fn_X2_outcome_112  k4 p0 p1 v2 v3 tv1 tv2 z = some Rz) : W p l e (rmd 3) s m args below meth c H locs 0 0 (QI below args s G Rz) (F0 m 112 ls [.int tv2, .int tv1, .ref (G.2.2 (p0 + 2))]) := by
  obtain ⟨hx, hb, hml, hown, hts, hr, hlocks, hK, hG⟩ := id C
  unfold fn_X2_outcome_112 at h
  obtain ⟨r2, z3, h1, h⟩ := bd_s h
  refine x_Si (Rz := (r2, z3)) (As := [.int tv2]) (rest := [.int tv1, .ref (G.2.2 (p0 + 2))]) ⟨hx, hb, hml, hown, hts⟩ hK hP hS (m_X2_truth hG   h1) (va_cwS 1 hts (gS lw_986 lw_987 lw_111 lw_988) rfl rfl rfl (by decide +kernel) (rmd_ok (by decide) (by decide))) rfl hl.1 rfl (Nat.le_of_ble_eq_true rfl) dX2_outcome_112 ⟨Nat.le_refl _, Nat.le_refl _⟩ (fun H locs hP hS => ?_)
  obtain ⟨g4, h⟩ := gd_s h
  obtain ⟨z5, e_z5, h⟩ := nm_s h
  refine xs_14 hx hb hK hG hP hS (kf_2_1 hk0) (lf_2_1 hk0) (ix_in g4) dX2_outcome_115 (fun H locs hP hS => ?_)
  rw [← e_z5] at hP
  refine lv_goto (tgt := 154) hx hb dX2_outcome_116 (by decide) ?_
  exact pf_X2_outcome_154 C  hk_4 p0 p1 v2 v3 z5 hk0 hk1 hP hS (lv_sub hl [0, 1, 2, 3] rfl) h
def fn_X2_outcome_4 : Nat → Nat → Nat → Int32 → Int32 → St → Option (Int32 × St)
  | 0, _, _, _, _, _ => none
  | n + 1, p0, p1, v2, v3, z => (if (z.1 p0 2) ≤ v3 then (if v2 ≤ 0 then some (0, z) else some ((z.1 (p0 + 2) (Int32.toNatClampNeg 0)), z)) else gd (ix v3 272) (nm ((z.1 (p0 + 1) (Int32.toNatClampNeg v3)) &&& 31) (fun v4_4 => (if 7 ≤ v4_4 then (if v4_4 = 7 then (if v2 ≤ 0 then fn_X2_outcome_154  (fn_X2_outcome_4   n) p0 p1 v2 v3 z else gd (ix (v2 - 1) 32) ((if (z.1 (p0 + 2) (Int32.toNatClampNeg (v2 - 1))) = 0 then fn_X2_outcome_112  (fn_X2_outcome_4   n) p0 p1 v2 v3 (v2 - 1) 1 z else fn_X2_outcome_112  (fn_X2_outcome_4   n) p0 p1 v2 v3 (v2 - 1) 0 z))) else (if v2 ≤ 1 then fn_X2_outcome_154  (fn_X2_outcome_4   n) p0 p1 v2 v3 z else gd (ix ((v2 + (-1)) - 1) 32) (gd (ix (v2 + (-1)) 32) (bd (fn_X2_joined  v4_4 (z.1 (p0 + 2) (Int32.toNatClampNeg ((v2 + (-1)) - 1))) (z.1 (p0 + 2) (Int32.toNatClampNeg (v2 + (-1)))) z) (fun r11 z12 => gd (ix ((v2 + (-1)) - 1) 32) (nm (sI z12 (p0 + 2) (Int32.toNatClampNeg ((v2 + (-1)) - 1)) r11) (fun z14 => fn_X2_outcome_154  (fn_X2_outcome_4   n) p0 p1 (v2 + (-1)) v3 z14))))))) else (if 32 ≤ v2 then fn_X2_outcome_154  (fn_X2_outcome_4   n) p0 p1 v2 v3 z else (if (Int32.ofNat (ln p1)) ≤ v4_4 then fn_X2_outcome_154  (fn_X2_outcome_4   n) p0 p1 v2 v3 z else (if v4_4 = 0 then gd (ix v3 272) (fn_X2_outcome_71  (fn_X2_outcome_4   n) p0 p1 v2 v3 v2 ((z.1 (p0 + 1) (Int32.toNatClampNeg v3)) >>> (5 &&& 31)) z) else gd (ix v4_4 (ln p1)) (fn_X2_outcome_71  (fn_X2_outcome_4   n) p0 p1 v2 v3 v2 (z.1 p1 (Int32.toNatClampNeg v4_4)) z))))))))
set_option maxHeartbeats 4000000 in
set_option maxRecDepth 100000 in
theorem pf_X2_outcome_4 {p : Program} {l : Launch} {e : Env} {s : State} {m : MethodId} {args : Array Value} {below : List Frame} {meth : Method} {c : Code} {G : wG} (C : CX p s m args meth c cX2_outcome 5 (wsU yX2_outcome cX2_outcome 5 (some .int)) RX2 (some .int) G) {Rz : Int32 × St} : ∀ (n : Nat) (p0 : Nat) (p1 : Nat) (v2 : Int32) (v3 : Int32) (z : St) (hk0 : kd p0 = 2) (hk1 : kd p1 = 14) (H : Heap) (locs : List Loc) (ls : Array Slot), WP G z H → va_S (AW G) s.heap H locs → lv_has ls 5 [(0, .ref (G.2.2 p0)), (1, .ref (G.2.2 p1)), (2, .int v2), (3, .int v3)] → fn_X2_outcome_4   n p0 p1 v2 v3 z = some Rz → W p l e (rmd 3) s m args below meth c H locs 0 0 (QI below args s G Rz) (F0 m 4 ls []) := by
  obtain ⟨hx, hb, hml, hown, hts, hr, hlocks, hK, hG⟩ := id C
  intro n
  induction n with
  | zero => intro p0 p1 v2 v3 z hk0 hk1 H locs ls hP hS hl h; cases h
  | succ n ih =>
    intro p0 p1 v2 v3 z hk0 hk1 H locs ls hP hS hl h
    rw [fn_X2_outcome_4] at h
    refine lv_iload_n hx hb dX2_outcome_4 rfl (lv_at hl 3 rfl) ?_
    refine lv_aload_n hx hb dX2_outcome_5 rfl (lv_at hl 0 rfl) ?_
    refine ge_2_2 hx hb hts (inU inW_X2) hown hK hP hk0 (hts _ (List.mem_cons_of_mem _ lw_158)) dX2_outcome_6 ?_
    refine lv_icmp_ge (tgt := 160) hx hb dX2_outcome_9 (by decide) (fun c1 => ?_) (fun c1 => ?_)
    · rw [if_pos c1] at h
      refine lv_iload_n hx hb dX2_outcome_160 rfl (lv_at hl 2 rfl) ?_
      refine lv_if_le (tgt := 173) hx hb dX2_outcome_161 (by decide) (fun c2 => ?_) (fun c2 => ?_)
      · rw [if_pos c2] at h
        refine lv_iconst (v := 0) hx hb dX2_outcome_173 (by decide) ?_
        exact x_iret hx hb hr hlocks hK hP hS h dX2_outcome_174
      · rw [if_neg c2] at h
        refine lv_aload_n hx hb dX2_outcome_164 rfl (lv_at hl 0 rfl) ?_
        refine ge_2_1 hx hb hts (inU inW_X2) hown hK hP hk0 (hts _ (List.mem_cons_of_mem _ lw_157)) dX2_outcome_165 ?_
        refine lv_iconst (v := 0) hx hb dX2_outcome_168 (by decide) ?_
        refine xl_14 hx hb hK hP (kf_2_1 hk0) (lf_2_1 hk0) (ix_in (by decide)) dX2_outcome_169 ?_
        refine lv_goto (tgt := 174) hx hb dX2_outcome_170 (by decide) ?_
        exact x_iret hx hb hr hlocks hK hP hS h dX2_outcome_174
    · rw [if_neg c1] at h
      refine lv_aload_n hx hb dX2_outcome_12 rfl (lv_at hl 0 rfl) ?_
      refine ge_2_0 hx hb hts (inU inW_X2) hown hK hP hk0 (hts _ (List.mem_cons_of_mem _ lw_156)) dX2_outcome_13 ?_
      refine lv_iload_n hx hb dX2_outcome_16 rfl (lv_at hl 3 rfl) ?_
      obtain ⟨g3, h⟩ := gd_s h
      refine xl_14 hx hb hK hP (kf_2_0 hk0) (lf_2_0 hk0) (ix_in g3) dX2_outcome_17 ?_
      refine lv_bipush (v := 31) hx hb dX2_outcome_18 (by decide) ?_
      refine lv_iand hx hb dX2_outcome_20 ?_
      obtain ⟨v4_4, e_v4_4, h⟩ := nm_s h
      refine x_top e_v4_4 ?_
      refine lv_istore (lv' := [(4, .int v4_4), (0, .ref (G.2.2 p0)), (1, .ref (G.2.2 p1)), (2, .int v2), (3, .int v3)]) hx hb dX2_outcome_21 hl (by decide) rfl (fun ls hl => ?_)
      refine lv_iload hx hb dX2_outcome_23 (lv_at hl 0 rfl) ?_
      refine lv_bipush (v := 7) hx hb dX2_outcome_25 (by decide) ?_
      refine lv_icmp_ge (tgt := 78) hx hb dX2_outcome_27 (by decide) (fun c5 => ?_) (fun c5 => ?_)
      · rw [if_pos c5] at h
        refine lv_iload hx hb dX2_outcome_78 (lv_at hl 0 rfl) ?_
        refine lv_bipush (v := 7) hx hb dX2_outcome_80 (by decide) ?_
        refine lv_icmp_ne (tgt := 119) hx hb dX2_outcome_82 (by decide) (fun c6 => ?_) (fun c6 => ?_)
        · rw [if_neg c6] at h
          refine lv_iload_n hx hb dX2_outcome_119 rfl (lv_at hl 3 rfl) ?_
          refine lv_iconst (v := 1) hx hb dX2_outcome_120 (by decide) ?_
          refine lv_icmp_le (tgt := 154) hx hb dX2_outcome_121 (by decide) (fun c7 => ?_) (fun c7 => ?_)
          · rw [if_pos c7] at h
            exact pf_X2_outcome_154 C  ih p0 p1 v2 v3 z hk0 hk1 hP hS (lv_sub hl [1, 2, 3, 4] rfl) h
          · rw [if_neg c7] at h
            refine lv_iinc (v := (v2 + (-1))) (lv' := [(2, .int (v2 + (-1))), (4, .int v4_4), (0, .ref (G.2.2 p0)), (1, .ref (G.2.2 p1)), (3, .int v3)]) hx hb dX2_outcome_124 hl (k := 3) rfl rfl (by decide) rfl (fun ls hl => ?_)
            refine lv_aload_n hx hb dX2_outcome_127 rfl (lv_at hl 2 rfl) ?_
            refine ge_2_1 hx hb hts (inU inW_X2) hown hK hP hk0 (hts _ (List.mem_cons_of_mem _ lw_157)) dX2_outcome_128 ?_
            refine lv_iload_n hx hb dX2_outcome_131 rfl (lv_at hl 0 rfl) ?_
            refine lv_iconst (v := 1) hx hb dX2_outcome_132 (by decide) ?_
            refine lv_isub hx hb dX2_outcome_133 ?_
            refine lv_iload hx hb dX2_outcome_134 (lv_at hl 1 rfl) ?_
            refine lv_aload_n hx hb dX2_outcome_136 rfl (lv_at hl 2 rfl) ?_
            refine ge_2_1 hx hb hts (inU inW_X2) hown hK hP hk0 (hts _ (List.mem_cons_of_mem _ lw_157)) dX2_outcome_137 ?_
            refine lv_iload_n hx hb dX2_outcome_140 rfl (lv_at hl 0 rfl) ?_
            refine lv_iconst (v := 1) hx hb dX2_outcome_141 (by decide) ?_
            refine lv_isub hx hb dX2_outcome_142 ?_
            obtain ⟨g8, h⟩ := gd_s h
            refine xl_14 hx hb hK hP (kf_2_1 hk0) (lf_2_1 hk0) (ix_in g8) dX2_outcome_143 ?_
            refine lv_aload_n hx hb dX2_outcome_144 rfl (lv_at hl 2 rfl) ?_
            refine ge_2_1 hx hb hts (inU inW_X2) hown hK hP hk0 (hts _ (List.mem_cons_of_mem _ lw_157)) dX2_outcome_145 ?_
            refine lv_iload_n hx hb dX2_outcome_148 rfl (lv_at hl 0 rfl) ?_
            obtain ⟨g9, h⟩ := gd_s h
            refine xl_14 hx hb hK hP (kf_2_1 hk0) (lf_2_1 hk0) (ix_in g9) dX2_outcome_149 ?_
            obtain ⟨r11, z12, h10, h⟩ := bd_s h
            refine x_Si (Rz := (r11, z12)) (As := [.int v4_4, .int (z.1 (p0 + 2) (Int32.toNatClampNeg ((v2 + (-1)) - 1))), .int (z.1 (p0 + 2) (Int32.toNatClampNeg (v2 + (-1))))]) (rest := [.int ((v2 + (-1)) - 1), .ref (G.2.2 (p0 + 2))]) ⟨hx, hb, hml, hown, hts⟩ hK hP hS (m_X2_joined hG   h10) (va_cwS 3 hts (gS lw_989 lw_990 lw_111 lw_991) rfl rfl rfl (by decide +kernel) (rmd_ok (by decide) (by decide))) rfl hl.1 rfl (Nat.le_of_ble_eq_true rfl) dX2_outcome_150 ⟨Nat.le_refl _, Nat.le_refl _⟩ (fun H locs hP hS => ?_)
            obtain ⟨g13, h⟩ := gd_s h
            obtain ⟨z14, e_z14, h⟩ := nm_s h
            refine xs_14 hx hb hK hG hP hS (kf_2_1 hk0) (lf_2_1 hk0) (ix_in g13) dX2_outcome_153 (fun H locs hP hS => ?_)
            rw [← e_z14] at hP
            exact pf_X2_outcome_154 C  ih p0 p1 (v2 + (-1)) v3 z14 hk0 hk1 hP hS (lv_sub hl [2, 3, 0, 4] rfl) h
        · rw [if_pos c6] at h
          refine lv_iload_n hx hb dX2_outcome_85 rfl (lv_at hl 3 rfl) ?_
          refine lv_if_le (tgt := 154) hx hb dX2_outcome_86 (by decide) (fun c15 => ?_) (fun c15 => ?_)
          · rw [if_pos c15] at h
            exact pf_X2_outcome_154 C  ih p0 p1 v2 v3 z hk0 hk1 hP hS (lv_sub hl [1, 2, 3, 4] rfl) h
          · rw [if_neg c15] at h
            refine lv_aload_n hx hb dX2_outcome_89 rfl (lv_at hl 1 rfl) ?_
            refine ge_2_1 hx hb hts (inU inW_X2) hown hK hP hk0 (hts _ (List.mem_cons_of_mem _ lw_157)) dX2_outcome_90 ?_
            refine lv_iload_n hx hb dX2_outcome_93 rfl (lv_at hl 3 rfl) ?_
            refine lv_iconst (v := 1) hx hb dX2_outcome_94 (by decide) ?_
            refine lv_isub hx hb dX2_outcome_95 ?_
            refine lv_aload_n hx hb dX2_outcome_96 rfl (lv_at hl 1 rfl) ?_
            refine ge_2_1 hx hb hts (inU inW_X2) hown hK hP hk0 (hts _ (List.mem_cons_of_mem _ lw_157)) dX2_outcome_97 ?_
            refine lv_iload_n hx hb dX2_outcome_100 rfl (lv_at hl 3 rfl) ?_
            refine lv_iconst (v := 1) hx hb dX2_outcome_101 (by decide) ?_
            refine lv_isub hx hb dX2_outcome_102 ?_
            obtain ⟨g16, h⟩ := gd_s h
            refine xl_14 hx hb hK hP (kf_2_1 hk0) (lf_2_1 hk0) (ix_in g16) dX2_outcome_103 ?_
            refine lv_if_ne (tgt := 111) hx hb dX2_outcome_104 (by decide) (fun c17 => ?_) (fun c17 => ?_)
            · rw [if_neg c17] at h
              refine lv_iconst (v := 0) hx hb dX2_outcome_111 (by decide) ?_
              exact pf_X2_outcome_112 C  ih p0 p1 v2 v3 (v2 - 1) 0 z hk0 hk1 hP hS (lv_sub hl [1, 2, 3, 4] rfl) h
            · rw [if_pos c17] at h
              refine lv_iconst (v := 1) hx hb dX2_outcome_107 (by decide) ?_
              refine lv_goto (tgt := 112) hx hb dX2_outcome_108 (by decide) ?_
              exact pf_X2_outcome_112 C  ih p0 p1 v2 v3 (v2 - 1) 1 z hk0 hk1 hP hS (lv_sub hl [1, 2, 3, 4] rfl) h
      · rw [if_neg c5] at h
        refine lv_iload_n hx hb dX2_outcome_30 rfl (lv_at hl 3 rfl) ?_
        refine lv_aload_n hx hb dX2_outcome_31 rfl (lv_at hl 1 rfl) ?_
        refine ge_2_1 hx hb hts (inU inW_X2) hown hK hP hk0 (hts _ (List.mem_cons_of_mem _ lw_157)) dX2_outcome_32 ?_
        refine xn_14 (v := 32) hx hb hK hP (kf_2_1 hk0) (lf_2_1 hk0) rfl dX2_outcome_35 ?_
        refine lv_icmp_ge (tgt := 154) hx hb dX2_outcome_36 (by decide) (fun c18 => ?_) (fun c18 => ?_)
        · rw [if_pos c18] at h
          exact pf_X2_outcome_154 C  ih p0 p1 v2 v3 z hk0 hk1 hP hS (lv_sub hl [1, 2, 3, 4] rfl) h
        · rw [if_neg c18] at h
          refine lv_iload hx hb dX2_outcome_39 (lv_at hl 0 rfl) ?_
          refine lv_aload_n hx hb dX2_outcome_41 rfl (lv_at hl 2 rfl) ?_
          refine xn_14 hx hb hK hP hk1 rfl rfl dX2_outcome_42 ?_
          refine lv_icmp_ge (tgt := 154) hx hb dX2_outcome_43 (by decide) (fun c19 => ?_) (fun c19 => ?_)
          · rw [if_pos c19] at h
            exact pf_X2_outcome_154 C  ih p0 p1 v2 v3 z hk0 hk1 hP hS (lv_sub hl [1, 2, 3, 4] rfl) h
          · rw [if_neg c19] at h
            refine lv_aload_n hx hb dX2_outcome_46 rfl (lv_at hl 1 rfl) ?_
            refine ge_2_1 hx hb hts (inU inW_X2) hown hK hP hk0 (hts _ (List.mem_cons_of_mem _ lw_157)) dX2_outcome_47 ?_
            refine lv_iload_n hx hb dX2_outcome_50 rfl (lv_at hl 3 rfl) ?_
            refine lv_iload hx hb dX2_outcome_51 (lv_at hl 0 rfl) ?_
            refine lv_if_ne (tgt := 67) hx hb dX2_outcome_53 (by decide) (fun c20 => ?_) (fun c20 => ?_)
            · rw [if_neg c20] at h
              refine lv_aload_n hx hb dX2_outcome_67 rfl (lv_at hl 2 rfl) ?_
              refine lv_iload hx hb dX2_outcome_68 (lv_at hl 0 rfl) ?_
              obtain ⟨g21, h⟩ := gd_s h
              refine xl_14 hx hb hK hP hk1 rfl (ix_in g21) dX2_outcome_70 ?_
              exact pf_X2_outcome_71 C  ih p0 p1 v2 v3 v2 (z.1 p1 (Int32.toNatClampNeg v4_4)) z hk0 hk1 hP hS (lv_sub hl [1, 2, 3, 4] rfl) h
            · rw [if_pos c20] at h
              refine lv_aload_n hx hb dX2_outcome_56 rfl (lv_at hl 1 rfl) ?_
              refine ge_2_0 hx hb hts (inU inW_X2) hown hK hP hk0 (hts _ (List.mem_cons_of_mem _ lw_156)) dX2_outcome_57 ?_
              refine lv_iload_n hx hb dX2_outcome_60 rfl (lv_at hl 4 rfl) ?_
              obtain ⟨g22, h⟩ := gd_s h
              refine xl_14 hx hb hK hP (kf_2_0 hk0) (lf_2_0 hk0) (ix_in g22) dX2_outcome_61 ?_
              refine lv_iconst (v := 5) hx hb dX2_outcome_62 (by decide) ?_
              refine lv_ishr hx hb dX2_outcome_63 ?_
              refine lv_goto (tgt := 71) hx hb dX2_outcome_64 (by decide) ?_
              exact pf_X2_outcome_71 C  ih p0 p1 v2 v3 v2 ((z.1 (p0 + 1) (Int32.toNatClampNeg v3)) >>> (5 &&& 31)) z hk0 hk1 hP hS (lv_sub hl [1, 2, 3, 4] rfl) h
def fn_X2_outcome (p0 : Nat) (p1 : Nat) (z : St) : Option (Int32 × St) := fn_X2_outcome_4   fu p0 p1 0 0 z
set_option maxHeartbeats 4000000 in
set_option maxRecDepth 100000 in
theorem m_X2_outcome {l : Launch} {G : wG} (hG : Ok G) {p0 : Nat} {p1 : Nat} {z : St} {Rz : Int32 × St} (hk0 : kd p0 = 2) (hk1 : kd p1 = 14) (h : fn_X2_outcome  p0 p1 z = some Rz) : Met l yX2_outcome (wsU yX2_outcome cX2_outcome 5 (some .int)) (rmd 3) (va_Pc [.ref (G.2.2 p0), .ref (G.2.2 p1)] (Pre G z)) (va_Qi (fun r u => (r, u) = Rz) (Pre G) (AW G)) 0 0 (AW G) := by
  refine Met.ofW (cc := cX2_outcome) (maxL := 5) (ret := (some .int)) (by decide) rfl ?_
  intro p e s m args below meth c s₁ B hml hv
  obtain ⟨rfl, hP, hK⟩ := hv
  have C : CX p s m ([.ref (G.2.2 p0), .ref (G.2.2 p1)] : List Value).toArray meth c cX2_outcome 5 (wsU yX2_outcome cX2_outcome 5 (some .int)) RX2 (some .int) G := ⟨B.exec, B.bytes, hml, findClass_of_methodNamed B.named, atoms_spec (ws := (wsU yX2_outcome cX2_outcome 5 (some .int))) B.pre, B.returns, B.notSynchronized, hK, hG⟩
  obtain ⟨hx, hb, -, hown, hts, hr, hlocks, -, -⟩ := id C
  have hS : va_S (AW G) s.heap s.heap [] := va_S.rf
  have hl := lv_entry [.ref (G.2.2 p0), .ref (G.2.2 p1)] (n := 5) (Nat.le_of_ble_eq_true rfl)
  rw [lg_entry_eq]
  generalize (lg_sl [.ref (G.2.2 p0), .ref (G.2.2 p1)] ++ List.replicate (5 - (lg_sl [.ref (G.2.2 p0), .ref (G.2.2 p1)]).length) Slot.unset).toArray = ls at hl ⊢
  have hl : lv_has ls 5 [(0, .ref (G.2.2 p0)), (1, .ref (G.2.2 p1))] := hl
  unfold fn_X2_outcome at h
  refine lv_iconst (v := 0) hx hb dX2_outcome_0 (by decide) ?_
  refine lv_istore_n (lv' := [(2, .int 0), (0, .ref (G.2.2 p0)), (1, .ref (G.2.2 p1))]) hx hb dX2_outcome_1 rfl hl (by decide) rfl (fun ls hl => ?_)
  refine lv_iconst (v := 0) hx hb dX2_outcome_2 (by decide) ?_
  refine lv_istore_n (lv' := [(3, .int 0), (2, .int 0), (0, .ref (G.2.2 p0)), (1, .ref (G.2.2 p1))]) hx hb dX2_outcome_3 rfl hl (by decide) rfl (fun ls hl => ?_)
  exact pf_X2_outcome_4 C   fu p0 p1 0 0 z hk0 hk1 _ _ _ hP hS (lv_sub hl [2, 3, 1, 0] rfl) h
