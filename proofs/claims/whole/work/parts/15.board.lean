def fn_X1_lay_48 : Nat → Nat → Nat → Int32 → St → Option (St)
  | 0, _, _, _, _ => none
  | n + 1, p0, p1, v2, z => (if 6 ≤ v2 then nm (sI z p0 3 0) (fun z2 => nm (sI z2 p0 4 (z2.1 p1 14)) (fun z3 => some z3)) else gd (ix v2 6) (nm (sI z (p0 + 26) (Int32.toNatClampNeg v2) (-1)) (fun z5 => fn_X1_lay_48   n p0 p1 (v2 + 1) z5)))
set_option maxHeartbeats 4000000 in
set_option maxRecDepth 100000 in
theorem pf_X1_lay_48 {p : Program} {l : Launch} {e : Env} {s : State} {m : MethodId} {args : Array Value} {below : List Frame} {meth : Method} {c : Code} {G : wG} (C : CX p s m args meth c cX1_lay 3 (wsU yX1_lay cX1_lay 3 none) RX1 none G) {Rz : St} : ∀ (n : Nat) (p0 : Nat) (p1 : Nat) (v2 : Int32) (z : St) (hk0 : kd p0 = 1) (hk1 : kd p1 = 7) (H : Heap) (locs : List Loc) (ls : Array Slot), WP G z H → va_S (AW G) s.heap H locs → lv_has ls 3 [(0, .ref (G.2.2 p0)), (1, .ref (G.2.2 p1)), (2, .int v2)] → fn_X1_lay_48   n p0 p1 v2 z = some Rz → W p l e (rmd 2) s m args below meth c H locs 0 0 (QV below args s G Rz) (F0 m 48 ls []) := by
  obtain ⟨hx, hb, hml, hown, hts, hr, hlocks, hK, hG⟩ := id C
  intro n
  induction n with
  | zero => intro p0 p1 v2 z hk0 hk1 H locs ls hP hS hl h; cases h
  | succ n ih =>
    intro p0 p1 v2 z hk0 hk1 H locs ls hP hS hl h
    rw [fn_X1_lay_48] at h
    refine lv_iload_n hx hb dX1_lay_48 rfl (lv_at hl 2 rfl) ?_
    refine lv_bipush (v := 6) hx hb dX1_lay_49 (by decide) ?_
    refine lv_icmp_ge (tgt := 67) hx hb dX1_lay_51 (by decide) (fun c1 => ?_) (fun c1 => ?_)
    · rw [if_pos c1] at h
      refine lv_aload_n hx hb dX1_lay_67 rfl (lv_at hl 0 rfl) ?_
      refine lv_iconst (v := 0) hx hb dX1_lay_68 (by decide) ?_
      obtain ⟨z2, e_z2, h⟩ := nm_s h
      refine pu_1_3 hx hb hts (inU inW_X1) hown hK hG hP hS hk0 (hts _ (List.mem_cons_of_mem _ lw_426)) dX1_lay_69 (fun H locs hP hS => ?_)
      rw [← e_z2] at hP
      refine lv_aload_n hx hb dX1_lay_72 rfl (lv_at hl 0 rfl) ?_
      refine lv_aload_n hx hb dX1_lay_73 rfl (lv_at hl 1 rfl) ?_
      refine ge_7_14 hx hb hts (inU inW_X7) hown hK hP hk1 (hts _ (List.mem_cons_of_mem _ lw_224)) dX1_lay_74 ?_
      obtain ⟨z3, e_z3, h⟩ := nm_s h
      refine pu_1_4 hx hb hts (inU inW_X1) hown hK hG hP hS hk0 (hts _ (List.mem_cons_of_mem _ lw_430)) dX1_lay_77 (fun H locs hP hS => ?_)
      rw [← e_z3] at hP
      exact x_vret hx hb hr hlocks hK hP hS h dX1_lay_80
    · rw [if_neg c1] at h
      refine lv_aload_n hx hb dX1_lay_54 rfl (lv_at hl 0 rfl) ?_
      refine ge_1_1 hx hb hts (inU inW_X1) hown hK hP hk0 (hts _ (List.mem_cons_of_mem _ lw_417)) dX1_lay_55 ?_
      refine lv_iload_n hx hb dX1_lay_58 rfl (lv_at hl 2 rfl) ?_
      refine lv_iconst (v := (-1)) hx hb dX1_lay_59 (by decide) ?_
      obtain ⟨g4, h⟩ := gd_s h
      obtain ⟨z5, e_z5, h⟩ := nm_s h
      refine xs_14 hx hb hK hG hP hS (kf_1_1 hk0) (lf_1_1 hk0) (ix_in g4) dX1_lay_60 (fun H locs hP hS => ?_)
      rw [← e_z5] at hP
      refine lv_iinc (v := (v2 + 1)) (lv' := [(2, .int (v2 + 1)), (0, .ref (G.2.2 p0)), (1, .ref (G.2.2 p1))]) hx hb dX1_lay_61 hl (k := 2) rfl rfl (by decide) rfl (fun ls hl => ?_)
      refine lv_goto (tgt := 48) hx hb dX1_lay_64 (by decide) ?_
      exact ih p0 p1 (v2 + 1) z5 hk0 hk1 _ _ _ hP hS (lv_sub hl [1, 2, 0] rfl) h
def fn_X1_lay_2 : Nat → Nat → Nat → Int32 → St → Option (St)
  | 0, _, _, _, _ => none
  | n + 1, p0, p1, v2, z => (if (z.1 p1 0) ≤ v2 then nm (sI z p0 2 (z.1 p1 0)) (fun z2 => fn_X1_lay_48   fu p0 p1 0 z2) else gd (ix v2 24) (gd (ix v2 3) (gd (ix v2 3) (bv (fn_X9_layWhole  ((p0 + 1) + 1 + (Int32.toNatClampNeg v2)) v2 (z.1 (p1 + 2) (Int32.toNatClampNeg v2)) (z.1 (p1 + 3) (Int32.toNatClampNeg v2)) z) (fun z7 => fn_X1_lay_2   n p0 p1 (v2 + 1) z7)))))
set_option maxHeartbeats 4000000 in
set_option maxRecDepth 100000 in
theorem pf_X1_lay_2 {p : Program} {l : Launch} {e : Env} {s : State} {m : MethodId} {args : Array Value} {below : List Frame} {meth : Method} {c : Code} {G : wG} (C : CX p s m args meth c cX1_lay 3 (wsU yX1_lay cX1_lay 3 none) RX1 none G) {Rz : St} : ∀ (n : Nat) (p0 : Nat) (p1 : Nat) (v2 : Int32) (z : St) (hk0 : kd p0 = 1) (hk1 : kd p1 = 7) (H : Heap) (locs : List Loc) (ls : Array Slot), WP G z H → va_S (AW G) s.heap H locs → lv_has ls 3 [(0, .ref (G.2.2 p0)), (1, .ref (G.2.2 p1)), (2, .int v2)] → fn_X1_lay_2   n p0 p1 v2 z = some Rz → W p l e (rmd 2) s m args below meth c H locs 0 0 (QV below args s G Rz) (F0 m 2 ls []) := by
  obtain ⟨hx, hb, hml, hown, hts, hr, hlocks, hK, hG⟩ := id C
  intro n
  induction n with
  | zero => intro p0 p1 v2 z hk0 hk1 H locs ls hP hS hl h; cases h
  | succ n ih =>
    intro p0 p1 v2 z hk0 hk1 H locs ls hP hS hl h
    rw [fn_X1_lay_2] at h
    refine lv_iload_n hx hb dX1_lay_2 rfl (lv_at hl 2 rfl) ?_
    refine lv_aload_n hx hb dX1_lay_3 rfl (lv_at hl 1 rfl) ?_
    refine ge_7_0 hx hb hts (inU inW_X7) hown hK hP hk1 (hts _ (List.mem_cons_of_mem _ lw_178)) dX1_lay_4 ?_
    refine lv_icmp_ge (tgt := 38) hx hb dX1_lay_7 (by decide) (fun c1 => ?_) (fun c1 => ?_)
    · rw [if_pos c1] at h
      refine lv_aload_n hx hb dX1_lay_38 rfl (lv_at hl 0 rfl) ?_
      refine lv_aload_n hx hb dX1_lay_39 rfl (lv_at hl 1 rfl) ?_
      refine ge_7_0 hx hb hts (inU inW_X7) hown hK hP hk1 (hts _ (List.mem_cons_of_mem _ lw_178)) dX1_lay_40 ?_
      obtain ⟨z2, e_z2, h⟩ := nm_s h
      refine pu_1_2 hx hb hts (inU inW_X1) hown hK hG hP hS hk0 (hts _ (List.mem_cons_of_mem _ lw_423)) dX1_lay_43 (fun H locs hP hS => ?_)
      rw [← e_z2] at hP
      refine lv_iconst (v := 0) hx hb dX1_lay_46 (by decide) ?_
      refine lv_istore_n (lv' := [(2, .int 0), (0, .ref (G.2.2 p0)), (1, .ref (G.2.2 p1))]) hx hb dX1_lay_47 rfl hl (by decide) rfl (fun ls hl => ?_)
      exact pf_X1_lay_48 C   fu p0 p1 0 z2 hk0 hk1 _ _ _ hP hS (lv_sub hl [1, 2, 0] rfl) h
    · rw [if_neg c1] at h
      refine lv_aload_n hx hb dX1_lay_10 rfl (lv_at hl 0 rfl) ?_
      refine ge_1_0 hx hb hts (inU inW_X1) hown hK hP hk0 (hts _ (List.mem_cons_of_mem _ lw_412)) dX1_lay_11 ?_
      refine lv_iload_n hx hb dX1_lay_14 rfl (lv_at hl 2 rfl) ?_
      obtain ⟨g3, h⟩ := gd_s h
      refine xl_18 hx hb hK hP (kf_1_0 hk0) (lf_1_0 hk0) (ix_in g3) dX1_lay_15 ?_
      refine lv_iload_n hx hb dX1_lay_16 rfl (lv_at hl 2 rfl) ?_
      refine lv_aload_n hx hb dX1_lay_17 rfl (lv_at hl 1 rfl) ?_
      refine ge_7_2 hx hb hts (inU inW_X7) hown hK hP hk1 (hts _ (List.mem_cons_of_mem _ lw_185)) dX1_lay_18 ?_
      refine lv_iload_n hx hb dX1_lay_21 rfl (lv_at hl 2 rfl) ?_
      obtain ⟨g4, h⟩ := gd_s h
      refine xl_14 hx hb hK hP (kf_7_2 hk1) (lf_7_2 hk1) (ix_in g4) dX1_lay_22 ?_
      refine lv_aload_n hx hb dX1_lay_23 rfl (lv_at hl 1 rfl) ?_
      refine ge_7_3 hx hb hts (inU inW_X7) hown hK hP hk1 (hts _ (List.mem_cons_of_mem _ lw_189)) dX1_lay_24 ?_
      refine lv_iload_n hx hb dX1_lay_27 rfl (lv_at hl 2 rfl) ?_
      obtain ⟨g5, h⟩ := gd_s h
      refine xl_14 hx hb hK hP (kf_7_3 hk1) (lf_7_3 hk1) (ix_in g5) dX1_lay_28 ?_
      obtain ⟨z7, h6, h⟩ := bv_s h
      refine x_Vv (Rz := z7) (As := [.int v2, .int (z.1 (p1 + 2) (Int32.toNatClampNeg v2)), .int (z.1 (p1 + 3) (Int32.toNatClampNeg v2))]) (rest := []) ⟨hx, hb, hml, hown, hts⟩ hK hP hS (kd_lt (ke_18 (kf_1_0 hk0) (ix_lt g3)) (by decide)) (cell_9 (ke_18 (kf_1_0 hk0) (ix_lt g3))) rfl (m_X9_layWhole hG  (ke_18 (kf_1_0 hk0) (ix_lt g3)) h6) (cwV 3 hts (gV lw_922 lw_923 lw_924 lw_118 lw_925) rfl rfl rfl (by decide +kernel) (rmd_ok (by decide) (by decide))) rfl hl.1 rfl (Nat.le_of_ble_eq_true rfl) dX1_lay_29 ⟨Nat.le_refl _, Nat.le_refl _⟩ (fun H locs hP hS => ?_)
      refine lv_iinc (v := (v2 + 1)) (lv' := [(2, .int (v2 + 1)), (0, .ref (G.2.2 p0)), (1, .ref (G.2.2 p1))]) hx hb dX1_lay_32 hl (k := 2) rfl rfl (by decide) rfl (fun ls hl => ?_)
      refine lv_goto (tgt := 2) hx hb dX1_lay_35 (by decide) ?_
      exact ih p0 p1 (v2 + 1) z7 hk0 hk1 _ _ _ hP hS (lv_sub hl [1, 2, 0] rfl) h
def fn_X1_lay (p0 : Nat) (p1 : Nat) (z : St) : Option (St) := fn_X1_lay_2   fu p0 p1 0 z
set_option maxHeartbeats 4000000 in
set_option maxRecDepth 100000 in
theorem m_X1_lay {l : Launch} {G : wG} (hG : Ok G) {p0 : Nat} {p1 : Nat} {z : St} {Rz : St} (hk0 : kd p0 = 1) (hk1 : kd p1 = 7) (h : fn_X1_lay  p0 p1 z = some Rz) : Met l yX1_lay (wsU yX1_lay cX1_lay 3 none) (rmd 2) (va_Pc [.ref (G.2.2 p0), .ref (G.2.2 p1)] (Pre G z)) (va_Qv (fun u => u = Rz) (Pre G) (AW G)) 0 0 (AW G) := by
  refine Met.ofW (cc := cX1_lay) (maxL := 3) (ret := none) (by decide) rfl ?_
  intro p e s m args below meth c s₁ B hml hv
  obtain ⟨rfl, hP, hK⟩ := hv
  have C : CX p s m ([.ref (G.2.2 p0), .ref (G.2.2 p1)] : List Value).toArray meth c cX1_lay 3 (wsU yX1_lay cX1_lay 3 none) RX1 none G := ⟨B.exec, B.bytes, hml, findClass_of_methodNamed B.named, atoms_spec (ws := (wsU yX1_lay cX1_lay 3 none)) B.pre, B.returns, B.notSynchronized, hK, hG⟩
  obtain ⟨hx, hb, -, hown, hts, hr, hlocks, -, -⟩ := id C
  have hS : va_S (AW G) s.heap s.heap [] := va_S.rf
  have hl := lv_entry [.ref (G.2.2 p0), .ref (G.2.2 p1)] (n := 3) (Nat.le_of_ble_eq_true rfl)
  rw [lg_entry_eq]
  generalize (lg_sl [.ref (G.2.2 p0), .ref (G.2.2 p1)] ++ List.replicate (3 - (lg_sl [.ref (G.2.2 p0), .ref (G.2.2 p1)]).length) Slot.unset).toArray = ls at hl ⊢
  have hl : lv_has ls 3 [(0, .ref (G.2.2 p0)), (1, .ref (G.2.2 p1))] := hl
  unfold fn_X1_lay at h
  refine lv_iconst (v := 0) hx hb dX1_lay_0 (by decide) ?_
  refine lv_istore_n (lv' := [(2, .int 0), (0, .ref (G.2.2 p0)), (1, .ref (G.2.2 p1))]) hx hb dX1_lay_1 rfl hl (by decide) rfl (fun ls hl => ?_)
  exact pf_X1_lay_2 C   fu p0 p1 0 z hk0 hk1 _ _ _ hP hS (lv_sub hl [1, 2, 0] rfl) h
def fn_X1_takeFrom_33 : Nat → Nat → Nat → Int32 → St → Option (St)
  | 0, _, _, _, _ => none
  | n + 1, p0, p1, v2, z => (if 6 ≤ v2 then nm (sI z p0 2 (z.1 p1 2)) (fun z2 => nm (sI z2 p0 3 (z2.1 p1 3)) (fun z3 => nm (sI z3 p0 4 (z3.1 p1 4)) (fun z4 => some z4))) else gd (ix v2 6) (gd (ix v2 6) (nm (sI z (p0 + 26) (Int32.toNatClampNeg v2) (z.1 (p1 + 26) (Int32.toNatClampNeg v2))) (fun z7 => fn_X1_takeFrom_33   n p0 p1 (v2 + 1) z7))))
set_option maxHeartbeats 4000000 in
set_option maxRecDepth 100000 in
theorem pf_X1_takeFrom_33 {p : Program} {l : Launch} {e : Env} {s : State} {m : MethodId} {args : Array Value} {below : List Frame} {meth : Method} {c : Code} {G : wG} (C : CX p s m args meth c cX1_takeFrom 3 (wsU yX1_takeFrom cX1_takeFrom 3 none) RX1 none G) {Rz : St} : ∀ (n : Nat) (p0 : Nat) (p1 : Nat) (v2 : Int32) (z : St) (hk0 : kd p0 = 1) (hk1 : kd p1 = 1) (H : Heap) (locs : List Loc) (ls : Array Slot), WP G z H → va_S (AW G) s.heap H locs → lv_has ls 3 [(0, .ref (G.2.2 p0)), (1, .ref (G.2.2 p1)), (2, .int v2)] → fn_X1_takeFrom_33   n p0 p1 v2 z = some Rz → W p l e (rmd 2) s m args below meth c H locs 0 0 (QV below args s G Rz) (F0 m 33 ls []) := by
  obtain ⟨hx, hb, hml, hown, hts, hr, hlocks, hK, hG⟩ := id C
  intro n
  induction n with
  | zero => intro p0 p1 v2 z hk0 hk1 H locs ls hP hS hl h; cases h
  | succ n ih =>
    intro p0 p1 v2 z hk0 hk1 H locs ls hP hS hl h
    rw [fn_X1_takeFrom_33] at h
    refine lv_iload_n hx hb dX1_takeFrom_33 rfl (lv_at hl 2 rfl) ?_
    refine lv_bipush (v := 6) hx hb dX1_takeFrom_34 (by decide) ?_
    refine lv_icmp_ge (tgt := 57) hx hb dX1_takeFrom_36 (by decide) (fun c1 => ?_) (fun c1 => ?_)
    · rw [if_pos c1] at h
      refine lv_aload_n hx hb dX1_takeFrom_57 rfl (lv_at hl 0 rfl) ?_
      refine lv_aload_n hx hb dX1_takeFrom_58 rfl (lv_at hl 1 rfl) ?_
      refine ge_1_2 hx hb hts (inU inW_X1) hown hK hP hk1 (hts _ (List.mem_cons_of_mem _ lw_423)) dX1_takeFrom_59 ?_
      obtain ⟨z2, e_z2, h⟩ := nm_s h
      refine pu_1_2 hx hb hts (inU inW_X1) hown hK hG hP hS hk0 (hts _ (List.mem_cons_of_mem _ lw_423)) dX1_takeFrom_62 (fun H locs hP hS => ?_)
      rw [← e_z2] at hP
      refine lv_aload_n hx hb dX1_takeFrom_65 rfl (lv_at hl 0 rfl) ?_
      refine lv_aload_n hx hb dX1_takeFrom_66 rfl (lv_at hl 1 rfl) ?_
      refine ge_1_3 hx hb hts (inU inW_X1) hown hK hP hk1 (hts _ (List.mem_cons_of_mem _ lw_426)) dX1_takeFrom_67 ?_
      obtain ⟨z3, e_z3, h⟩ := nm_s h
      refine pu_1_3 hx hb hts (inU inW_X1) hown hK hG hP hS hk0 (hts _ (List.mem_cons_of_mem _ lw_426)) dX1_takeFrom_70 (fun H locs hP hS => ?_)
      rw [← e_z3] at hP
      refine lv_aload_n hx hb dX1_takeFrom_73 rfl (lv_at hl 0 rfl) ?_
      refine lv_aload_n hx hb dX1_takeFrom_74 rfl (lv_at hl 1 rfl) ?_
      refine ge_1_4 hx hb hts (inU inW_X1) hown hK hP hk1 (hts _ (List.mem_cons_of_mem _ lw_430)) dX1_takeFrom_75 ?_
      obtain ⟨z4, e_z4, h⟩ := nm_s h
      refine pu_1_4 hx hb hts (inU inW_X1) hown hK hG hP hS hk0 (hts _ (List.mem_cons_of_mem _ lw_430)) dX1_takeFrom_78 (fun H locs hP hS => ?_)
      rw [← e_z4] at hP
      exact x_vret hx hb hr hlocks hK hP hS h dX1_takeFrom_81
    · rw [if_neg c1] at h
      refine lv_aload_n hx hb dX1_takeFrom_39 rfl (lv_at hl 0 rfl) ?_
      refine ge_1_1 hx hb hts (inU inW_X1) hown hK hP hk0 (hts _ (List.mem_cons_of_mem _ lw_417)) dX1_takeFrom_40 ?_
      refine lv_iload_n hx hb dX1_takeFrom_43 rfl (lv_at hl 2 rfl) ?_
      refine lv_aload_n hx hb dX1_takeFrom_44 rfl (lv_at hl 1 rfl) ?_
      refine ge_1_1 hx hb hts (inU inW_X1) hown hK hP hk1 (hts _ (List.mem_cons_of_mem _ lw_417)) dX1_takeFrom_45 ?_
      refine lv_iload_n hx hb dX1_takeFrom_48 rfl (lv_at hl 2 rfl) ?_
      obtain ⟨g5, h⟩ := gd_s h
      refine xl_14 hx hb hK hP (kf_1_1 hk1) (lf_1_1 hk1) (ix_in g5) dX1_takeFrom_49 ?_
      obtain ⟨g6, h⟩ := gd_s h
      obtain ⟨z7, e_z7, h⟩ := nm_s h
      refine xs_14 hx hb hK hG hP hS (kf_1_1 hk0) (lf_1_1 hk0) (ix_in g6) dX1_takeFrom_50 (fun H locs hP hS => ?_)
      rw [← e_z7] at hP
      refine lv_iinc (v := (v2 + 1)) (lv' := [(2, .int (v2 + 1)), (0, .ref (G.2.2 p0)), (1, .ref (G.2.2 p1))]) hx hb dX1_takeFrom_51 hl (k := 2) rfl rfl (by decide) rfl (fun ls hl => ?_)
      refine lv_goto (tgt := 33) hx hb dX1_takeFrom_54 (by decide) ?_
      exact ih p0 p1 (v2 + 1) z7 hk0 hk1 _ _ _ hP hS (lv_sub hl [1, 2, 0] rfl) h
def fn_X1_takeFrom_2 : Nat → Nat → Nat → Int32 → St → Option (St)
  | 0, _, _, _, _ => none
  | n + 1, p0, p1, v2, z => (if (z.1 p1 2) ≤ v2 then fn_X1_takeFrom_33   fu p0 p1 0 z else gd (ix v2 24) (gd (ix v2 24) (bv (fn_X9_takeFrom  ((p0 + 1) + 1 + (Int32.toNatClampNeg v2)) ((p1 + 1) + 1 + (Int32.toNatClampNeg v2)) z) (fun z5 => fn_X1_takeFrom_2   n p0 p1 (v2 + 1) z5))))
set_option maxHeartbeats 4000000 in
set_option maxRecDepth 100000 in
theorem pf_X1_takeFrom_2 {p : Program} {l : Launch} {e : Env} {s : State} {m : MethodId} {args : Array Value} {below : List Frame} {meth : Method} {c : Code} {G : wG} (C : CX p s m args meth c cX1_takeFrom 3 (wsU yX1_takeFrom cX1_takeFrom 3 none) RX1 none G) {Rz : St} : ∀ (n : Nat) (p0 : Nat) (p1 : Nat) (v2 : Int32) (z : St) (hk0 : kd p0 = 1) (hk1 : kd p1 = 1) (H : Heap) (locs : List Loc) (ls : Array Slot), WP G z H → va_S (AW G) s.heap H locs → lv_has ls 3 [(0, .ref (G.2.2 p0)), (1, .ref (G.2.2 p1)), (2, .int v2)] → fn_X1_takeFrom_2   n p0 p1 v2 z = some Rz → W p l e (rmd 2) s m args below meth c H locs 0 0 (QV below args s G Rz) (F0 m 2 ls []) := by
  obtain ⟨hx, hb, hml, hown, hts, hr, hlocks, hK, hG⟩ := id C
  intro n
  induction n with
  | zero => intro p0 p1 v2 z hk0 hk1 H locs ls hP hS hl h; cases h
  | succ n ih =>
    intro p0 p1 v2 z hk0 hk1 H locs ls hP hS hl h
    rw [fn_X1_takeFrom_2] at h
    refine lv_iload_n hx hb dX1_takeFrom_2 rfl (lv_at hl 2 rfl) ?_
    refine lv_aload_n hx hb dX1_takeFrom_3 rfl (lv_at hl 1 rfl) ?_
    refine ge_1_2 hx hb hts (inU inW_X1) hown hK hP hk1 (hts _ (List.mem_cons_of_mem _ lw_423)) dX1_takeFrom_4 ?_
    refine lv_icmp_ge (tgt := 31) hx hb dX1_takeFrom_7 (by decide) (fun c1 => ?_) (fun c1 => ?_)
    · rw [if_pos c1] at h
      refine lv_iconst (v := 0) hx hb dX1_takeFrom_31 (by decide) ?_
      refine lv_istore_n (lv' := [(2, .int 0), (0, .ref (G.2.2 p0)), (1, .ref (G.2.2 p1))]) hx hb dX1_takeFrom_32 rfl hl (by decide) rfl (fun ls hl => ?_)
      exact pf_X1_takeFrom_33 C   fu p0 p1 0 z hk0 hk1 _ _ _ hP hS (lv_sub hl [1, 2, 0] rfl) h
    · rw [if_neg c1] at h
      refine lv_aload_n hx hb dX1_takeFrom_10 rfl (lv_at hl 0 rfl) ?_
      refine ge_1_0 hx hb hts (inU inW_X1) hown hK hP hk0 (hts _ (List.mem_cons_of_mem _ lw_412)) dX1_takeFrom_11 ?_
      refine lv_iload_n hx hb dX1_takeFrom_14 rfl (lv_at hl 2 rfl) ?_
      obtain ⟨g2, h⟩ := gd_s h
      refine xl_18 hx hb hK hP (kf_1_0 hk0) (lf_1_0 hk0) (ix_in g2) dX1_takeFrom_15 ?_
      refine lv_aload_n hx hb dX1_takeFrom_16 rfl (lv_at hl 1 rfl) ?_
      refine ge_1_0 hx hb hts (inU inW_X1) hown hK hP hk1 (hts _ (List.mem_cons_of_mem _ lw_412)) dX1_takeFrom_17 ?_
      refine lv_iload_n hx hb dX1_takeFrom_20 rfl (lv_at hl 2 rfl) ?_
      obtain ⟨g3, h⟩ := gd_s h
      refine xl_18 hx hb hK hP (kf_1_0 hk1) (lf_1_0 hk1) (ix_in g3) dX1_takeFrom_21 ?_
      obtain ⟨z5, h4, h⟩ := bv_s h
      refine x_Vv (Rz := z5) (As := [.ref (G.2.2 ((p1 + 1) + 1 + (Int32.toNatClampNeg v2)))]) (rest := []) ⟨hx, hb, hml, hown, hts⟩ hK hP hS (kd_lt (ke_18 (kf_1_0 hk0) (ix_lt g2)) (by decide)) (cell_9 (ke_18 (kf_1_0 hk0) (ix_lt g2))) rfl (m_X9_takeFrom hG  (ke_18 (kf_1_0 hk0) (ix_lt g2)) (ke_18 (kf_1_0 hk1) (ix_lt g3)) h4) (cwV 1 hts (gV lw_1052 lw_1053 lw_1054 lw_118 lw_1055) rfl rfl rfl (by decide +kernel) (rmd_ok (by decide) (by decide))) rfl hl.1 rfl (Nat.le_of_ble_eq_true rfl) dX1_takeFrom_22 ⟨Nat.le_refl _, Nat.le_refl _⟩ (fun H locs hP hS => ?_)
      refine lv_iinc (v := (v2 + 1)) (lv' := [(2, .int (v2 + 1)), (0, .ref (G.2.2 p0)), (1, .ref (G.2.2 p1))]) hx hb dX1_takeFrom_25 hl (k := 2) rfl rfl (by decide) rfl (fun ls hl => ?_)
      refine lv_goto (tgt := 2) hx hb dX1_takeFrom_28 (by decide) ?_
      exact ih p0 p1 (v2 + 1) z5 hk0 hk1 _ _ _ hP hS (lv_sub hl [1, 2, 0] rfl) h
def fn_X1_takeFrom (p0 : Nat) (p1 : Nat) (z : St) : Option (St) := fn_X1_takeFrom_2   fu p0 p1 0 z
set_option maxHeartbeats 4000000 in
set_option maxRecDepth 100000 in
theorem m_X1_takeFrom {l : Launch} {G : wG} (hG : Ok G) {p0 : Nat} {p1 : Nat} {z : St} {Rz : St} (hk0 : kd p0 = 1) (hk1 : kd p1 = 1) (h : fn_X1_takeFrom  p0 p1 z = some Rz) : Met l yX1_takeFrom (wsU yX1_takeFrom cX1_takeFrom 3 none) (rmd 2) (va_Pc [.ref (G.2.2 p0), .ref (G.2.2 p1)] (Pre G z)) (va_Qv (fun u => u = Rz) (Pre G) (AW G)) 0 0 (AW G) := by
  refine Met.ofW (cc := cX1_takeFrom) (maxL := 3) (ret := none) (by decide) rfl ?_
  intro p e s m args below meth c s₁ B hml hv
  obtain ⟨rfl, hP, hK⟩ := hv
  have C : CX p s m ([.ref (G.2.2 p0), .ref (G.2.2 p1)] : List Value).toArray meth c cX1_takeFrom 3 (wsU yX1_takeFrom cX1_takeFrom 3 none) RX1 none G := ⟨B.exec, B.bytes, hml, findClass_of_methodNamed B.named, atoms_spec (ws := (wsU yX1_takeFrom cX1_takeFrom 3 none)) B.pre, B.returns, B.notSynchronized, hK, hG⟩
  obtain ⟨hx, hb, -, hown, hts, hr, hlocks, -, -⟩ := id C
  have hS : va_S (AW G) s.heap s.heap [] := va_S.rf
  have hl := lv_entry [.ref (G.2.2 p0), .ref (G.2.2 p1)] (n := 3) (Nat.le_of_ble_eq_true rfl)
  rw [lg_entry_eq]
  generalize (lg_sl [.ref (G.2.2 p0), .ref (G.2.2 p1)] ++ List.replicate (3 - (lg_sl [.ref (G.2.2 p0), .ref (G.2.2 p1)]).length) Slot.unset).toArray = ls at hl ⊢
  have hl : lv_has ls 3 [(0, .ref (G.2.2 p0)), (1, .ref (G.2.2 p1))] := hl
  unfold fn_X1_takeFrom at h
  refine lv_iconst (v := 0) hx hb dX1_takeFrom_0 (by decide) ?_
  refine lv_istore_n (lv' := [(2, .int 0), (0, .ref (G.2.2 p0)), (1, .ref (G.2.2 p1))]) hx hb dX1_takeFrom_1 rfl hl (by decide) rfl (fun ls hl => ?_)
  exact pf_X1_takeFrom_2 C   fu p0 p1 0 z hk0 hk1 _ _ _ hP hS (lv_sub hl [1, 2, 0] rfl) h
def fn_X1_isPiece (p0 : Nat) (v1 : Int32) (z : St) : Option (Int32 × St) := (if v1 < 0 then some (0, z) else (if (z.1 p0 2) ≤ v1 then some (0, z) else some (1, z)))
set_option maxHeartbeats 4000000 in
set_option maxRecDepth 100000 in
theorem m_X1_isPiece {l : Launch} {G : wG} (hG : Ok G) {p0 : Nat} {v1 : Int32} {z : St} {Rz : Int32 × St} (hk0 : kd p0 = 1) (h : fn_X1_isPiece  p0 v1 z = some Rz) : Met l yX1_isPiece (wsU yX1_isPiece cX1_isPiece 2 (some .boolean)) (rmd 1) (va_Pc [.ref (G.2.2 p0), .int v1] (Pre G z)) (va_Qi (fun r u => (r, u) = Rz) (Pre G) (AW G)) 0 0 (AW G) := by
  refine Met.ofW (cc := cX1_isPiece) (maxL := 2) (ret := (some .boolean)) (by decide) rfl ?_
  intro p e s m args below meth c s₁ B hml hv
  obtain ⟨rfl, hP, hK⟩ := hv
  have C : CX p s m ([.ref (G.2.2 p0), .int v1] : List Value).toArray meth c cX1_isPiece 2 (wsU yX1_isPiece cX1_isPiece 2 (some .boolean)) RX1 (some .boolean) G := ⟨B.exec, B.bytes, hml, findClass_of_methodNamed B.named, atoms_spec (ws := (wsU yX1_isPiece cX1_isPiece 2 (some .boolean))) B.pre, B.returns, B.notSynchronized, hK, hG⟩
  obtain ⟨hx, hb, -, hown, hts, hr, hlocks, -, -⟩ := id C
  have hS : va_S (AW G) s.heap s.heap [] := va_S.rf
  have hl := lv_entry [.ref (G.2.2 p0), .int v1] (n := 2) (Nat.le_of_ble_eq_true rfl)
  rw [lg_entry_eq]
  generalize (lg_sl [.ref (G.2.2 p0), .int v1] ++ List.replicate (2 - (lg_sl [.ref (G.2.2 p0), .int v1]).length) Slot.unset).toArray = ls at hl ⊢
  have hl : lv_has ls 2 [(0, .ref (G.2.2 p0)), (1, .int v1)] := hl
  unfold fn_X1_isPiece at h
  refine lv_iload_n hx hb dX1_isPiece_0 rfl (lv_at hl 1 rfl) ?_
  refine lv_if_lt (tgt := 16) hx hb dX1_isPiece_1 (by decide) (fun c1 => ?_) (fun c1 => ?_)
  · rw [if_pos c1] at h
    refine lv_iconst (v := 0) hx hb dX1_isPiece_16 (by decide) ?_
    exact x_zret hx hb hr hlocks hK hP hS rfl h dX1_isPiece_17
  · rw [if_neg c1] at h
    refine lv_iload_n hx hb dX1_isPiece_4 rfl (lv_at hl 1 rfl) ?_
    refine lv_aload_n hx hb dX1_isPiece_5 rfl (lv_at hl 0 rfl) ?_
    refine ge_1_2 hx hb hts (inU inW_X1) hown hK hP hk0 (hts _ (List.mem_cons_of_mem _ lw_423)) dX1_isPiece_6 ?_
    refine lv_icmp_ge (tgt := 16) hx hb dX1_isPiece_9 (by decide) (fun c2 => ?_) (fun c2 => ?_)
    · rw [if_pos c2] at h
      refine lv_iconst (v := 0) hx hb dX1_isPiece_16 (by decide) ?_
      exact x_zret hx hb hr hlocks hK hP hS rfl h dX1_isPiece_17
    · rw [if_neg c2] at h
      refine lv_iconst (v := 1) hx hb dX1_isPiece_12 (by decide) ?_
      refine lv_goto (tgt := 17) hx hb dX1_isPiece_13 (by decide) ?_
      exact x_zret hx hb hr hlocks hK hP hS rfl h dX1_isPiece_17
def fn_X1_isFree (p0 : Nat) (v1 : Int32) (z : St) : Option (Int32 × St) := bd (fn_X1_isPiece  p0 v1 z) (fun r2 z3 => (if r2 = 0 then some (0, z3) else gd (ix v1 24) ((if (z3.1 ((p0 + 1) + 1 + (Int32.toNatClampNeg v1)) 6) = (-1) then some (1, z3) else some (0, z3)))))
set_option maxHeartbeats 4000000 in
set_option maxRecDepth 100000 in
theorem m_X1_isFree {l : Launch} {G : wG} (hG : Ok G) {p0 : Nat} {v1 : Int32} {z : St} {Rz : Int32 × St} (hk0 : kd p0 = 1) (h : fn_X1_isFree  p0 v1 z = some Rz) : Met l yX1_isFree (wsU yX1_isFree cX1_isFree 2 (some .boolean)) (rmd 2) (va_Pc [.ref (G.2.2 p0), .int v1] (Pre G z)) (va_Qi (fun r u => (r, u) = Rz) (Pre G) (AW G)) 0 0 (AW G) := by
  refine Met.ofW (cc := cX1_isFree) (maxL := 2) (ret := (some .boolean)) (by decide) rfl ?_
  intro p e s m args below meth c s₁ B hml hv
  obtain ⟨rfl, hP, hK⟩ := hv
  have C : CX p s m ([.ref (G.2.2 p0), .int v1] : List Value).toArray meth c cX1_isFree 2 (wsU yX1_isFree cX1_isFree 2 (some .boolean)) RX1 (some .boolean) G := ⟨B.exec, B.bytes, hml, findClass_of_methodNamed B.named, atoms_spec (ws := (wsU yX1_isFree cX1_isFree 2 (some .boolean))) B.pre, B.returns, B.notSynchronized, hK, hG⟩
  obtain ⟨hx, hb, -, hown, hts, hr, hlocks, -, -⟩ := id C
  have hS : va_S (AW G) s.heap s.heap [] := va_S.rf
  have hl := lv_entry [.ref (G.2.2 p0), .int v1] (n := 2) (Nat.le_of_ble_eq_true rfl)
  rw [lg_entry_eq]
  generalize (lg_sl [.ref (G.2.2 p0), .int v1] ++ List.replicate (2 - (lg_sl [.ref (G.2.2 p0), .int v1]).length) Slot.unset).toArray = ls at hl ⊢
  have hl : lv_has ls 2 [(0, .ref (G.2.2 p0)), (1, .int v1)] := hl
  unfold fn_X1_isFree at h
  refine lv_aload_n hx hb dX1_isFree_0 rfl (lv_at hl 0 rfl) ?_
  refine lv_iload_n hx hb dX1_isFree_1 rfl (lv_at hl 1 rfl) ?_
  obtain ⟨r2, z3, h1, h⟩ := bd_s h
  refine x_Vi (Rz := (r2, z3)) (As := [.int v1]) (rest := []) ⟨hx, hb, hml, hown, hts⟩ hK hP hS (kd_lt hk0 (by decide)) (cell_1 hk0) rfl (m_X1_isPiece hG  hk0 h1) (cwV 1 hts (gV lw_1013 lw_943 lw_944 lw_117 lw_945) rfl rfl rfl (by decide +kernel) (rmd_ok (by decide) (by decide))) rfl hl.1 rfl (Nat.le_of_ble_eq_true rfl) dX1_isFree_2 ⟨Nat.le_refl _, Nat.le_refl _⟩ (fun H locs hP hS => ?_)
  refine lv_if_eq (tgt := 25) hx hb dX1_isFree_5 (by decide) (fun c4 => ?_) (fun c4 => ?_)
  · rw [if_pos c4] at h
    refine lv_iconst (v := 0) hx hb dX1_isFree_25 (by decide) ?_
    exact x_zret hx hb hr hlocks hK hP hS rfl h dX1_isFree_26
  · rw [if_neg c4] at h
    refine lv_aload_n hx hb dX1_isFree_8 rfl (lv_at hl 0 rfl) ?_
    refine ge_1_0 hx hb hts (inU inW_X1) hown hK hP hk0 (hts _ (List.mem_cons_of_mem _ lw_412)) dX1_isFree_9 ?_
    refine lv_iload_n hx hb dX1_isFree_12 rfl (lv_at hl 1 rfl) ?_
    obtain ⟨g5, h⟩ := gd_s h
    refine xl_18 hx hb hK hP (kf_1_0 hk0) (lf_1_0 hk0) (ix_in g5) dX1_isFree_13 ?_
    refine ge_9_6 hx hb hts (inU inW_X9) hown hK hP (ke_18 (kf_1_0 hk0) (ix_lt g5)) (hts _ (List.mem_cons_of_mem _ lw_395)) dX1_isFree_14 ?_
    refine lv_iconst (v := (-1)) hx hb dX1_isFree_17 (by decide) ?_
    refine lv_icmp_ne (tgt := 25) hx hb dX1_isFree_18 (by decide) (fun c6 => ?_) (fun c6 => ?_)
    · rw [if_neg c6] at h
      refine lv_iconst (v := 0) hx hb dX1_isFree_25 (by decide) ?_
      exact x_zret hx hb hr hlocks hK hP hS rfl h dX1_isFree_26
    · rw [if_pos c6] at h
      refine lv_iconst (v := 1) hx hb dX1_isFree_21 (by decide) ?_
      refine lv_goto (tgt := 26) hx hb dX1_isFree_22 (by decide) ?_
      exact x_zret hx hb hr hlocks hK hP hS rfl h dX1_isFree_26
def fn_X1_isCuttable (p0 : Nat) (v1 : Int32) (z : St) : Option (Int32 × St) := bd (fn_X1_isFree  p0 v1 z) (fun r2 z3 => (if r2 = 0 then some (0, z3) else (if 24 ≤ (z3.1 p0 2) then some (0, z3) else some (1, z3))))
set_option maxHeartbeats 4000000 in
set_option maxRecDepth 100000 in
theorem m_X1_isCuttable {l : Launch} {G : wG} (hG : Ok G) {p0 : Nat} {v1 : Int32} {z : St} {Rz : Int32 × St} (hk0 : kd p0 = 1) (h : fn_X1_isCuttable  p0 v1 z = some Rz) : Met l yX1_isCuttable (wsU yX1_isCuttable cX1_isCuttable 2 (some .boolean)) (rmd 3) (va_Pc [.ref (G.2.2 p0), .int v1] (Pre G z)) (va_Qi (fun r u => (r, u) = Rz) (Pre G) (AW G)) 0 0 (AW G) := by
  refine Met.ofW (cc := cX1_isCuttable) (maxL := 2) (ret := (some .boolean)) (by decide) rfl ?_
  intro p e s m args below meth c s₁ B hml hv
  obtain ⟨rfl, hP, hK⟩ := hv
  have C : CX p s m ([.ref (G.2.2 p0), .int v1] : List Value).toArray meth c cX1_isCuttable 2 (wsU yX1_isCuttable cX1_isCuttable 2 (some .boolean)) RX1 (some .boolean) G := ⟨B.exec, B.bytes, hml, findClass_of_methodNamed B.named, atoms_spec (ws := (wsU yX1_isCuttable cX1_isCuttable 2 (some .boolean))) B.pre, B.returns, B.notSynchronized, hK, hG⟩
  obtain ⟨hx, hb, -, hown, hts, hr, hlocks, -, -⟩ := id C
  have hS : va_S (AW G) s.heap s.heap [] := va_S.rf
  have hl := lv_entry [.ref (G.2.2 p0), .int v1] (n := 2) (Nat.le_of_ble_eq_true rfl)
  rw [lg_entry_eq]
  generalize (lg_sl [.ref (G.2.2 p0), .int v1] ++ List.replicate (2 - (lg_sl [.ref (G.2.2 p0), .int v1]).length) Slot.unset).toArray = ls at hl ⊢
  have hl : lv_has ls 2 [(0, .ref (G.2.2 p0)), (1, .int v1)] := hl
  unfold fn_X1_isCuttable at h
  refine lv_aload_n hx hb dX1_isCuttable_0 rfl (lv_at hl 0 rfl) ?_
  refine lv_iload_n hx hb dX1_isCuttable_1 rfl (lv_at hl 1 rfl) ?_
  obtain ⟨r2, z3, h1, h⟩ := bd_s h
  refine x_Vi (Rz := (r2, z3)) (As := [.int v1]) (rest := []) ⟨hx, hb, hml, hown, hts⟩ hK hP hS (kd_lt hk0 (by decide)) (cell_1 hk0) rfl (m_X1_isFree hG  hk0 h1) (cwV 1 hts (gV lw_1009 lw_1010 lw_1011 lw_117 lw_1012) rfl rfl rfl (by decide +kernel) (rmd_ok (by decide) (by decide))) rfl hl.1 rfl (Nat.le_of_ble_eq_true rfl) dX1_isCuttable_2 ⟨Nat.le_refl _, Nat.le_refl _⟩ (fun H locs hP hS => ?_)
  refine lv_if_eq (tgt := 21) hx hb dX1_isCuttable_5 (by decide) (fun c4 => ?_) (fun c4 => ?_)
  · rw [if_pos c4] at h
    refine lv_iconst (v := 0) hx hb dX1_isCuttable_21 (by decide) ?_
    exact x_zret hx hb hr hlocks hK hP hS rfl h dX1_isCuttable_22
  · rw [if_neg c4] at h
    refine lv_aload_n hx hb dX1_isCuttable_8 rfl (lv_at hl 0 rfl) ?_
    refine ge_1_2 hx hb hts (inU inW_X1) hown hK hP hk0 (hts _ (List.mem_cons_of_mem _ lw_423)) dX1_isCuttable_9 ?_
    refine lv_bipush (v := 24) hx hb dX1_isCuttable_12 (by decide) ?_
    refine lv_icmp_ge (tgt := 21) hx hb dX1_isCuttable_14 (by decide) (fun c5 => ?_) (fun c5 => ?_)
    · rw [if_pos c5] at h
      refine lv_iconst (v := 0) hx hb dX1_isCuttable_21 (by decide) ?_
      exact x_zret hx hb hr hlocks hK hP hS rfl h dX1_isCuttable_22
    · rw [if_neg c5] at h
      refine lv_iconst (v := 1) hx hb dX1_isCuttable_17 (by decide) ?_
      refine lv_goto (tgt := 22) hx hb dX1_isCuttable_18 (by decide) ?_
      exact x_zret hx hb hr hlocks hK hP hS rfl h dX1_isCuttable_22
def fn_X1_canSplit_17 (p0 : Nat) (v1 : Int32) (v2 : Int32) (v3 : Int32) (z : St) : Option (Int32 × St) := (if v3 < 1 then some (0, z) else gd (ix v1 24) (bd (fn_X9_extent  ((p0 + 1) + 1 + (Int32.toNatClampNeg v1)) v2 z) (fun r4 z5 => (if r4 ≤ v3 then some (0, z5) else some (1, z5)))))
set_option maxHeartbeats 4000000 in
set_option maxRecDepth 100000 in
theorem pf_X1_canSplit_17 {p : Program} {l : Launch} {e : Env} {s : State} {m : MethodId} {args : Array Value} {below : List Frame} {meth : Method} {c : Code} {G : wG} (C : CX p s m args meth c cX1_canSplit 4 (wsU yX1_canSplit cX1_canSplit 4 (some .boolean)) RX1 (some .boolean) G) {Rz : Int32 × St} (p0 : Nat) (v1 : Int32) (v2 : Int32) (v3 : Int32) (z : St) (hk0 : kd p0 = 1) {H : Heap} {locs : List Loc} {ls : Array Slot} (hP : WP G z H) (hS : va_S (AW G) s.heap H locs) (hl : lv_has ls 4 [(0, .ref (G.2.2 p0)), (1, .int v1), (2, .int v2), (3, .int v3)]) (h : fn_X1_canSplit_17   p0 v1 v2 v3 z = some Rz) : W p l e (rmd 4) s m args below meth c H locs 0 0 (QI below args s G Rz) (F0 m 17 ls []) := by
  obtain ⟨hx, hb, hml, hown, hts, hr, hlocks, hK, hG⟩ := id C
  unfold fn_X1_canSplit_17 at h
  refine lv_iload_n hx hb dX1_canSplit_17 rfl (lv_at hl 3 rfl) ?_
  refine lv_iconst (v := 1) hx hb dX1_canSplit_18 (by decide) ?_
  refine lv_icmp_lt (tgt := 40) hx hb dX1_canSplit_19 (by decide) (fun c1 => ?_) (fun c1 => ?_)
  · rw [if_pos c1] at h
    refine lv_iconst (v := 0) hx hb dX1_canSplit_40 (by decide) ?_
    exact x_zret hx hb hr hlocks hK hP hS rfl h dX1_canSplit_41
  · rw [if_neg c1] at h
    refine lv_iload_n hx hb dX1_canSplit_22 rfl (lv_at hl 3 rfl) ?_
    refine lv_aload_n hx hb dX1_canSplit_23 rfl (lv_at hl 0 rfl) ?_
    refine ge_1_0 hx hb hts (inU inW_X1) hown hK hP hk0 (hts _ (List.mem_cons_of_mem _ lw_412)) dX1_canSplit_24 ?_
    refine lv_iload_n hx hb dX1_canSplit_27 rfl (lv_at hl 1 rfl) ?_
    obtain ⟨g2, h⟩ := gd_s h
    refine xl_18 hx hb hK hP (kf_1_0 hk0) (lf_1_0 hk0) (ix_in g2) dX1_canSplit_28 ?_
    refine lv_iload_n hx hb dX1_canSplit_29 rfl (lv_at hl 2 rfl) ?_
    obtain ⟨r4, z5, h3, h⟩ := bd_s h
    refine x_Vi (Rz := (r4, z5)) (As := [.int v2]) (rest := [.int v3]) ⟨hx, hb, hml, hown, hts⟩ hK hP hS (kd_lt (ke_18 (kf_1_0 hk0) (ix_lt g2)) (by decide)) (cell_9 (ke_18 (kf_1_0 hk0) (ix_lt g2))) rfl (m_X9_extent hG  (ke_18 (kf_1_0 hk0) (ix_lt g2)) h3) (cwV 1 hts (gV lw_1014 lw_1015 lw_1016 lw_118 lw_1017) rfl rfl rfl (by decide +kernel) (rmd_ok (by decide) (by decide))) rfl hl.1 rfl (Nat.le_of_ble_eq_true rfl) dX1_canSplit_30 ⟨Nat.le_refl _, Nat.le_refl _⟩ (fun H locs hP hS => ?_)
    refine lv_icmp_ge (tgt := 40) hx hb dX1_canSplit_33 (by decide) (fun c6 => ?_) (fun c6 => ?_)
    · rw [if_pos c6] at h
      refine lv_iconst (v := 0) hx hb dX1_canSplit_40 (by decide) ?_
      exact x_zret hx hb hr hlocks hK hP hS rfl h dX1_canSplit_41
    · rw [if_neg c6] at h
      refine lv_iconst (v := 1) hx hb dX1_canSplit_36 (by decide) ?_
      refine lv_goto (tgt := 41) hx hb dX1_canSplit_37 (by decide) ?_
      exact x_zret hx hb hr hlocks hK hP hS rfl h dX1_canSplit_41
def fn_X1_canSplit (p0 : Nat) (v1 : Int32) (v2 : Int32) (v3 : Int32) (z : St) : Option (Int32 × St) := bd (fn_X1_isCuttable  p0 v1 z) (fun r2 z3 => (if r2 = 0 then some (0, z3) else (if v2 = 0 then fn_X1_canSplit_17   p0 v1 v2 v3 z3 else (if v2 = 1 then fn_X1_canSplit_17   p0 v1 v2 v3 z3 else some (0, z3)))))
set_option maxHeartbeats 4000000 in
set_option maxRecDepth 100000 in
theorem m_X1_canSplit {l : Launch} {G : wG} (hG : Ok G) {p0 : Nat} {v1 : Int32} {v2 : Int32} {v3 : Int32} {z : St} {Rz : Int32 × St} (hk0 : kd p0 = 1) (h : fn_X1_canSplit  p0 v1 v2 v3 z = some Rz) : Met l yX1_canSplit (wsU yX1_canSplit cX1_canSplit 4 (some .boolean)) (rmd 4) (va_Pc [.ref (G.2.2 p0), .int v1, .int v2, .int v3] (Pre G z)) (va_Qi (fun r u => (r, u) = Rz) (Pre G) (AW G)) 0 0 (AW G) := by
  refine Met.ofW (cc := cX1_canSplit) (maxL := 4) (ret := (some .boolean)) (by decide) rfl ?_
  intro p e s m args below meth c s₁ B hml hv
  obtain ⟨rfl, hP, hK⟩ := hv
  have C : CX p s m ([.ref (G.2.2 p0), .int v1, .int v2, .int v3] : List Value).toArray meth c cX1_canSplit 4 (wsU yX1_canSplit cX1_canSplit 4 (some .boolean)) RX1 (some .boolean) G := ⟨B.exec, B.bytes, hml, findClass_of_methodNamed B.named, atoms_spec (ws := (wsU yX1_canSplit cX1_canSplit 4 (some .boolean))) B.pre, B.returns, B.notSynchronized, hK, hG⟩
  obtain ⟨hx, hb, -, hown, hts, hr, hlocks, -, -⟩ := id C
  have hS : va_S (AW G) s.heap s.heap [] := va_S.rf
  have hl := lv_entry [.ref (G.2.2 p0), .int v1, .int v2, .int v3] (n := 4) (Nat.le_of_ble_eq_true rfl)
  rw [lg_entry_eq]
  generalize (lg_sl [.ref (G.2.2 p0), .int v1, .int v2, .int v3] ++ List.replicate (4 - (lg_sl [.ref (G.2.2 p0), .int v1, .int v2, .int v3]).length) Slot.unset).toArray = ls at hl ⊢
  have hl : lv_has ls 4 [(0, .ref (G.2.2 p0)), (1, .int v1), (2, .int v2), (3, .int v3)] := hl
  unfold fn_X1_canSplit at h
  refine lv_aload_n hx hb dX1_canSplit_0 rfl (lv_at hl 0 rfl) ?_
  refine lv_iload_n hx hb dX1_canSplit_1 rfl (lv_at hl 1 rfl) ?_
  obtain ⟨r2, z3, h1, h⟩ := bd_s h
  refine x_Vi (Rz := (r2, z3)) (As := [.int v1]) (rest := []) ⟨hx, hb, hml, hown, hts⟩ hK hP hS (kd_lt hk0 (by decide)) (cell_1 hk0) rfl (m_X1_isCuttable hG  hk0 h1) (cwV 1 hts (gV lw_1005 lw_1006 lw_1007 lw_117 lw_1008) rfl rfl rfl (by decide +kernel) (rmd_ok (by decide) (by decide))) rfl hl.1 rfl (Nat.le_of_ble_eq_true rfl) dX1_canSplit_2 ⟨Nat.le_refl _, Nat.le_refl _⟩ (fun H locs hP hS => ?_)
  refine lv_if_eq (tgt := 40) hx hb dX1_canSplit_5 (by decide) (fun c4 => ?_) (fun c4 => ?_)
  · rw [if_pos c4] at h
    refine lv_iconst (v := 0) hx hb dX1_canSplit_40 (by decide) ?_
    exact x_zret hx hb hr hlocks hK hP hS rfl h dX1_canSplit_41
  · rw [if_neg c4] at h
    refine lv_iload_n hx hb dX1_canSplit_8 rfl (lv_at hl 2 rfl) ?_
    refine lv_if_eq (tgt := 17) hx hb dX1_canSplit_9 (by decide) (fun c5 => ?_) (fun c5 => ?_)
    · rw [if_pos c5] at h
      exact pf_X1_canSplit_17 C   p0 v1 v2 v3 z3 hk0 hP hS (lv_sub hl [0, 1, 2, 3] rfl) h
    · rw [if_neg c5] at h
      refine lv_iload_n hx hb dX1_canSplit_12 rfl (lv_at hl 2 rfl) ?_
      refine lv_iconst (v := 1) hx hb dX1_canSplit_13 (by decide) ?_
      refine lv_icmp_ne (tgt := 40) hx hb dX1_canSplit_14 (by decide) (fun c6 => ?_) (fun c6 => ?_)
      · rw [if_neg c6] at h
        refine lv_iconst (v := 0) hx hb dX1_canSplit_40 (by decide) ?_
        exact x_zret hx hb hr hlocks hK hP hS rfl h dX1_canSplit_41
      · rw [if_pos c6] at h
        exact pf_X1_canSplit_17 C   p0 v1 v2 v3 z3 hk0 hP hS (lv_sub hl [0, 1, 2, 3] rfl) h
def fn_X1_split_98 (p0 : Nat) (v5 : Int32) (z : St) : Option (St) := nm (sI z p0 3 ((z.1 p0 3) + v5)) (fun z1 => some z1)
set_option maxHeartbeats 4000000 in
set_option maxRecDepth 100000 in
theorem pf_X1_split_98 {p : Program} {l : Launch} {e : Env} {s : State} {m : MethodId} {args : Array Value} {below : List Frame} {meth : Method} {c : Code} {G : wG} (C : CX p s m args meth c cX1_split 8 (wsU yX1_split cX1_split 8 none) RX1 none G) {Rz : St} (p0 : Nat) (v5 : Int32) (z : St) (hk0 : kd p0 = 1) {H : Heap} {locs : List Loc} {ls : Array Slot} (hP : WP G z H) (hS : va_S (AW G) s.heap H locs) (hl : lv_has ls 8 [(0, .ref (G.2.2 p0)), (5, .int v5)]) (h : fn_X1_split_98   p0 v5 z = some Rz) : W p l e (rmd 5) s m args below meth c H locs 0 0 (QV below args s G Rz) (F0 m 98 ls []) := by
  obtain ⟨hx, hb, hml, hown, hts, hr, hlocks, hK, hG⟩ := id C
  unfold fn_X1_split_98 at h
  refine lv_aload_n hx hb dX1_split_98 rfl (lv_at hl 0 rfl) ?_
  refine lv_dup hx hb dX1_split_99 rfl ?_
  refine ge_1_3 hx hb hts (inU inW_X1) hown hK hP hk0 (hts _ (List.mem_cons_of_mem _ lw_426)) dX1_split_100 ?_
  refine lv_iload hx hb dX1_split_103 (lv_at hl 1 rfl) ?_
  refine lv_iadd hx hb dX1_split_105 ?_
  obtain ⟨z1, e_z1, h⟩ := nm_s h
  refine pu_1_3 hx hb hts (inU inW_X1) hown hK hG hP hS hk0 (hts _ (List.mem_cons_of_mem _ lw_426)) dX1_split_106 (fun H locs hP hS => ?_)
  rw [← e_z1] at hP
  exact x_vret hx hb hr hlocks hK hP hS h dX1_split_109
def fn_X1_split (p0 : Nat) (v1 : Int32) (v2 : Int32) (v3 : Int32) (v4 : Int32) (v5 : Int32) (z : St) : Option (St) := bd (fn_X1_canSplit  p0 v1 v2 v3 z) (fun r2 z3 => (if r2 = 0 then some z3 else gd (ix v1 24) (gd (ix (z3.1 p0 2) 24) (bv (fn_X9_takeFrom  ((p0 + 1) + 1 + (Int32.toNatClampNeg (z3.1 p0 2))) ((p0 + 1) + 1 + (Int32.toNatClampNeg v1)) z3) (fun z8 => bv (fn_X9_keepBehind  ((p0 + 1) + 1 + (Int32.toNatClampNeg (z3.1 p0 2))) v2 v3 z8) (fun z10 => bv (fn_X9_keepAhead  ((p0 + 1) + 1 + (Int32.toNatClampNeg v1)) v2 v3 z10) (fun z12 => nm (sI z12 p0 2 ((z12.1 p0 2) + 1)) (fun z13 => nm (sI z13 p0 4 ((((z13.1 p0 4) * 137) + 71) - (((z13.1 p0 4) * 137) + 71) / 1000 * 1000)) (fun z14 => (if v4 ≤ ((z14.1 p0 4) - (z14.1 p0 4) / 100 * 100) then fn_X1_split_98   p0 v5 z14 else nm (sI z14 ((p0 + 1) + 1 + (Int32.toNatClampNeg (z3.1 p0 2))) 5 1) (fun z16 => fn_X1_split_98   p0 v5 z16)))))))))))
set_option maxHeartbeats 4000000 in
set_option maxRecDepth 100000 in
theorem m_X1_split {l : Launch} {G : wG} (hG : Ok G) {p0 : Nat} {v1 : Int32} {v2 : Int32} {v3 : Int32} {v4 : Int32} {v5 : Int32} {z : St} {Rz : St} (hk0 : kd p0 = 1) (h : fn_X1_split  p0 v1 v2 v3 v4 v5 z = some Rz) : Met l yX1_split (wsU yX1_split cX1_split 8 none) (rmd 5) (va_Pc [.ref (G.2.2 p0), .int v1, .int v2, .int v3, .int v4, .int v5] (Pre G z)) (va_Qv (fun u => u = Rz) (Pre G) (AW G)) 0 0 (AW G) := by
  refine Met.ofW (cc := cX1_split) (maxL := 8) (ret := none) (by decide) rfl ?_
  intro p e s m args below meth c s₁ B hml hv
  obtain ⟨rfl, hP, hK⟩ := hv
  have C : CX p s m ([.ref (G.2.2 p0), .int v1, .int v2, .int v3, .int v4, .int v5] : List Value).toArray meth c cX1_split 8 (wsU yX1_split cX1_split 8 none) RX1 none G := ⟨B.exec, B.bytes, hml, findClass_of_methodNamed B.named, atoms_spec (ws := (wsU yX1_split cX1_split 8 none)) B.pre, B.returns, B.notSynchronized, hK, hG⟩
  obtain ⟨hx, hb, -, hown, hts, hr, hlocks, -, -⟩ := id C
  have hS : va_S (AW G) s.heap s.heap [] := va_S.rf
  have hl := lv_entry [.ref (G.2.2 p0), .int v1, .int v2, .int v3, .int v4, .int v5] (n := 8) (Nat.le_of_ble_eq_true rfl)
  rw [lg_entry_eq]
  generalize (lg_sl [.ref (G.2.2 p0), .int v1, .int v2, .int v3, .int v4, .int v5] ++ List.replicate (8 - (lg_sl [.ref (G.2.2 p0), .int v1, .int v2, .int v3, .int v4, .int v5]).length) Slot.unset).toArray = ls at hl ⊢
  have hl : lv_has ls 8 [(0, .ref (G.2.2 p0)), (1, .int v1), (2, .int v2), (3, .int v3), (4, .int v4), (5, .int v5)] := hl
  unfold fn_X1_split at h
  refine lv_aload_n hx hb dX1_split_0 rfl (lv_at hl 0 rfl) ?_
  refine lv_iload_n hx hb dX1_split_1 rfl (lv_at hl 1 rfl) ?_
  refine lv_iload_n hx hb dX1_split_2 rfl (lv_at hl 2 rfl) ?_
  refine lv_iload_n hx hb dX1_split_3 rfl (lv_at hl 3 rfl) ?_
  obtain ⟨r2, z3, h1, h⟩ := bd_s h
  refine x_Vi (Rz := (r2, z3)) (As := [.int v1, .int v2, .int v3]) (rest := []) ⟨hx, hb, hml, hown, hts⟩ hK hP hS (kd_lt hk0 (by decide)) (cell_1 hk0) rfl (m_X1_canSplit hG  hk0 h1) (cwV 3 hts (gV lw_1051 lw_1002 lw_1003 lw_117 lw_1004) rfl rfl rfl (by decide +kernel) (rmd_ok (by decide) (by decide))) rfl hl.1 rfl (Nat.le_of_ble_eq_true rfl) dX1_split_4 ⟨Nat.le_refl _, Nat.le_refl _⟩ (fun H locs hP hS => ?_)
  refine lv_if_ne (tgt := 11) hx hb dX1_split_7 (by decide) (fun c4 => ?_) (fun c4 => ?_)
  · rw [if_neg c4] at h
    refine lv_aload_n hx hb dX1_split_11 rfl (lv_at hl 0 rfl) ?_
    refine ge_1_0 hx hb hts (inU inW_X1) hown hK hP hk0 (hts _ (List.mem_cons_of_mem _ lw_412)) dX1_split_12 ?_
    refine lv_iload_n hx hb dX1_split_15 rfl (lv_at hl 1 rfl) ?_
    obtain ⟨g5, h⟩ := gd_s h
    refine xl_18 hx hb hK hP (kf_1_0 hk0) (lf_1_0 hk0) (ix_in g5) dX1_split_16 ?_
    refine lv_astore (lv' := [(6, .ref (G.2.2 ((p0 + 1) + 1 + (Int32.toNatClampNeg v1)))), (0, .ref (G.2.2 p0)), (1, .int v1), (2, .int v2), (3, .int v3), (4, .int v4), (5, .int v5)]) hx hb dX1_split_17 hl (by decide) rfl (fun ls hl => ?_)
    refine lv_aload_n hx hb dX1_split_19 rfl (lv_at hl 1 rfl) ?_
    refine ge_1_0 hx hb hts (inU inW_X1) hown hK hP hk0 (hts _ (List.mem_cons_of_mem _ lw_412)) dX1_split_20 ?_
    refine lv_aload_n hx hb dX1_split_23 rfl (lv_at hl 1 rfl) ?_
    refine ge_1_2 hx hb hts (inU inW_X1) hown hK hP hk0 (hts _ (List.mem_cons_of_mem _ lw_423)) dX1_split_24 ?_
    obtain ⟨g6, h⟩ := gd_s h
    refine xl_18 hx hb hK hP (kf_1_0 hk0) (lf_1_0 hk0) (ix_in g6) dX1_split_27 ?_
    refine lv_astore (lv' := [(7, .ref (G.2.2 ((p0 + 1) + 1 + (Int32.toNatClampNeg (z3.1 p0 2))))), (6, .ref (G.2.2 ((p0 + 1) + 1 + (Int32.toNatClampNeg v1)))), (0, .ref (G.2.2 p0)), (1, .int v1), (2, .int v2), (3, .int v3), (4, .int v4), (5, .int v5)]) hx hb dX1_split_28 hl (by decide) rfl (fun ls hl => ?_)
    refine lv_aload hx hb dX1_split_30 (lv_at hl 0 rfl) ?_
    refine lv_aload hx hb dX1_split_32 (lv_at hl 1 rfl) ?_
    obtain ⟨z8, h7, h⟩ := bv_s h
    refine x_Vv (Rz := z8) (As := [.ref (G.2.2 ((p0 + 1) + 1 + (Int32.toNatClampNeg v1)))]) (rest := []) ⟨hx, hb, hml, hown, hts⟩ hK hP hS (kd_lt (ke_18 (kf_1_0 hk0) (ix_lt g6)) (by decide)) (cell_9 (ke_18 (kf_1_0 hk0) (ix_lt g6))) rfl (m_X9_takeFrom hG  (ke_18 (kf_1_0 hk0) (ix_lt g6)) (ke_18 (kf_1_0 hk0) (ix_lt g5)) h7) (cwV 1 hts (gV lw_1052 lw_1053 lw_1054 lw_118 lw_1055) rfl rfl rfl (by decide +kernel) (rmd_ok (by decide) (by decide))) rfl hl.1 rfl (Nat.le_of_ble_eq_true rfl) dX1_split_34 ⟨Nat.le_refl _, Nat.le_refl _⟩ (fun H locs hP hS => ?_)
    refine lv_aload hx hb dX1_split_37 (lv_at hl 0 rfl) ?_
    refine lv_iload_n hx hb dX1_split_39 rfl (lv_at hl 4 rfl) ?_
    refine lv_iload_n hx hb dX1_split_40 rfl (lv_at hl 5 rfl) ?_
    obtain ⟨z10, h9, h⟩ := bv_s h
    refine x_Vv (Rz := z10) (As := [.int v2, .int v3]) (rest := []) ⟨hx, hb, hml, hown, hts⟩ hK hP hS (kd_lt (ke_18 (kf_1_0 hk0) (ix_lt g6)) (by decide)) (cell_9 (ke_18 (kf_1_0 hk0) (ix_lt g6))) rfl (m_X9_keepBehind hG  (ke_18 (kf_1_0 hk0) (ix_lt g6)) h9) (cwV 2 hts (gV lw_1056 lw_1057 lw_1058 lw_118 lw_1059) rfl rfl rfl (by decide +kernel) (rmd_ok (by decide) (by decide))) rfl hl.1 rfl (Nat.le_of_ble_eq_true rfl) dX1_split_41 ⟨Nat.le_refl _, Nat.le_refl _⟩ (fun H locs hP hS => ?_)
    refine lv_aload hx hb dX1_split_44 (lv_at hl 1 rfl) ?_
    refine lv_iload_n hx hb dX1_split_46 rfl (lv_at hl 4 rfl) ?_
    refine lv_iload_n hx hb dX1_split_47 rfl (lv_at hl 5 rfl) ?_
    obtain ⟨z12, h11, h⟩ := bv_s h
    refine x_Vv (Rz := z12) (As := [.int v2, .int v3]) (rest := []) ⟨hx, hb, hml, hown, hts⟩ hK hP hS (kd_lt (ke_18 (kf_1_0 hk0) (ix_lt g5)) (by decide)) (cell_9 (ke_18 (kf_1_0 hk0) (ix_lt g5))) rfl (m_X9_keepAhead hG  (ke_18 (kf_1_0 hk0) (ix_lt g5)) h11) (cwV 2 hts (gV lw_1060 lw_1061 lw_1062 lw_118 lw_1063) rfl rfl rfl (by decide +kernel) (rmd_ok (by decide) (by decide))) rfl hl.1 rfl (Nat.le_of_ble_eq_true rfl) dX1_split_48 ⟨Nat.le_refl _, Nat.le_refl _⟩ (fun H locs hP hS => ?_)
    refine lv_aload_n hx hb dX1_split_51 rfl (lv_at hl 2 rfl) ?_
    refine lv_dup hx hb dX1_split_52 rfl ?_
    refine ge_1_2 hx hb hts (inU inW_X1) hown hK hP hk0 (hts _ (List.mem_cons_of_mem _ lw_423)) dX1_split_53 ?_
    refine lv_iconst (v := 1) hx hb dX1_split_56 (by decide) ?_
    refine lv_iadd hx hb dX1_split_57 ?_
    obtain ⟨z13, e_z13, h⟩ := nm_s h
    refine pu_1_2 hx hb hts (inU inW_X1) hown hK hG hP hS hk0 (hts _ (List.mem_cons_of_mem _ lw_423)) dX1_split_58 (fun H locs hP hS => ?_)
    rw [← e_z13] at hP
    refine lv_aload_n hx hb dX1_split_61 rfl (lv_at hl 2 rfl) ?_
    refine lv_aload_n hx hb dX1_split_62 rfl (lv_at hl 2 rfl) ?_
    refine ge_1_4 hx hb hts (inU inW_X1) hown hK hP hk0 (hts _ (List.mem_cons_of_mem _ lw_430)) dX1_split_63 ?_
    refine lv_sipush (v := 137) hx hb dX1_split_66 (by decide) ?_
    refine lv_imul hx hb dX1_split_69 ?_
    refine lv_bipush (v := 71) hx hb dX1_split_70 (by decide) ?_
    refine lv_iadd hx hb dX1_split_72 ?_
    refine lv_sipush (v := 1000) hx hb dX1_split_73 (by decide) ?_
    refine lv_irem hx hb dX1_split_76 (by decide) ?_
    obtain ⟨z14, e_z14, h⟩ := nm_s h
    refine pu_1_4 hx hb hts (inU inW_X1) hown hK hG hP hS hk0 (hts _ (List.mem_cons_of_mem _ lw_430)) dX1_split_77 (fun H locs hP hS => ?_)
    rw [← e_z14] at hP
    refine lv_aload_n hx hb dX1_split_80 rfl (lv_at hl 2 rfl) ?_
    refine ge_1_4 hx hb hts (inU inW_X1) hown hK hP hk0 (hts _ (List.mem_cons_of_mem _ lw_430)) dX1_split_81 ?_
    refine lv_bipush (v := 100) hx hb dX1_split_84 (by decide) ?_
    refine lv_irem hx hb dX1_split_86 (by decide) ?_
    refine lv_iload hx hb dX1_split_87 (lv_at hl 6 rfl) ?_
    refine lv_icmp_ge (tgt := 98) hx hb dX1_split_89 (by decide) (fun c15 => ?_) (fun c15 => ?_)
    · rw [if_pos c15] at h
      exact pf_X1_split_98 C   p0 v5 z14 hk0 hP hS (lv_sub hl [2, 7] rfl) h
    · rw [if_neg c15] at h
      refine lv_aload hx hb dX1_split_92 (lv_at hl 0 rfl) ?_
      refine lv_iconst (v := 1) hx hb dX1_split_94 (by decide) ?_
      obtain ⟨z16, e_z16, h⟩ := nm_s h
      refine pu_9_5 hx hb hts (inU inW_X9) hown hK hG hP hS (ke_18 (kf_1_0 hk0) (ix_lt g6)) (hts _ (List.mem_cons_of_mem _ lw_393)) rfl dX1_split_95 (fun H locs hP hS => ?_)
      rw [← e_z16] at hP
      exact pf_X1_split_98 C   p0 v5 z16 hk0 hP hS (lv_sub hl [2, 7] rfl) h
  · rw [if_pos c4] at h
    exact x_vret hx hb hr hlocks hK hP hS h dX1_split_10
def fn_X1_rejoin (p0 : Nat) (v1 : Int32) (v2 : Int32) (z : St) : Option (St) := bd (fn_X1_isPiece  p0 v1 z) (fun r2 z3 => (if r2 = 0 then some z3 else (if ((z3.1 p0 2) - 1) ≤ v1 then some z3 else nm (sI z3 p0 2 ((z3.1 p0 2) - 1)) (fun z6 => gd (ix v1 24) (gd (ix (z6.1 p0 2) 24) (bd (fn_X9_extent  ((p0 + 1) + 1 + (Int32.toNatClampNeg (z6.1 p0 2))) v2 z6) (fun r10 z11 => bv (fn_X9_growBy  ((p0 + 1) + 1 + (Int32.toNatClampNeg v1)) v2 r10 z11) (fun z13 => some z13))))))))
set_option maxHeartbeats 4000000 in
set_option maxRecDepth 100000 in
theorem m_X1_rejoin {l : Launch} {G : wG} (hG : Ok G) {p0 : Nat} {v1 : Int32} {v2 : Int32} {z : St} {Rz : St} (hk0 : kd p0 = 1) (h : fn_X1_rejoin  p0 v1 v2 z = some Rz) : Met l yX1_rejoin (wsU yX1_rejoin cX1_rejoin 3 none) (rmd 2) (va_Pc [.ref (G.2.2 p0), .int v1, .int v2] (Pre G z)) (va_Qv (fun u => u = Rz) (Pre G) (AW G)) 0 0 (AW G) := by
  refine Met.ofW (cc := cX1_rejoin) (maxL := 3) (ret := none) (by decide) rfl ?_
  intro p e s m args below meth c s₁ B hml hv
  obtain ⟨rfl, hP, hK⟩ := hv
  have C : CX p s m ([.ref (G.2.2 p0), .int v1, .int v2] : List Value).toArray meth c cX1_rejoin 3 (wsU yX1_rejoin cX1_rejoin 3 none) RX1 none G := ⟨B.exec, B.bytes, hml, findClass_of_methodNamed B.named, atoms_spec (ws := (wsU yX1_rejoin cX1_rejoin 3 none)) B.pre, B.returns, B.notSynchronized, hK, hG⟩
  obtain ⟨hx, hb, -, hown, hts, hr, hlocks, -, -⟩ := id C
  have hS : va_S (AW G) s.heap s.heap [] := va_S.rf
  have hl := lv_entry [.ref (G.2.2 p0), .int v1, .int v2] (n := 3) (Nat.le_of_ble_eq_true rfl)
  rw [lg_entry_eq]
  generalize (lg_sl [.ref (G.2.2 p0), .int v1, .int v2] ++ List.replicate (3 - (lg_sl [.ref (G.2.2 p0), .int v1, .int v2]).length) Slot.unset).toArray = ls at hl ⊢
  have hl : lv_has ls 3 [(0, .ref (G.2.2 p0)), (1, .int v1), (2, .int v2)] := hl
  unfold fn_X1_rejoin at h
  refine lv_aload_n hx hb dX1_rejoin_0 rfl (lv_at hl 0 rfl) ?_
  refine lv_iload_n hx hb dX1_rejoin_1 rfl (lv_at hl 1 rfl) ?_
  obtain ⟨r2, z3, h1, h⟩ := bd_s h
  refine x_Vi (Rz := (r2, z3)) (As := [.int v1]) (rest := []) ⟨hx, hb, hml, hown, hts⟩ hK hP hS (kd_lt hk0 (by decide)) (cell_1 hk0) rfl (m_X1_isPiece hG  hk0 h1) (cwV 1 hts (gV lw_1013 lw_943 lw_944 lw_117 lw_945) rfl rfl rfl (by decide +kernel) (rmd_ok (by decide) (by decide))) rfl hl.1 rfl (Nat.le_of_ble_eq_true rfl) dX1_rejoin_2 ⟨Nat.le_refl _, Nat.le_refl _⟩ (fun H locs hP hS => ?_)
  refine lv_if_eq (tgt := 51) hx hb dX1_rejoin_5 (by decide) (fun c4 => ?_) (fun c4 => ?_)
  · rw [if_pos c4] at h
    exact x_vret hx hb hr hlocks hK hP hS h dX1_rejoin_51
  · rw [if_neg c4] at h
    refine lv_iload_n hx hb dX1_rejoin_8 rfl (lv_at hl 1 rfl) ?_
    refine lv_aload_n hx hb dX1_rejoin_9 rfl (lv_at hl 0 rfl) ?_
    refine ge_1_2 hx hb hts (inU inW_X1) hown hK hP hk0 (hts _ (List.mem_cons_of_mem _ lw_423)) dX1_rejoin_10 ?_
    refine lv_iconst (v := 1) hx hb dX1_rejoin_13 (by decide) ?_
    refine lv_isub hx hb dX1_rejoin_14 ?_
    refine lv_icmp_ge (tgt := 51) hx hb dX1_rejoin_15 (by decide) (fun c5 => ?_) (fun c5 => ?_)
    · rw [if_pos c5] at h
      exact x_vret hx hb hr hlocks hK hP hS h dX1_rejoin_51
    · rw [if_neg c5] at h
      refine lv_aload_n hx hb dX1_rejoin_18 rfl (lv_at hl 0 rfl) ?_
      refine lv_dup hx hb dX1_rejoin_19 rfl ?_
      refine ge_1_2 hx hb hts (inU inW_X1) hown hK hP hk0 (hts _ (List.mem_cons_of_mem _ lw_423)) dX1_rejoin_20 ?_
      refine lv_iconst (v := 1) hx hb dX1_rejoin_23 (by decide) ?_
      refine lv_isub hx hb dX1_rejoin_24 ?_
      obtain ⟨z6, e_z6, h⟩ := nm_s h
      refine pu_1_2 hx hb hts (inU inW_X1) hown hK hG hP hS hk0 (hts _ (List.mem_cons_of_mem _ lw_423)) dX1_rejoin_25 (fun H locs hP hS => ?_)
      rw [← e_z6] at hP
      refine lv_aload_n hx hb dX1_rejoin_28 rfl (lv_at hl 0 rfl) ?_
      refine ge_1_0 hx hb hts (inU inW_X1) hown hK hP hk0 (hts _ (List.mem_cons_of_mem _ lw_412)) dX1_rejoin_29 ?_
      refine lv_iload_n hx hb dX1_rejoin_32 rfl (lv_at hl 1 rfl) ?_
      obtain ⟨g7, h⟩ := gd_s h
      refine xl_18 hx hb hK hP (kf_1_0 hk0) (lf_1_0 hk0) (ix_in g7) dX1_rejoin_33 ?_
      refine lv_iload_n hx hb dX1_rejoin_34 rfl (lv_at hl 2 rfl) ?_
      refine lv_aload_n hx hb dX1_rejoin_35 rfl (lv_at hl 0 rfl) ?_
      refine ge_1_0 hx hb hts (inU inW_X1) hown hK hP hk0 (hts _ (List.mem_cons_of_mem _ lw_412)) dX1_rejoin_36 ?_
      refine lv_aload_n hx hb dX1_rejoin_39 rfl (lv_at hl 0 rfl) ?_
      refine ge_1_2 hx hb hts (inU inW_X1) hown hK hP hk0 (hts _ (List.mem_cons_of_mem _ lw_423)) dX1_rejoin_40 ?_
      obtain ⟨g8, h⟩ := gd_s h
      refine xl_18 hx hb hK hP (kf_1_0 hk0) (lf_1_0 hk0) (ix_in g8) dX1_rejoin_43 ?_
      refine lv_iload_n hx hb dX1_rejoin_44 rfl (lv_at hl 2 rfl) ?_
      obtain ⟨r10, z11, h9, h⟩ := bd_s h
      refine x_Vi (Rz := (r10, z11)) (As := [.int v2]) (rest := [.int v2, .ref (G.2.2 ((p0 + 1) + 1 + (Int32.toNatClampNeg v1)))]) ⟨hx, hb, hml, hown, hts⟩ hK hP hS (kd_lt (ke_18 (kf_1_0 hk0) (ix_lt g8)) (by decide)) (cell_9 (ke_18 (kf_1_0 hk0) (ix_lt g8))) rfl (m_X9_extent hG  (ke_18 (kf_1_0 hk0) (ix_lt g8)) h9) (cwV 1 hts (gV lw_1014 lw_1015 lw_1016 lw_118 lw_1017) rfl rfl rfl (by decide +kernel) (rmd_ok (by decide) (by decide))) rfl hl.1 rfl (Nat.le_of_ble_eq_true rfl) dX1_rejoin_45 ⟨Nat.le_refl _, Nat.le_refl _⟩ (fun H locs hP hS => ?_)
      obtain ⟨z13, h12, h⟩ := bv_s h
      refine x_Vv (Rz := z13) (As := [.int v2, .int r10]) (rest := []) ⟨hx, hb, hml, hown, hts⟩ hK hP hS (kd_lt (ke_18 (kf_1_0 hk0) (ix_lt g7)) (by decide)) (cell_9 (ke_18 (kf_1_0 hk0) (ix_lt g7))) rfl (m_X9_growBy hG  (ke_18 (kf_1_0 hk0) (ix_lt g7)) h12) (cwV 2 hts (gV lw_1114 lw_1115 lw_1116 lw_118 lw_1117) rfl rfl rfl (by decide +kernel) (rmd_ok (by decide) (by decide))) rfl hl.1 rfl (Nat.le_of_ble_eq_true rfl) dX1_rejoin_48 ⟨Nat.le_refl _, Nat.le_refl _⟩ (fun H locs hP hS => ?_)
      exact x_vret hx hb hr hlocks hK hP hS h dX1_rejoin_51
def fn_X1_put (p0 : Nat) (v1 : Int32) (v2 : Int32) (z : St) : Option (St) := bd (fn_X1_isPiece  p0 v1 z) (fun r2 z3 => (if r2 = 0 then some z3 else (if v2 < 0 then some z3 else (if 6 ≤ v2 then some z3 else gd (ix v1 24) (nm (sI z3 ((p0 + 1) + 1 + (Int32.toNatClampNeg v1)) 6 v2) (fun z8 => gd (ix v2 6) (nm (sI z8 (p0 + 26) (Int32.toNatClampNeg v2) v1) (fun z10 => some z10))))))))
set_option maxHeartbeats 4000000 in
set_option maxRecDepth 100000 in
theorem m_X1_put {l : Launch} {G : wG} (hG : Ok G) {p0 : Nat} {v1 : Int32} {v2 : Int32} {z : St} {Rz : St} (hk0 : kd p0 = 1) (h : fn_X1_put  p0 v1 v2 z = some Rz) : Met l yX1_put (wsU yX1_put cX1_put 3 none) (rmd 2) (va_Pc [.ref (G.2.2 p0), .int v1, .int v2] (Pre G z)) (va_Qv (fun u => u = Rz) (Pre G) (AW G)) 0 0 (AW G) := by
  refine Met.ofW (cc := cX1_put) (maxL := 3) (ret := none) (by decide) rfl ?_
  intro p e s m args below meth c s₁ B hml hv
  obtain ⟨rfl, hP, hK⟩ := hv
  have C : CX p s m ([.ref (G.2.2 p0), .int v1, .int v2] : List Value).toArray meth c cX1_put 3 (wsU yX1_put cX1_put 3 none) RX1 none G := ⟨B.exec, B.bytes, hml, findClass_of_methodNamed B.named, atoms_spec (ws := (wsU yX1_put cX1_put 3 none)) B.pre, B.returns, B.notSynchronized, hK, hG⟩
  obtain ⟨hx, hb, -, hown, hts, hr, hlocks, -, -⟩ := id C
  have hS : va_S (AW G) s.heap s.heap [] := va_S.rf
  have hl := lv_entry [.ref (G.2.2 p0), .int v1, .int v2] (n := 3) (Nat.le_of_ble_eq_true rfl)
  rw [lg_entry_eq]
  generalize (lg_sl [.ref (G.2.2 p0), .int v1, .int v2] ++ List.replicate (3 - (lg_sl [.ref (G.2.2 p0), .int v1, .int v2]).length) Slot.unset).toArray = ls at hl ⊢
  have hl : lv_has ls 3 [(0, .ref (G.2.2 p0)), (1, .int v1), (2, .int v2)] := hl
  unfold fn_X1_put at h
  refine lv_aload_n hx hb dX1_put_0 rfl (lv_at hl 0 rfl) ?_
  refine lv_iload_n hx hb dX1_put_1 rfl (lv_at hl 1 rfl) ?_
  obtain ⟨r2, z3, h1, h⟩ := bd_s h
  refine x_Vi (Rz := (r2, z3)) (As := [.int v1]) (rest := []) ⟨hx, hb, hml, hown, hts⟩ hK hP hS (kd_lt hk0 (by decide)) (cell_1 hk0) rfl (m_X1_isPiece hG  hk0 h1) (cwV 1 hts (gV lw_1013 lw_943 lw_944 lw_117 lw_945) rfl rfl rfl (by decide +kernel) (rmd_ok (by decide) (by decide))) rfl hl.1 rfl (Nat.le_of_ble_eq_true rfl) dX1_put_2 ⟨Nat.le_refl _, Nat.le_refl _⟩ (fun H locs hP hS => ?_)
  refine lv_if_eq (tgt := 35) hx hb dX1_put_5 (by decide) (fun c4 => ?_) (fun c4 => ?_)
  · rw [if_pos c4] at h
    exact x_vret hx hb hr hlocks hK hP hS h dX1_put_35
  · rw [if_neg c4] at h
    refine lv_iload_n hx hb dX1_put_8 rfl (lv_at hl 2 rfl) ?_
    refine lv_if_lt (tgt := 35) hx hb dX1_put_9 (by decide) (fun c5 => ?_) (fun c5 => ?_)
    · rw [if_pos c5] at h
      exact x_vret hx hb hr hlocks hK hP hS h dX1_put_35
    · rw [if_neg c5] at h
      refine lv_iload_n hx hb dX1_put_12 rfl (lv_at hl 2 rfl) ?_
      refine lv_bipush (v := 6) hx hb dX1_put_13 (by decide) ?_
      refine lv_icmp_ge (tgt := 35) hx hb dX1_put_15 (by decide) (fun c6 => ?_) (fun c6 => ?_)
      · rw [if_pos c6] at h
        exact x_vret hx hb hr hlocks hK hP hS h dX1_put_35
      · rw [if_neg c6] at h
        refine lv_aload_n hx hb dX1_put_18 rfl (lv_at hl 0 rfl) ?_
        refine ge_1_0 hx hb hts (inU inW_X1) hown hK hP hk0 (hts _ (List.mem_cons_of_mem _ lw_412)) dX1_put_19 ?_
        refine lv_iload_n hx hb dX1_put_22 rfl (lv_at hl 1 rfl) ?_
        obtain ⟨g7, h⟩ := gd_s h
        refine xl_18 hx hb hK hP (kf_1_0 hk0) (lf_1_0 hk0) (ix_in g7) dX1_put_23 ?_
        refine lv_iload_n hx hb dX1_put_24 rfl (lv_at hl 2 rfl) ?_
        obtain ⟨z8, e_z8, h⟩ := nm_s h
        refine pu_9_6 hx hb hts (inU inW_X9) hown hK hG hP hS (ke_18 (kf_1_0 hk0) (ix_lt g7)) (hts _ (List.mem_cons_of_mem _ lw_395)) dX1_put_25 (fun H locs hP hS => ?_)
        rw [← e_z8] at hP
        refine lv_aload_n hx hb dX1_put_28 rfl (lv_at hl 0 rfl) ?_
        refine ge_1_1 hx hb hts (inU inW_X1) hown hK hP hk0 (hts _ (List.mem_cons_of_mem _ lw_417)) dX1_put_29 ?_
        refine lv_iload_n hx hb dX1_put_32 rfl (lv_at hl 2 rfl) ?_
        refine lv_iload_n hx hb dX1_put_33 rfl (lv_at hl 1 rfl) ?_
        obtain ⟨g9, h⟩ := gd_s h
        obtain ⟨z10, e_z10, h⟩ := nm_s h
        refine xs_14 hx hb hK hG hP hS (kf_1_1 hk0) (lf_1_1 hk0) (ix_in g9) dX1_put_34 (fun H locs hP hS => ?_)
        rw [← e_z10] at hP
        exact x_vret hx hb hr hlocks hK hP hS h dX1_put_35
def fn_X1_lift (p0 : Nat) (v1 : Int32) (v2 : Int32) (z : St) : Option (St) := bd (fn_X1_isPiece  p0 v1 z) (fun r2 z3 => (if r2 = 0 then some z3 else (if v2 < 0 then some z3 else (if 6 ≤ v2 then some z3 else gd (ix v1 24) (nm (sI z3 ((p0 + 1) + 1 + (Int32.toNatClampNeg v1)) 6 (-1)) (fun z8 => gd (ix v2 6) (nm (sI z8 (p0 + 26) (Int32.toNatClampNeg v2) (-1)) (fun z10 => some z10))))))))
set_option maxHeartbeats 4000000 in
set_option maxRecDepth 100000 in
theorem m_X1_lift {l : Launch} {G : wG} (hG : Ok G) {p0 : Nat} {v1 : Int32} {v2 : Int32} {z : St} {Rz : St} (hk0 : kd p0 = 1) (h : fn_X1_lift  p0 v1 v2 z = some Rz) : Met l yX1_lift (wsU yX1_lift cX1_lift 3 none) (rmd 2) (va_Pc [.ref (G.2.2 p0), .int v1, .int v2] (Pre G z)) (va_Qv (fun u => u = Rz) (Pre G) (AW G)) 0 0 (AW G) := by
  refine Met.ofW (cc := cX1_lift) (maxL := 3) (ret := none) (by decide) rfl ?_
  intro p e s m args below meth c s₁ B hml hv
  obtain ⟨rfl, hP, hK⟩ := hv
  have C : CX p s m ([.ref (G.2.2 p0), .int v1, .int v2] : List Value).toArray meth c cX1_lift 3 (wsU yX1_lift cX1_lift 3 none) RX1 none G := ⟨B.exec, B.bytes, hml, findClass_of_methodNamed B.named, atoms_spec (ws := (wsU yX1_lift cX1_lift 3 none)) B.pre, B.returns, B.notSynchronized, hK, hG⟩
  obtain ⟨hx, hb, -, hown, hts, hr, hlocks, -, -⟩ := id C
  have hS : va_S (AW G) s.heap s.heap [] := va_S.rf
  have hl := lv_entry [.ref (G.2.2 p0), .int v1, .int v2] (n := 3) (Nat.le_of_ble_eq_true rfl)
  rw [lg_entry_eq]
  generalize (lg_sl [.ref (G.2.2 p0), .int v1, .int v2] ++ List.replicate (3 - (lg_sl [.ref (G.2.2 p0), .int v1, .int v2]).length) Slot.unset).toArray = ls at hl ⊢
  have hl : lv_has ls 3 [(0, .ref (G.2.2 p0)), (1, .int v1), (2, .int v2)] := hl
  unfold fn_X1_lift at h
  refine lv_aload_n hx hb dX1_lift_0 rfl (lv_at hl 0 rfl) ?_
  refine lv_iload_n hx hb dX1_lift_1 rfl (lv_at hl 1 rfl) ?_
  obtain ⟨r2, z3, h1, h⟩ := bd_s h
  refine x_Vi (Rz := (r2, z3)) (As := [.int v1]) (rest := []) ⟨hx, hb, hml, hown, hts⟩ hK hP hS (kd_lt hk0 (by decide)) (cell_1 hk0) rfl (m_X1_isPiece hG  hk0 h1) (cwV 1 hts (gV lw_1013 lw_943 lw_944 lw_117 lw_945) rfl rfl rfl (by decide +kernel) (rmd_ok (by decide) (by decide))) rfl hl.1 rfl (Nat.le_of_ble_eq_true rfl) dX1_lift_2 ⟨Nat.le_refl _, Nat.le_refl _⟩ (fun H locs hP hS => ?_)
  refine lv_if_eq (tgt := 35) hx hb dX1_lift_5 (by decide) (fun c4 => ?_) (fun c4 => ?_)
  · rw [if_pos c4] at h
    exact x_vret hx hb hr hlocks hK hP hS h dX1_lift_35
  · rw [if_neg c4] at h
    refine lv_iload_n hx hb dX1_lift_8 rfl (lv_at hl 2 rfl) ?_
    refine lv_if_lt (tgt := 35) hx hb dX1_lift_9 (by decide) (fun c5 => ?_) (fun c5 => ?_)
    · rw [if_pos c5] at h
      exact x_vret hx hb hr hlocks hK hP hS h dX1_lift_35
    · rw [if_neg c5] at h
      refine lv_iload_n hx hb dX1_lift_12 rfl (lv_at hl 2 rfl) ?_
      refine lv_bipush (v := 6) hx hb dX1_lift_13 (by decide) ?_
      refine lv_icmp_ge (tgt := 35) hx hb dX1_lift_15 (by decide) (fun c6 => ?_) (fun c6 => ?_)
      · rw [if_pos c6] at h
        exact x_vret hx hb hr hlocks hK hP hS h dX1_lift_35
      · rw [if_neg c6] at h
        refine lv_aload_n hx hb dX1_lift_18 rfl (lv_at hl 0 rfl) ?_
        refine ge_1_0 hx hb hts (inU inW_X1) hown hK hP hk0 (hts _ (List.mem_cons_of_mem _ lw_412)) dX1_lift_19 ?_
        refine lv_iload_n hx hb dX1_lift_22 rfl (lv_at hl 1 rfl) ?_
        obtain ⟨g7, h⟩ := gd_s h
        refine xl_18 hx hb hK hP (kf_1_0 hk0) (lf_1_0 hk0) (ix_in g7) dX1_lift_23 ?_
        refine lv_iconst (v := (-1)) hx hb dX1_lift_24 (by decide) ?_
        obtain ⟨z8, e_z8, h⟩ := nm_s h
        refine pu_9_6 hx hb hts (inU inW_X9) hown hK hG hP hS (ke_18 (kf_1_0 hk0) (ix_lt g7)) (hts _ (List.mem_cons_of_mem _ lw_395)) dX1_lift_25 (fun H locs hP hS => ?_)
        rw [← e_z8] at hP
        refine lv_aload_n hx hb dX1_lift_28 rfl (lv_at hl 0 rfl) ?_
        refine ge_1_1 hx hb hts (inU inW_X1) hown hK hP hk0 (hts _ (List.mem_cons_of_mem _ lw_417)) dX1_lift_29 ?_
        refine lv_iload_n hx hb dX1_lift_32 rfl (lv_at hl 2 rfl) ?_
        refine lv_iconst (v := (-1)) hx hb dX1_lift_33 (by decide) ?_
        obtain ⟨g9, h⟩ := gd_s h
        obtain ⟨z10, e_z10, h⟩ := nm_s h
        refine xs_14 hx hb hK hG hP hS (kf_1_1 hk0) (lf_1_1 hk0) (ix_in g9) dX1_lift_34 (fun H locs hP hS => ?_)
        rw [← e_z10] at hP
        exact x_vret hx hb hr hlocks hK hP hS h dX1_lift_35
def fn_X1_trade (p0 : Nat) (v1 : Int32) (v2 : Int32) (z : St) : Option (St) := (if v1 < 0 then some z else (if 6 ≤ v1 then some z else (if v2 < 0 then some z else (if v2 < 6 then gd (ix v1 6) (nm (z.1 (p0 + 26) (Int32.toNatClampNeg v1)) (fun v3_6 => gd (ix v2 6) (bv (fn_X1_put  p0 (z.1 (p0 + 26) (Int32.toNatClampNeg v2)) v1 z) (fun z9 => bv (fn_X1_put  p0 v3_6 v2 z9) (fun z11 => some z11))))) else some z))))
set_option maxHeartbeats 4000000 in
set_option maxRecDepth 100000 in
theorem m_X1_trade {l : Launch} {G : wG} (hG : Ok G) {p0 : Nat} {v1 : Int32} {v2 : Int32} {z : St} {Rz : St} (hk0 : kd p0 = 1) (h : fn_X1_trade  p0 v1 v2 z = some Rz) : Met l yX1_trade (wsU yX1_trade cX1_trade 4 none) (rmd 3) (va_Pc [.ref (G.2.2 p0), .int v1, .int v2] (Pre G z)) (va_Qv (fun u => u = Rz) (Pre G) (AW G)) 0 0 (AW G) := by
  refine Met.ofW (cc := cX1_trade) (maxL := 4) (ret := none) (by decide) rfl ?_
  intro p e s m args below meth c s₁ B hml hv
  obtain ⟨rfl, hP, hK⟩ := hv
  have C : CX p s m ([.ref (G.2.2 p0), .int v1, .int v2] : List Value).toArray meth c cX1_trade 4 (wsU yX1_trade cX1_trade 4 none) RX1 none G := ⟨B.exec, B.bytes, hml, findClass_of_methodNamed B.named, atoms_spec (ws := (wsU yX1_trade cX1_trade 4 none)) B.pre, B.returns, B.notSynchronized, hK, hG⟩
  obtain ⟨hx, hb, -, hown, hts, hr, hlocks, -, -⟩ := id C
  have hS : va_S (AW G) s.heap s.heap [] := va_S.rf
  have hl := lv_entry [.ref (G.2.2 p0), .int v1, .int v2] (n := 4) (Nat.le_of_ble_eq_true rfl)
  rw [lg_entry_eq]
  generalize (lg_sl [.ref (G.2.2 p0), .int v1, .int v2] ++ List.replicate (4 - (lg_sl [.ref (G.2.2 p0), .int v1, .int v2]).length) Slot.unset).toArray = ls at hl ⊢
  have hl : lv_has ls 4 [(0, .ref (G.2.2 p0)), (1, .int v1), (2, .int v2)] := hl
  unfold fn_X1_trade at h
  refine lv_iload_n hx hb dX1_trade_0 rfl (lv_at hl 1 rfl) ?_
  refine lv_if_lt (tgt := 20) hx hb dX1_trade_1 (by decide) (fun c1 => ?_) (fun c1 => ?_)
  · rw [if_pos c1] at h
    exact x_vret hx hb hr hlocks hK hP hS h dX1_trade_20
  · rw [if_neg c1] at h
    refine lv_iload_n hx hb dX1_trade_4 rfl (lv_at hl 1 rfl) ?_
    refine lv_bipush (v := 6) hx hb dX1_trade_5 (by decide) ?_
    refine lv_icmp_ge (tgt := 20) hx hb dX1_trade_7 (by decide) (fun c2 => ?_) (fun c2 => ?_)
    · rw [if_pos c2] at h
      exact x_vret hx hb hr hlocks hK hP hS h dX1_trade_20
    · rw [if_neg c2] at h
      refine lv_iload_n hx hb dX1_trade_10 rfl (lv_at hl 2 rfl) ?_
      refine lv_if_lt (tgt := 20) hx hb dX1_trade_11 (by decide) (fun c3 => ?_) (fun c3 => ?_)
      · rw [if_pos c3] at h
        exact x_vret hx hb hr hlocks hK hP hS h dX1_trade_20
      · rw [if_neg c3] at h
        refine lv_iload_n hx hb dX1_trade_14 rfl (lv_at hl 2 rfl) ?_
        refine lv_bipush (v := 6) hx hb dX1_trade_15 (by decide) ?_
        refine lv_icmp_lt (tgt := 21) hx hb dX1_trade_17 (by decide) (fun c4 => ?_) (fun c4 => ?_)
        · rw [if_pos c4] at h
          refine lv_aload_n hx hb dX1_trade_21 rfl (lv_at hl 0 rfl) ?_
          refine ge_1_1 hx hb hts (inU inW_X1) hown hK hP hk0 (hts _ (List.mem_cons_of_mem _ lw_417)) dX1_trade_22 ?_
          refine lv_iload_n hx hb dX1_trade_25 rfl (lv_at hl 1 rfl) ?_
          obtain ⟨g5, h⟩ := gd_s h
          refine xl_14 hx hb hK hP (kf_1_1 hk0) (lf_1_1 hk0) (ix_in g5) dX1_trade_26 ?_
          obtain ⟨v3_6, e_v3_6, h⟩ := nm_s h
          refine x_top e_v3_6 ?_
          refine lv_istore_n (lv' := [(3, .int v3_6), (0, .ref (G.2.2 p0)), (1, .int v1), (2, .int v2)]) hx hb dX1_trade_27 rfl hl (by decide) rfl (fun ls hl => ?_)
          refine lv_aload_n hx hb dX1_trade_28 rfl (lv_at hl 1 rfl) ?_
          refine lv_aload_n hx hb dX1_trade_29 rfl (lv_at hl 1 rfl) ?_
          refine ge_1_1 hx hb hts (inU inW_X1) hown hK hP hk0 (hts _ (List.mem_cons_of_mem _ lw_417)) dX1_trade_30 ?_
          refine lv_iload_n hx hb dX1_trade_33 rfl (lv_at hl 3 rfl) ?_
          obtain ⟨g7, h⟩ := gd_s h
          refine xl_14 hx hb hK hP (kf_1_1 hk0) (lf_1_1 hk0) (ix_in g7) dX1_trade_34 ?_
          refine lv_iload_n hx hb dX1_trade_35 rfl (lv_at hl 2 rfl) ?_
          obtain ⟨z9, h8, h⟩ := bv_s h
          refine x_Vv (Rz := z9) (As := [.int (z.1 (p0 + 26) (Int32.toNatClampNeg v2)), .int v1]) (rest := []) ⟨hx, hb, hml, hown, hts⟩ hK hP hS (kd_lt hk0 (by decide)) (cell_1 hk0) rfl (m_X1_put hG  hk0 h8) (cwV 2 hts (gV lw_1076 lw_1065 lw_1066 lw_117 lw_1067) rfl rfl rfl (by decide +kernel) (rmd_ok (by decide) (by decide))) rfl hl.1 rfl (Nat.le_of_ble_eq_true rfl) dX1_trade_36 ⟨Nat.le_refl _, Nat.le_refl _⟩ (fun H locs hP hS => ?_)
          refine lv_aload_n hx hb dX1_trade_39 rfl (lv_at hl 1 rfl) ?_
          refine lv_iload_n hx hb dX1_trade_40 rfl (lv_at hl 0 rfl) ?_
          refine lv_iload_n hx hb dX1_trade_41 rfl (lv_at hl 3 rfl) ?_
          obtain ⟨z11, h10, h⟩ := bv_s h
          refine x_Vv (Rz := z11) (As := [.int v3_6, .int v2]) (rest := []) ⟨hx, hb, hml, hown, hts⟩ hK hP hS (kd_lt hk0 (by decide)) (cell_1 hk0) rfl (m_X1_put hG  hk0 h10) (cwV 2 hts (gV lw_1076 lw_1065 lw_1066 lw_117 lw_1067) rfl rfl rfl (by decide +kernel) (rmd_ok (by decide) (by decide))) rfl hl.1 rfl (Nat.le_of_ble_eq_true rfl) dX1_trade_42 ⟨Nat.le_refl _, Nat.le_refl _⟩ (fun H locs hP hS => ?_)
          exact x_vret hx hb hr hlocks hK hP hS h dX1_trade_45
        · rw [if_neg c4] at h
          exact x_vret hx hb hr hlocks hK hP hS h dX1_trade_20
def fn_X1_platesFilled_23 (k4 : Nat → Int32 → Int32 → St → Option (Int32 × St)) (p0 : Nat) (v1 : Int32) (v2 : Int32) (z : St) : Option (Int32 × St) := k4 p0 v1 (v2 + 1) z
set_option maxHeartbeats 4000000 in
set_option maxRecDepth 100000 in
theorem pf_X1_platesFilled_23 {p : Program} {l : Launch} {e : Env} {s : State} {m : MethodId} {args : Array Value} {below : List Frame} {meth : Method} {c : Code} {G : wG} (C : CX p s m args meth c cX1_platesFilled 3 (wsU yX1_platesFilled cX1_platesFilled 3 (some .int)) RX1 (some .int) G) {Rz : Int32 × St} {k4 : Nat → Int32 → Int32 → St → Option (Int32 × St)} (hk_4 : ∀ (p0 : Nat) (v1 : Int32) (v2 : Int32) (z : St) (hk0 : kd p0 = 1) (H : Heap) (locs : List Loc) (ls : Array Slot), WP G z H → va_S (AW G) s.heap H locs → lv_has ls 3 [(0, .ref (G.2.2 p0)), (1, .int v1), (2, .int v2)] → k4 p0 v1 v2 z = some Rz → W p l e (rmd 1) s m args below meth c H locs 0 0 (QI below args s G Rz) (F0 m 4 ls [])) (p0 : Nat) (v1 : Int32) (v2 : Int32) (z : St) (hk0 : kd p0 = 1) {H : Heap} {locs : List Loc} {ls : Array Slot} (hP : WP G z H) (hS : va_S (AW G) s.heap H locs) (hl : lv_has ls 3 [(0, .ref (G.2.2 p0)), (1, .int v1), (2, .int v2)]) (h : fn_X1_platesFilled_23  k4 p0 v1 v2 z = some Rz) : W p l e (rmd 1) s m args below meth c H locs 0 0 (QI below args s G Rz) (F0 m 23 ls []) := by
  obtain ⟨hx, hb, hml, hown, hts, hr, hlocks, hK, hG⟩ := id C
  unfold fn_X1_platesFilled_23 at h
  refine lv_iinc (v := (v2 + 1)) (lv' := [(2, .int (v2 + 1)), (0, .ref (G.2.2 p0)), (1, .int v1)]) hx hb dX1_platesFilled_23 hl (k := 2) rfl rfl (by decide) rfl (fun ls hl => ?_)
  refine lv_goto (tgt := 4) hx hb dX1_platesFilled_26 (by decide) ?_
  exact hk_4 p0 v1 (v2 + 1) z hk0 _ _ _ hP hS (lv_sub hl [1, 2, 0] rfl) h
def fn_X1_platesFilled_4 : Nat → Nat → Int32 → Int32 → St → Option (Int32 × St)
  | 0, _, _, _, _ => none
  | n + 1, p0, v1, v2, z => (if 6 ≤ v2 then some (v1, z) else gd (ix v2 6) ((if (z.1 (p0 + 26) (Int32.toNatClampNeg v2)) = (-1) then fn_X1_platesFilled_23  (fn_X1_platesFilled_4   n) p0 v1 v2 z else fn_X1_platesFilled_23  (fn_X1_platesFilled_4   n) p0 (v1 + 1) v2 z)))
set_option maxHeartbeats 4000000 in
set_option maxRecDepth 100000 in
theorem pf_X1_platesFilled_4 {p : Program} {l : Launch} {e : Env} {s : State} {m : MethodId} {args : Array Value} {below : List Frame} {meth : Method} {c : Code} {G : wG} (C : CX p s m args meth c cX1_platesFilled 3 (wsU yX1_platesFilled cX1_platesFilled 3 (some .int)) RX1 (some .int) G) {Rz : Int32 × St} : ∀ (n : Nat) (p0 : Nat) (v1 : Int32) (v2 : Int32) (z : St) (hk0 : kd p0 = 1) (H : Heap) (locs : List Loc) (ls : Array Slot), WP G z H → va_S (AW G) s.heap H locs → lv_has ls 3 [(0, .ref (G.2.2 p0)), (1, .int v1), (2, .int v2)] → fn_X1_platesFilled_4   n p0 v1 v2 z = some Rz → W p l e (rmd 1) s m args below meth c H locs 0 0 (QI below args s G Rz) (F0 m 4 ls []) := by
  obtain ⟨hx, hb, hml, hown, hts, hr, hlocks, hK, hG⟩ := id C
  intro n
  induction n with
  | zero => intro p0 v1 v2 z hk0 H locs ls hP hS hl h; cases h
  | succ n ih =>
    intro p0 v1 v2 z hk0 H locs ls hP hS hl h
    rw [fn_X1_platesFilled_4] at h
    refine lv_iload_n hx hb dX1_platesFilled_4 rfl (lv_at hl 2 rfl) ?_
    refine lv_bipush (v := 6) hx hb dX1_platesFilled_5 (by decide) ?_
    refine lv_icmp_ge (tgt := 29) hx hb dX1_platesFilled_7 (by decide) (fun c1 => ?_) (fun c1 => ?_)
    · rw [if_pos c1] at h
      refine lv_iload_n hx hb dX1_platesFilled_29 rfl (lv_at hl 1 rfl) ?_
      exact x_iret hx hb hr hlocks hK hP hS h dX1_platesFilled_30
    · rw [if_neg c1] at h
      refine lv_aload_n hx hb dX1_platesFilled_10 rfl (lv_at hl 0 rfl) ?_
      refine ge_1_1 hx hb hts (inU inW_X1) hown hK hP hk0 (hts _ (List.mem_cons_of_mem _ lw_417)) dX1_platesFilled_11 ?_
      refine lv_iload_n hx hb dX1_platesFilled_14 rfl (lv_at hl 2 rfl) ?_
      obtain ⟨g2, h⟩ := gd_s h
      refine xl_14 hx hb hK hP (kf_1_1 hk0) (lf_1_1 hk0) (ix_in g2) dX1_platesFilled_15 ?_
      refine lv_iconst (v := (-1)) hx hb dX1_platesFilled_16 (by decide) ?_
      refine lv_icmp_eq (tgt := 23) hx hb dX1_platesFilled_17 (by decide) (fun c3 => ?_) (fun c3 => ?_)
      · rw [if_pos c3] at h
        exact pf_X1_platesFilled_23 C  ih p0 v1 v2 z hk0 hP hS (lv_sub hl [0, 1, 2] rfl) h
      · rw [if_neg c3] at h
        refine lv_iinc (v := (v1 + 1)) (lv' := [(1, .int (v1 + 1)), (0, .ref (G.2.2 p0)), (2, .int v2)]) hx hb dX1_platesFilled_20 hl (k := 1) rfl rfl (by decide) rfl (fun ls hl => ?_)
        exact pf_X1_platesFilled_23 C  ih p0 (v1 + 1) v2 z hk0 hP hS (lv_sub hl [1, 0, 2] rfl) h
def fn_X1_platesFilled (p0 : Nat) (z : St) : Option (Int32 × St) := fn_X1_platesFilled_4   fu p0 0 0 z
set_option maxHeartbeats 4000000 in
set_option maxRecDepth 100000 in
theorem m_X1_platesFilled {l : Launch} {G : wG} (hG : Ok G) {p0 : Nat} {z : St} {Rz : Int32 × St} (hk0 : kd p0 = 1) (h : fn_X1_platesFilled  p0 z = some Rz) : Met l yX1_platesFilled (wsU yX1_platesFilled cX1_platesFilled 3 (some .int)) (rmd 1) (va_Pc [.ref (G.2.2 p0)] (Pre G z)) (va_Qi (fun r u => (r, u) = Rz) (Pre G) (AW G)) 0 0 (AW G) := by
  refine Met.ofW (cc := cX1_platesFilled) (maxL := 3) (ret := (some .int)) (by decide) rfl ?_
  intro p e s m args below meth c s₁ B hml hv
  obtain ⟨rfl, hP, hK⟩ := hv
  have C : CX p s m ([.ref (G.2.2 p0)] : List Value).toArray meth c cX1_platesFilled 3 (wsU yX1_platesFilled cX1_platesFilled 3 (some .int)) RX1 (some .int) G := ⟨B.exec, B.bytes, hml, findClass_of_methodNamed B.named, atoms_spec (ws := (wsU yX1_platesFilled cX1_platesFilled 3 (some .int))) B.pre, B.returns, B.notSynchronized, hK, hG⟩
  obtain ⟨hx, hb, -, hown, hts, hr, hlocks, -, -⟩ := id C
  have hS : va_S (AW G) s.heap s.heap [] := va_S.rf
  have hl := lv_entry [.ref (G.2.2 p0)] (n := 3) (Nat.le_of_ble_eq_true rfl)
  rw [lg_entry_eq]
  generalize (lg_sl [.ref (G.2.2 p0)] ++ List.replicate (3 - (lg_sl [.ref (G.2.2 p0)]).length) Slot.unset).toArray = ls at hl ⊢
  have hl : lv_has ls 3 [(0, .ref (G.2.2 p0))] := hl
  unfold fn_X1_platesFilled at h
  refine lv_iconst (v := 0) hx hb dX1_platesFilled_0 (by decide) ?_
  refine lv_istore_n (lv' := [(1, .int 0), (0, .ref (G.2.2 p0))]) hx hb dX1_platesFilled_1 rfl hl (by decide) rfl (fun ls hl => ?_)
  refine lv_iconst (v := 0) hx hb dX1_platesFilled_2 (by decide) ?_
  refine lv_istore_n (lv' := [(2, .int 0), (1, .int 0), (0, .ref (G.2.2 p0))]) hx hb dX1_platesFilled_3 rfl hl (by decide) rfl (fun ls hl => ?_)
  exact pf_X1_platesFilled_4 C   fu p0 0 0 z hk0 _ _ _ hP hS (lv_sub hl [2, 1, 0] rfl) h
def fn_X1_brokenSet_30 (k4 : Nat → Int32 → Int32 → St → Option (Int32 × St)) (p0 : Nat) (v1 : Int32) (v2 : Int32) (z : St) : Option (Int32 × St) := k4 p0 v1 (v2 + 1) z
set_option maxHeartbeats 4000000 in
set_option maxRecDepth 100000 in
theorem pf_X1_brokenSet_30 {p : Program} {l : Launch} {e : Env} {s : State} {m : MethodId} {args : Array Value} {below : List Frame} {meth : Method} {c : Code} {G : wG} (C : CX p s m args meth c cX1_brokenSet 3 (wsU yX1_brokenSet cX1_brokenSet 3 (some .int)) RX1 (some .int) G) {Rz : Int32 × St} {k4 : Nat → Int32 → Int32 → St → Option (Int32 × St)} (hk_4 : ∀ (p0 : Nat) (v1 : Int32) (v2 : Int32) (z : St) (hk0 : kd p0 = 1) (H : Heap) (locs : List Loc) (ls : Array Slot), WP G z H → va_S (AW G) s.heap H locs → lv_has ls 3 [(0, .ref (G.2.2 p0)), (1, .int v1), (2, .int v2)] → k4 p0 v1 v2 z = some Rz → W p l e (rmd 1) s m args below meth c H locs 0 0 (QI below args s G Rz) (F0 m 4 ls [])) (p0 : Nat) (v1 : Int32) (v2 : Int32) (z : St) (hk0 : kd p0 = 1) {H : Heap} {locs : List Loc} {ls : Array Slot} (hP : WP G z H) (hS : va_S (AW G) s.heap H locs) (hl : lv_has ls 3 [(0, .ref (G.2.2 p0)), (1, .int v1), (2, .int v2)]) (h : fn_X1_brokenSet_30  k4 p0 v1 v2 z = some Rz) : W p l e (rmd 1) s m args below meth c H locs 0 0 (QI below args s G Rz) (F0 m 30 ls []) := by
  obtain ⟨hx, hb, hml, hown, hts, hr, hlocks, hK, hG⟩ := id C
  unfold fn_X1_brokenSet_30 at h
  refine lv_iinc (v := (v2 + 1)) (lv' := [(2, .int (v2 + 1)), (0, .ref (G.2.2 p0)), (1, .int v1)]) hx hb dX1_brokenSet_30 hl (k := 2) rfl rfl (by decide) rfl (fun ls hl => ?_)
  refine lv_goto (tgt := 4) hx hb dX1_brokenSet_33 (by decide) ?_
  exact hk_4 p0 v1 (v2 + 1) z hk0 _ _ _ hP hS (lv_sub hl [1, 2, 0] rfl) h
def fn_X1_brokenSet_4 : Nat → Nat → Int32 → Int32 → St → Option (Int32 × St)
  | 0, _, _, _, _ => none
  | n + 1, p0, v1, v2, z => (if (z.1 p0 2) ≤ v2 then some (v1, z) else gd (ix v2 24) ((if (z.1 ((p0 + 1) + 1 + (Int32.toNatClampNeg v2)) 5) = 0 then fn_X1_brokenSet_30  (fn_X1_brokenSet_4   n) p0 v1 v2 z else nm (v1 ||| (1 <<< (v2 &&& 31))) (fun v1_4 => fn_X1_brokenSet_30  (fn_X1_brokenSet_4   n) p0 v1_4 v2 z))))
set_option maxHeartbeats 4000000 in
set_option maxRecDepth 100000 in
theorem pf_X1_brokenSet_4 {p : Program} {l : Launch} {e : Env} {s : State} {m : MethodId} {args : Array Value} {below : List Frame} {meth : Method} {c : Code} {G : wG} (C : CX p s m args meth c cX1_brokenSet 3 (wsU yX1_brokenSet cX1_brokenSet 3 (some .int)) RX1 (some .int) G) {Rz : Int32 × St} : ∀ (n : Nat) (p0 : Nat) (v1 : Int32) (v2 : Int32) (z : St) (hk0 : kd p0 = 1) (H : Heap) (locs : List Loc) (ls : Array Slot), WP G z H → va_S (AW G) s.heap H locs → lv_has ls 3 [(0, .ref (G.2.2 p0)), (1, .int v1), (2, .int v2)] → fn_X1_brokenSet_4   n p0 v1 v2 z = some Rz → W p l e (rmd 1) s m args below meth c H locs 0 0 (QI below args s G Rz) (F0 m 4 ls []) := by
  obtain ⟨hx, hb, hml, hown, hts, hr, hlocks, hK, hG⟩ := id C
  intro n
  induction n with
  | zero => intro p0 v1 v2 z hk0 H locs ls hP hS hl h; cases h
  | succ n ih =>
    intro p0 v1 v2 z hk0 H locs ls hP hS hl h
    rw [fn_X1_brokenSet_4] at h
    refine lv_iload_n hx hb dX1_brokenSet_4 rfl (lv_at hl 2 rfl) ?_
    refine lv_aload_n hx hb dX1_brokenSet_5 rfl (lv_at hl 0 rfl) ?_
    refine ge_1_2 hx hb hts (inU inW_X1) hown hK hP hk0 (hts _ (List.mem_cons_of_mem _ lw_423)) dX1_brokenSet_6 ?_
    refine lv_icmp_ge (tgt := 36) hx hb dX1_brokenSet_9 (by decide) (fun c1 => ?_) (fun c1 => ?_)
    · rw [if_pos c1] at h
      refine lv_iload_n hx hb dX1_brokenSet_36 rfl (lv_at hl 1 rfl) ?_
      exact x_iret hx hb hr hlocks hK hP hS h dX1_brokenSet_37
    · rw [if_neg c1] at h
      refine lv_aload_n hx hb dX1_brokenSet_12 rfl (lv_at hl 0 rfl) ?_
      refine ge_1_0 hx hb hts (inU inW_X1) hown hK hP hk0 (hts _ (List.mem_cons_of_mem _ lw_412)) dX1_brokenSet_13 ?_
      refine lv_iload_n hx hb dX1_brokenSet_16 rfl (lv_at hl 2 rfl) ?_
      obtain ⟨g2, h⟩ := gd_s h
      refine xl_18 hx hb hK hP (kf_1_0 hk0) (lf_1_0 hk0) (ix_in g2) dX1_brokenSet_17 ?_
      refine ge_9_5 hx hb hts (inU inW_X9) hown hK hP (ke_18 (kf_1_0 hk0) (ix_lt g2)) (hts _ (List.mem_cons_of_mem _ lw_393)) dX1_brokenSet_18 ?_
      refine lv_if_eq (tgt := 30) hx hb dX1_brokenSet_21 (by decide) (fun c3 => ?_) (fun c3 => ?_)
      · rw [if_pos c3] at h
        exact pf_X1_brokenSet_30 C  ih p0 v1 v2 z hk0 hP hS (lv_sub hl [0, 1, 2] rfl) h
      · rw [if_neg c3] at h
        refine lv_iload_n hx hb dX1_brokenSet_24 rfl (lv_at hl 1 rfl) ?_
        refine lv_iconst (v := 1) hx hb dX1_brokenSet_25 (by decide) ?_
        refine lv_iload_n hx hb dX1_brokenSet_26 rfl (lv_at hl 2 rfl) ?_
        refine lv_ishl hx hb dX1_brokenSet_27 ?_
        refine lv_ior hx hb dX1_brokenSet_28 ?_
        obtain ⟨v1_4, e_v1_4, h⟩ := nm_s h
        refine x_top e_v1_4 ?_
        refine lv_istore_n (lv' := [(1, .int v1_4), (0, .ref (G.2.2 p0)), (2, .int v2)]) hx hb dX1_brokenSet_29 rfl hl (by decide) rfl (fun ls hl => ?_)
        exact pf_X1_brokenSet_30 C  ih p0 v1_4 v2 z hk0 hP hS (lv_sub hl [1, 0, 2] rfl) h
def fn_X1_brokenSet (p0 : Nat) (z : St) : Option (Int32 × St) := fn_X1_brokenSet_4   fu p0 0 0 z
set_option maxHeartbeats 4000000 in
set_option maxRecDepth 100000 in
theorem m_X1_brokenSet {l : Launch} {G : wG} (hG : Ok G) {p0 : Nat} {z : St} {Rz : Int32 × St} (hk0 : kd p0 = 1) (h : fn_X1_brokenSet  p0 z = some Rz) : Met l yX1_brokenSet (wsU yX1_brokenSet cX1_brokenSet 3 (some .int)) (rmd 1) (va_Pc [.ref (G.2.2 p0)] (Pre G z)) (va_Qi (fun r u => (r, u) = Rz) (Pre G) (AW G)) 0 0 (AW G) := by
  refine Met.ofW (cc := cX1_brokenSet) (maxL := 3) (ret := (some .int)) (by decide) rfl ?_
  intro p e s m args below meth c s₁ B hml hv
  obtain ⟨rfl, hP, hK⟩ := hv
  have C : CX p s m ([.ref (G.2.2 p0)] : List Value).toArray meth c cX1_brokenSet 3 (wsU yX1_brokenSet cX1_brokenSet 3 (some .int)) RX1 (some .int) G := ⟨B.exec, B.bytes, hml, findClass_of_methodNamed B.named, atoms_spec (ws := (wsU yX1_brokenSet cX1_brokenSet 3 (some .int))) B.pre, B.returns, B.notSynchronized, hK, hG⟩
  obtain ⟨hx, hb, -, hown, hts, hr, hlocks, -, -⟩ := id C
  have hS : va_S (AW G) s.heap s.heap [] := va_S.rf
  have hl := lv_entry [.ref (G.2.2 p0)] (n := 3) (Nat.le_of_ble_eq_true rfl)
  rw [lg_entry_eq]
  generalize (lg_sl [.ref (G.2.2 p0)] ++ List.replicate (3 - (lg_sl [.ref (G.2.2 p0)]).length) Slot.unset).toArray = ls at hl ⊢
  have hl : lv_has ls 3 [(0, .ref (G.2.2 p0))] := hl
  unfold fn_X1_brokenSet at h
  refine lv_iconst (v := 0) hx hb dX1_brokenSet_0 (by decide) ?_
  refine lv_istore_n (lv' := [(1, .int 0), (0, .ref (G.2.2 p0))]) hx hb dX1_brokenSet_1 rfl hl (by decide) rfl (fun ls hl => ?_)
  refine lv_iconst (v := 0) hx hb dX1_brokenSet_2 (by decide) ?_
  refine lv_istore_n (lv' := [(2, .int 0), (1, .int 0), (0, .ref (G.2.2 p0))]) hx hb dX1_brokenSet_3 rfl hl (by decide) rfl (fun ls hl => ?_)
  exact pf_X1_brokenSet_4 C   fu p0 0 0 z hk0 _ _ _ hP hS (lv_sub hl [2, 1, 0] rfl) h
