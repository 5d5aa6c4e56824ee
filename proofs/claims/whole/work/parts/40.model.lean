def fn_X12_four_3 : Nat → Int32 → Int32 → St → Option (St)
  | 0, _, _, _ => none
  | n + 1, v1, v2, z => (if v2 < 0 then some z else gd (ix (z.1 172 1) 1600) (nm (sI z 173 (Int32.toNatClampNeg (z.1 172 1)) ((v1 >>> (v2 &&& 31)) &&& 255)) (fun z3 => nm (sI z3 172 1 ((z3.1 172 1) + 1)) (fun z4 => fn_X12_four_3   n v1 (v2 + (-8)) z4))))
set_option maxHeartbeats 4000000 in
set_option maxRecDepth 100000 in
theorem pf_X12_four_3 {p : Program} {l : Launch} {e : Env} {s : State} {m : MethodId} {args : Array Value} {below : List Frame} {meth : Method} {c : Code} {G : wG} (C : CX p s m args meth c cX12_four 3 (wsU yX12_four cX12_four 3 none) RX12 none G) {Rz : St} : ∀ (n : Nat) (v1 : Int32) (v2 : Int32) (z : St)  (H : Heap) (locs : List Loc) (ls : Array Slot), WP G z H → va_S (AW G) s.heap H locs → lv_has ls 3 [(0, .ref (G.2.2 172)), (1, .int v1), (2, .int v2)] → fn_X12_four_3   n v1 v2 z = some Rz → W p l e (rmd 1) s m args below meth c H locs 0 0 (QV below args s G Rz) (F0 m 3 ls []) := by
  obtain ⟨hx, hb, hml, hown, hts, hr, hlocks, hK, hG⟩ := id C
  intro n
  induction n with
  | zero => intro v1 v2 z  H locs ls hP hS hl h; cases h
  | succ n ih =>
    intro v1 v2 z  H locs ls hP hS hl h
    rw [fn_X12_four_3] at h
    refine lv_iload_n hx hb dX12_four_3 rfl (lv_at hl 2 rfl) ?_
    refine lv_if_lt (tgt := 39) hx hb dX12_four_4 (by decide) (fun c1 => ?_) (fun c1 => ?_)
    · rw [if_pos c1] at h
      exact x_vret hx hb hr hlocks hK hP hS h dX12_four_39
    · rw [if_neg c1] at h
      refine lv_aload_n hx hb dX12_four_7 rfl (lv_at hl 0 rfl) ?_
      refine ge_12_0 hx hb hts (inU inW_X12) hown hK hP k_172 (hts _ (List.mem_cons_of_mem _ lw_1434)) dX12_four_8 ?_
      refine lv_aload_n hx hb dX12_four_11 rfl (lv_at hl 0 rfl) ?_
      refine ge_12_1 hx hb hts (inU inW_X12) hown hK hP k_172 (hts _ (List.mem_cons_of_mem _ lw_1435)) dX12_four_12 ?_
      refine lv_iload_n hx hb dX12_four_15 rfl (lv_at hl 1 rfl) ?_
      refine lv_iload_n hx hb dX12_four_16 rfl (lv_at hl 2 rfl) ?_
      refine lv_ishr hx hb dX12_four_17 ?_
      refine lv_sipush (v := 255) hx hb dX12_four_18 (by decide) ?_
      refine lv_iand hx hb dX12_four_21 ?_
      obtain ⟨g2, h⟩ := gd_s h
      obtain ⟨z3, e_z3, h⟩ := nm_s h
      refine xs_14 hx hb hK hG hP hS k_173 l_173 (ix_in g2) dX12_four_22 (fun H locs hP hS => ?_)
      rw [← e_z3] at hP
      refine lv_aload_n hx hb dX12_four_23 rfl (lv_at hl 0 rfl) ?_
      refine lv_dup hx hb dX12_four_24 rfl ?_
      refine ge_12_1 hx hb hts (inU inW_X12) hown hK hP k_172 (hts _ (List.mem_cons_of_mem _ lw_1435)) dX12_four_25 ?_
      refine lv_iconst (v := 1) hx hb dX12_four_28 (by decide) ?_
      refine lv_iadd hx hb dX12_four_29 ?_
      obtain ⟨z4, e_z4, h⟩ := nm_s h
      refine pu_12_1 hx hb hts (inU inW_X12) hown hK hG hP hS k_172 (hts _ (List.mem_cons_of_mem _ lw_1435)) dX12_four_30 (fun H locs hP hS => ?_)
      rw [← e_z4] at hP
      refine lv_iinc (v := (v2 + (-8))) (lv' := [(2, .int (v2 + (-8))), (0, .ref (G.2.2 172)), (1, .int v1)]) hx hb dX12_four_33 hl (k := 2) rfl rfl (by decide) rfl (fun ls hl => ?_)
      refine lv_goto (tgt := 3) hx hb dX12_four_36 (by decide) ?_
      exact ih v1 (v2 + (-8)) z4  _ _ _ hP hS (lv_sub hl [1, 2, 0] rfl) h
def fn_X12_four (v1 : Int32) (z : St) : Option (St) := fn_X12_four_3   fu v1 24 z
set_option maxHeartbeats 4000000 in
set_option maxRecDepth 100000 in
theorem m_X12_four {l : Launch} {G : wG} (hG : Ok G) {v1 : Int32} {z : St} {Rz : St}  (h : fn_X12_four  v1 z = some Rz) : Met l yX12_four (wsU yX12_four cX12_four 3 none) (rmd 1) (va_Pc [.ref (G.2.2 172), .int v1] (Pre G z)) (va_Qv (fun u => u = Rz) (Pre G) (AW G)) 0 0 (AW G) := by
  refine Met.ofW (cc := cX12_four) (maxL := 3) (ret := none) (by decide) rfl ?_
  intro p e s m args below meth c s₁ B hml hv
  obtain ⟨rfl, hP, hK⟩ := hv
  have C : CX p s m ([.ref (G.2.2 172), .int v1] : List Value).toArray meth c cX12_four 3 (wsU yX12_four cX12_four 3 none) RX12 none G := ⟨B.exec, B.bytes, hml, findClass_of_methodNamed B.named, atoms_spec (ws := (wsU yX12_four cX12_four 3 none)) B.pre, B.returns, B.notSynchronized, hK, hG⟩
  obtain ⟨hx, hb, -, hown, hts, hr, hlocks, -, -⟩ := id C
  have hS : va_S (AW G) s.heap s.heap [] := va_S.rf
  have hl := lv_entry [.ref (G.2.2 172), .int v1] (n := 3) (Nat.le_of_ble_eq_true rfl)
  rw [lg_entry_eq]
  generalize (lg_sl [.ref (G.2.2 172), .int v1] ++ List.replicate (3 - (lg_sl [.ref (G.2.2 172), .int v1]).length) Slot.unset).toArray = ls at hl ⊢
  have hl : lv_has ls 3 [(0, .ref (G.2.2 172)), (1, .int v1)] := hl
  unfold fn_X12_four at h
  refine lv_bipush (v := 24) hx hb dX12_four_0 (by decide) ?_
  refine lv_istore_n (lv' := [(2, .int 24), (0, .ref (G.2.2 172)), (1, .int v1)]) hx hb dX12_four_2 rfl hl (by decide) rfl (fun ls hl => ?_)
  exact pf_X12_four_3 C   fu v1 24 z  _ _ _ hP hS (lv_sub hl [1, 2, 0] rfl) h
def fn_X12_feed (v1 : Int32) (v2 : Int32) (v3 : Int32) (v4 : Int32) (v5 : Int32) (z : St) : Option (Int32 × St) := (if ((z.1 172 1) + 20) ≤ 1600 then bv (fn_X12_four  v1 z) (fun z3 => bv (fn_X12_four  v2 z3) (fun z5 => bv (fn_X12_four  v3 z5) (fun z7 => bv (fn_X12_four  v4 z7) (fun z9 => bv (fn_X12_four  v5 z9) (fun z11 => some ((z11.1 172 1), z11)))))) else some ((-1), z))
set_option maxHeartbeats 4000000 in
set_option maxRecDepth 100000 in
theorem m_X12_feed {l : Launch} {G : wG} (hG : Ok G) {v1 : Int32} {v2 : Int32} {v3 : Int32} {v4 : Int32} {v5 : Int32} {z : St} {Rz : Int32 × St}  (h : fn_X12_feed  v1 v2 v3 v4 v5 z = some Rz) : Met l yX12_feed (wsU yX12_feed cX12_feed 6 (some .int)) (rmd 2) (va_Pc [.ref (G.2.2 172), .int v1, .int v2, .int v3, .int v4, .int v5] (Pre G z)) (va_Qi (fun r u => (r, u) = Rz) (Pre G) (AW G)) 0 0 (AW G) := by
  refine Met.ofW (cc := cX12_feed) (maxL := 6) (ret := (some .int)) (by decide) rfl ?_
  intro p e s m args below meth c s₁ B hml hv
  obtain ⟨rfl, hP, hK⟩ := hv
  have C : CX p s m ([.ref (G.2.2 172), .int v1, .int v2, .int v3, .int v4, .int v5] : List Value).toArray meth c cX12_feed 6 (wsU yX12_feed cX12_feed 6 (some .int)) RX12 (some .int) G := ⟨B.exec, B.bytes, hml, findClass_of_methodNamed B.named, atoms_spec (ws := (wsU yX12_feed cX12_feed 6 (some .int))) B.pre, B.returns, B.notSynchronized, hK, hG⟩
  obtain ⟨hx, hb, -, hown, hts, hr, hlocks, -, -⟩ := id C
  have hS : va_S (AW G) s.heap s.heap [] := va_S.rf
  have hl := lv_entry [.ref (G.2.2 172), .int v1, .int v2, .int v3, .int v4, .int v5] (n := 6) (Nat.le_of_ble_eq_true rfl)
  rw [lg_entry_eq]
  generalize (lg_sl [.ref (G.2.2 172), .int v1, .int v2, .int v3, .int v4, .int v5] ++ List.replicate (6 - (lg_sl [.ref (G.2.2 172), .int v1, .int v2, .int v3, .int v4, .int v5]).length) Slot.unset).toArray = ls at hl ⊢
  have hl : lv_has ls 6 [(0, .ref (G.2.2 172)), (1, .int v1), (2, .int v2), (3, .int v3), (4, .int v4), (5, .int v5)] := hl
  unfold fn_X12_feed at h
  refine lv_aload_n hx hb dX12_feed_0 rfl (lv_at hl 0 rfl) ?_
  refine ge_12_1 hx hb hts (inU inW_X12) hown hK hP k_172 (hts _ (List.mem_cons_of_mem _ lw_1435)) dX12_feed_1 ?_
  refine lv_bipush (v := 20) hx hb dX12_feed_4 (by decide) ?_
  refine lv_iadd hx hb dX12_feed_6 ?_
  refine lv_sipush (v := 1600) hx hb dX12_feed_7 (by decide) ?_
  refine lv_icmp_le (tgt := 15) hx hb dX12_feed_10 (by decide) (fun c1 => ?_) (fun c1 => ?_)
  · rw [if_pos c1] at h
    refine lv_aload_n hx hb dX12_feed_15 rfl (lv_at hl 0 rfl) ?_
    refine lv_iload_n hx hb dX12_feed_16 rfl (lv_at hl 1 rfl) ?_
    obtain ⟨z3, h2, h⟩ := bv_s h
    refine x_Vv (Rz := z3) (As := [.int v1]) (rest := []) ⟨hx, hb, hml, hown, hts⟩ hK hP hS (kd_lt k_172 (by decide)) (cell_12 k_172) rfl (m_X12_four hG   h2) (cwV 1 hts (gV lw_1664 lw_1666 lw_44 lw_125 lw_1667) rfl rfl rfl (by decide +kernel) (rmd_ok (by decide) (by decide))) rfl hl.1 rfl (Nat.le_of_ble_eq_true rfl) dX12_feed_17 ⟨Nat.le_refl _, Nat.le_refl _⟩ (fun H locs hP hS => ?_)
    refine lv_aload_n hx hb dX12_feed_20 rfl (lv_at hl 0 rfl) ?_
    refine lv_iload_n hx hb dX12_feed_21 rfl (lv_at hl 2 rfl) ?_
    obtain ⟨z5, h4, h⟩ := bv_s h
    refine x_Vv (Rz := z5) (As := [.int v2]) (rest := []) ⟨hx, hb, hml, hown, hts⟩ hK hP hS (kd_lt k_172 (by decide)) (cell_12 k_172) rfl (m_X12_four hG   h4) (cwV 1 hts (gV lw_1664 lw_1666 lw_44 lw_125 lw_1667) rfl rfl rfl (by decide +kernel) (rmd_ok (by decide) (by decide))) rfl hl.1 rfl (Nat.le_of_ble_eq_true rfl) dX12_feed_22 ⟨Nat.le_refl _, Nat.le_refl _⟩ (fun H locs hP hS => ?_)
    refine lv_aload_n hx hb dX12_feed_25 rfl (lv_at hl 0 rfl) ?_
    refine lv_iload_n hx hb dX12_feed_26 rfl (lv_at hl 3 rfl) ?_
    obtain ⟨z7, h6, h⟩ := bv_s h
    refine x_Vv (Rz := z7) (As := [.int v3]) (rest := []) ⟨hx, hb, hml, hown, hts⟩ hK hP hS (kd_lt k_172 (by decide)) (cell_12 k_172) rfl (m_X12_four hG   h6) (cwV 1 hts (gV lw_1664 lw_1666 lw_44 lw_125 lw_1667) rfl rfl rfl (by decide +kernel) (rmd_ok (by decide) (by decide))) rfl hl.1 rfl (Nat.le_of_ble_eq_true rfl) dX12_feed_27 ⟨Nat.le_refl _, Nat.le_refl _⟩ (fun H locs hP hS => ?_)
    refine lv_aload_n hx hb dX12_feed_30 rfl (lv_at hl 0 rfl) ?_
    refine lv_iload hx hb dX12_feed_31 (lv_at hl 4 rfl) ?_
    obtain ⟨z9, h8, h⟩ := bv_s h
    refine x_Vv (Rz := z9) (As := [.int v4]) (rest := []) ⟨hx, hb, hml, hown, hts⟩ hK hP hS (kd_lt k_172 (by decide)) (cell_12 k_172) rfl (m_X12_four hG   h8) (cwV 1 hts (gV lw_1664 lw_1666 lw_44 lw_125 lw_1667) rfl rfl rfl (by decide +kernel) (rmd_ok (by decide) (by decide))) rfl hl.1 rfl (Nat.le_of_ble_eq_true rfl) dX12_feed_33 ⟨Nat.le_refl _, Nat.le_refl _⟩ (fun H locs hP hS => ?_)
    refine lv_aload_n hx hb dX12_feed_36 rfl (lv_at hl 0 rfl) ?_
    refine lv_iload hx hb dX12_feed_37 (lv_at hl 5 rfl) ?_
    obtain ⟨z11, h10, h⟩ := bv_s h
    refine x_Vv (Rz := z11) (As := [.int v5]) (rest := []) ⟨hx, hb, hml, hown, hts⟩ hK hP hS (kd_lt k_172 (by decide)) (cell_12 k_172) rfl (m_X12_four hG   h10) (cwV 1 hts (gV lw_1664 lw_1666 lw_44 lw_125 lw_1667) rfl rfl rfl (by decide +kernel) (rmd_ok (by decide) (by decide))) rfl hl.1 rfl (Nat.le_of_ble_eq_true rfl) dX12_feed_39 ⟨Nat.le_refl _, Nat.le_refl _⟩ (fun H locs hP hS => ?_)
    refine lv_aload_n hx hb dX12_feed_42 rfl (lv_at hl 0 rfl) ?_
    refine ge_12_1 hx hb hts (inU inW_X12) hown hK hP k_172 (hts _ (List.mem_cons_of_mem _ lw_1435)) dX12_feed_43 ?_
    exact x_iret hx hb hr hlocks hK hP hS h dX12_feed_46
  · rw [if_neg c1] at h
    refine lv_iconst (v := (-1)) hx hb dX12_feed_13 (by decide) ?_
    exact x_iret hx hb hr hlocks hK hP hS h dX12_feed_14
def fn_X12_end (v1 : Int32) (z : St) : Option (Int32 × St) := (if v1 < 0 then some ((-1), z) else (if v1 ≤ (z.1 172 1) then nm (sI z 172 1 v1) (fun z3 => some (v1, z3)) else some ((-1), z)))
set_option maxHeartbeats 4000000 in
set_option maxRecDepth 100000 in
theorem m_X12_end {l : Launch} {G : wG} (hG : Ok G) {v1 : Int32} {z : St} {Rz : Int32 × St}  (h : fn_X12_end  v1 z = some Rz) : Met l yX12_end (wsU yX12_end cX12_end 2 (some .int)) (rmd 1) (va_Pc [.ref (G.2.2 172), .int v1] (Pre G z)) (va_Qi (fun r u => (r, u) = Rz) (Pre G) (AW G)) 0 0 (AW G) := by
  refine Met.ofW (cc := cX12_end) (maxL := 2) (ret := (some .int)) (by decide) rfl ?_
  intro p e s m args below meth c s₁ B hml hv
  obtain ⟨rfl, hP, hK⟩ := hv
  have C : CX p s m ([.ref (G.2.2 172), .int v1] : List Value).toArray meth c cX12_end 2 (wsU yX12_end cX12_end 2 (some .int)) RX12 (some .int) G := ⟨B.exec, B.bytes, hml, findClass_of_methodNamed B.named, atoms_spec (ws := (wsU yX12_end cX12_end 2 (some .int))) B.pre, B.returns, B.notSynchronized, hK, hG⟩
  obtain ⟨hx, hb, -, hown, hts, hr, hlocks, -, -⟩ := id C
  have hS : va_S (AW G) s.heap s.heap [] := va_S.rf
  have hl := lv_entry [.ref (G.2.2 172), .int v1] (n := 2) (Nat.le_of_ble_eq_true rfl)
  rw [lg_entry_eq]
  generalize (lg_sl [.ref (G.2.2 172), .int v1] ++ List.replicate (2 - (lg_sl [.ref (G.2.2 172), .int v1]).length) Slot.unset).toArray = ls at hl ⊢
  have hl : lv_has ls 2 [(0, .ref (G.2.2 172)), (1, .int v1)] := hl
  unfold fn_X12_end at h
  refine lv_iload_n hx hb dX12_end_0 rfl (lv_at hl 1 rfl) ?_
  refine lv_if_lt (tgt := 12) hx hb dX12_end_1 (by decide) (fun c1 => ?_) (fun c1 => ?_)
  · rw [if_pos c1] at h
    refine lv_iconst (v := (-1)) hx hb dX12_end_12 (by decide) ?_
    exact x_iret hx hb hr hlocks hK hP hS h dX12_end_13
  · rw [if_neg c1] at h
    refine lv_iload_n hx hb dX12_end_4 rfl (lv_at hl 1 rfl) ?_
    refine lv_aload_n hx hb dX12_end_5 rfl (lv_at hl 0 rfl) ?_
    refine ge_12_1 hx hb hts (inU inW_X12) hown hK hP k_172 (hts _ (List.mem_cons_of_mem _ lw_1435)) dX12_end_6 ?_
    refine lv_icmp_le (tgt := 14) hx hb dX12_end_9 (by decide) (fun c2 => ?_) (fun c2 => ?_)
    · rw [if_pos c2] at h
      refine lv_aload_n hx hb dX12_end_14 rfl (lv_at hl 0 rfl) ?_
      refine lv_iload_n hx hb dX12_end_15 rfl (lv_at hl 1 rfl) ?_
      obtain ⟨z3, e_z3, h⟩ := nm_s h
      refine pu_12_1 hx hb hts (inU inW_X12) hown hK hG hP hS k_172 (hts _ (List.mem_cons_of_mem _ lw_1435)) dX12_end_16 (fun H locs hP hS => ?_)
      rw [← e_z3] at hP
      refine lv_iload_n hx hb dX12_end_19 rfl (lv_at hl 1 rfl) ?_
      exact x_iret hx hb hr hlocks hK hP hS h dX12_end_20
    · rw [if_neg c2] at h
      refine lv_iconst (v := (-1)) hx hb dX12_end_12 (by decide) ?_
      exact x_iret hx hb hr hlocks hK hP hS h dX12_end_13
def fn_X12_here (v1 : Int32) (z : St) : Option (Int32 × St) := (if (z.1 172 5) ≤ ((z.1 172 4) + v1) then some ((-1), z) else gd (ix ((z.1 172 4) + v1) 1600) (some ((z.1 173 (Int32.toNatClampNeg ((z.1 172 4) + v1))), z)))
set_option maxHeartbeats 4000000 in
set_option maxRecDepth 100000 in
theorem m_X12_here {l : Launch} {G : wG} (hG : Ok G) {v1 : Int32} {z : St} {Rz : Int32 × St}  (h : fn_X12_here  v1 z = some Rz) : Met l yX12_here (wsU yX12_here cX12_here 2 (some .int)) (rmd 1) (va_Pc [.ref (G.2.2 172), .int v1] (Pre G z)) (va_Qi (fun r u => (r, u) = Rz) (Pre G) (AW G)) 0 0 (AW G) := by
  refine Met.ofW (cc := cX12_here) (maxL := 2) (ret := (some .int)) (by decide) rfl ?_
  intro p e s m args below meth c s₁ B hml hv
  obtain ⟨rfl, hP, hK⟩ := hv
  have C : CX p s m ([.ref (G.2.2 172), .int v1] : List Value).toArray meth c cX12_here 2 (wsU yX12_here cX12_here 2 (some .int)) RX12 (some .int) G := ⟨B.exec, B.bytes, hml, findClass_of_methodNamed B.named, atoms_spec (ws := (wsU yX12_here cX12_here 2 (some .int))) B.pre, B.returns, B.notSynchronized, hK, hG⟩
  obtain ⟨hx, hb, -, hown, hts, hr, hlocks, -, -⟩ := id C
  have hS : va_S (AW G) s.heap s.heap [] := va_S.rf
  have hl := lv_entry [.ref (G.2.2 172), .int v1] (n := 2) (Nat.le_of_ble_eq_true rfl)
  rw [lg_entry_eq]
  generalize (lg_sl [.ref (G.2.2 172), .int v1] ++ List.replicate (2 - (lg_sl [.ref (G.2.2 172), .int v1]).length) Slot.unset).toArray = ls at hl ⊢
  have hl : lv_has ls 2 [(0, .ref (G.2.2 172)), (1, .int v1)] := hl
  unfold fn_X12_here at h
  refine lv_aload_n hx hb dX12_here_0 rfl (lv_at hl 0 rfl) ?_
  refine ge_12_4 hx hb hts (inU inW_X12) hown hK hP k_172 (hts _ (List.mem_cons_of_mem _ lw_1438)) dX12_here_1 ?_
  refine lv_iload_n hx hb dX12_here_4 rfl (lv_at hl 1 rfl) ?_
  refine lv_iadd hx hb dX12_here_5 ?_
  refine lv_aload_n hx hb dX12_here_6 rfl (lv_at hl 0 rfl) ?_
  refine ge_12_5 hx hb hts (inU inW_X12) hown hK hP k_172 (hts _ (List.mem_cons_of_mem _ lw_1439)) dX12_here_7 ?_
  refine lv_icmp_ge (tgt := 27) hx hb dX12_here_10 (by decide) (fun c1 => ?_) (fun c1 => ?_)
  · rw [if_pos c1] at h
    refine lv_iconst (v := (-1)) hx hb dX12_here_27 (by decide) ?_
    exact x_iret hx hb hr hlocks hK hP hS h dX12_here_28
  · rw [if_neg c1] at h
    refine lv_aload_n hx hb dX12_here_13 rfl (lv_at hl 0 rfl) ?_
    refine ge_12_0 hx hb hts (inU inW_X12) hown hK hP k_172 (hts _ (List.mem_cons_of_mem _ lw_1434)) dX12_here_14 ?_
    refine lv_aload_n hx hb dX12_here_17 rfl (lv_at hl 0 rfl) ?_
    refine ge_12_4 hx hb hts (inU inW_X12) hown hK hP k_172 (hts _ (List.mem_cons_of_mem _ lw_1438)) dX12_here_18 ?_
    refine lv_iload_n hx hb dX12_here_21 rfl (lv_at hl 1 rfl) ?_
    refine lv_iadd hx hb dX12_here_22 ?_
    obtain ⟨g2, h⟩ := gd_s h
    refine xl_14 hx hb hK hP k_173 l_173 (ix_in g2) dX12_here_23 ?_
    refine lv_goto (tgt := 28) hx hb dX12_here_24 (by decide) ?_
    exact x_iret hx hb hr hlocks hK hP hS h dX12_here_28
def fn_X12_isLetter (v0 : Int32) (z : St) : Option (Int32 × St) := (if v0 < 97 then some (0, z) else (if 122 < v0 then some (0, z) else some (1, z)))
set_option maxHeartbeats 4000000 in
set_option maxRecDepth 100000 in
theorem m_X12_isLetter {l : Launch} {G : wG} (hG : Ok G) {v0 : Int32} {z : St} {Rz : Int32 × St}  (h : fn_X12_isLetter  v0 z = some Rz) : Met l yX12_isLetter (wsU yX12_isLetter cX12_isLetter 1 (some .boolean)) (rmd 1) (va_Pc [.int v0] (Pre G z)) (va_Qi (fun r u => (r, u) = Rz) (Pre G) (AW G)) 0 0 (AW G) := by
  refine Met.ofW (cc := cX12_isLetter) (maxL := 1) (ret := (some .boolean)) (by decide) rfl ?_
  intro p e s m args below meth c s₁ B hml hv
  obtain ⟨rfl, hP, hK⟩ := hv
  have C : CX p s m ([.int v0] : List Value).toArray meth c cX12_isLetter 1 (wsU yX12_isLetter cX12_isLetter 1 (some .boolean)) RX12 (some .boolean) G := ⟨B.exec, B.bytes, hml, findClass_of_methodNamed B.named, atoms_spec (ws := (wsU yX12_isLetter cX12_isLetter 1 (some .boolean))) B.pre, B.returns, B.notSynchronized, hK, hG⟩
  obtain ⟨hx, hb, -, hown, hts, hr, hlocks, -, -⟩ := id C
  have hS : va_S (AW G) s.heap s.heap [] := va_S.rf
  have hl := lv_entry [.int v0] (n := 1) (Nat.le_of_ble_eq_true rfl)
  rw [lg_entry_eq]
  generalize (lg_sl [.int v0] ++ List.replicate (1 - (lg_sl [.int v0]).length) Slot.unset).toArray = ls at hl ⊢
  have hl : lv_has ls 1 [(0, .int v0)] := hl
  unfold fn_X12_isLetter at h
  refine lv_iload_n hx hb dX12_isLetter_0 rfl (lv_at hl 0 rfl) ?_
  refine lv_bipush (v := 97) hx hb dX12_isLetter_1 (by decide) ?_
  refine lv_icmp_lt (tgt := 16) hx hb dX12_isLetter_3 (by decide) (fun c1 => ?_) (fun c1 => ?_)
  · rw [if_pos c1] at h
    refine lv_iconst (v := 0) hx hb dX12_isLetter_16 (by decide) ?_
    exact x_zret hx hb hr hlocks hK hP hS rfl h dX12_isLetter_17
  · rw [if_neg c1] at h
    refine lv_iload_n hx hb dX12_isLetter_6 rfl (lv_at hl 0 rfl) ?_
    refine lv_bipush (v := 122) hx hb dX12_isLetter_7 (by decide) ?_
    refine lv_icmp_gt (tgt := 16) hx hb dX12_isLetter_9 (by decide) (fun c2 => ?_) (fun c2 => ?_)
    · rw [if_pos c2] at h
      refine lv_iconst (v := 0) hx hb dX12_isLetter_16 (by decide) ?_
      exact x_zret hx hb hr hlocks hK hP hS rfl h dX12_isLetter_17
    · rw [if_neg c2] at h
      refine lv_iconst (v := 1) hx hb dX12_isLetter_12 (by decide) ?_
      refine lv_goto (tgt := 17) hx hb dX12_isLetter_13 (by decide) ?_
      exact x_zret hx hb hr hlocks hK hP hS rfl h dX12_isLetter_17
def fn_X12_isDigit (v0 : Int32) (z : St) : Option (Int32 × St) := (if v0 < 48 then some (0, z) else (if 57 < v0 then some (0, z) else some (1, z)))
set_option maxHeartbeats 4000000 in
set_option maxRecDepth 100000 in
theorem m_X12_isDigit {l : Launch} {G : wG} (hG : Ok G) {v0 : Int32} {z : St} {Rz : Int32 × St}  (h : fn_X12_isDigit  v0 z = some Rz) : Met l yX12_isDigit (wsU yX12_isDigit cX12_isDigit 1 (some .boolean)) (rmd 1) (va_Pc [.int v0] (Pre G z)) (va_Qi (fun r u => (r, u) = Rz) (Pre G) (AW G)) 0 0 (AW G) := by
  refine Met.ofW (cc := cX12_isDigit) (maxL := 1) (ret := (some .boolean)) (by decide) rfl ?_
  intro p e s m args below meth c s₁ B hml hv
  obtain ⟨rfl, hP, hK⟩ := hv
  have C : CX p s m ([.int v0] : List Value).toArray meth c cX12_isDigit 1 (wsU yX12_isDigit cX12_isDigit 1 (some .boolean)) RX12 (some .boolean) G := ⟨B.exec, B.bytes, hml, findClass_of_methodNamed B.named, atoms_spec (ws := (wsU yX12_isDigit cX12_isDigit 1 (some .boolean))) B.pre, B.returns, B.notSynchronized, hK, hG⟩
  obtain ⟨hx, hb, -, hown, hts, hr, hlocks, -, -⟩ := id C
  have hS : va_S (AW G) s.heap s.heap [] := va_S.rf
  have hl := lv_entry [.int v0] (n := 1) (Nat.le_of_ble_eq_true rfl)
  rw [lg_entry_eq]
  generalize (lg_sl [.int v0] ++ List.replicate (1 - (lg_sl [.int v0]).length) Slot.unset).toArray = ls at hl ⊢
  have hl : lv_has ls 1 [(0, .int v0)] := hl
  unfold fn_X12_isDigit at h
  refine lv_iload_n hx hb dX12_isDigit_0 rfl (lv_at hl 0 rfl) ?_
  refine lv_bipush (v := 48) hx hb dX12_isDigit_1 (by decide) ?_
  refine lv_icmp_lt (tgt := 16) hx hb dX12_isDigit_3 (by decide) (fun c1 => ?_) (fun c1 => ?_)
  · rw [if_pos c1] at h
    refine lv_iconst (v := 0) hx hb dX12_isDigit_16 (by decide) ?_
    exact x_zret hx hb hr hlocks hK hP hS rfl h dX12_isDigit_17
  · rw [if_neg c1] at h
    refine lv_iload_n hx hb dX12_isDigit_6 rfl (lv_at hl 0 rfl) ?_
    refine lv_bipush (v := 57) hx hb dX12_isDigit_7 (by decide) ?_
    refine lv_icmp_gt (tgt := 16) hx hb dX12_isDigit_9 (by decide) (fun c2 => ?_) (fun c2 => ?_)
    · rw [if_pos c2] at h
      refine lv_iconst (v := 0) hx hb dX12_isDigit_16 (by decide) ?_
      exact x_zret hx hb hr hlocks hK hP hS rfl h dX12_isDigit_17
    · rw [if_neg c2] at h
      refine lv_iconst (v := 1) hx hb dX12_isDigit_12 (by decide) ?_
      refine lv_goto (tgt := 17) hx hb dX12_isDigit_13 (by decide) ?_
      exact x_zret hx hb hr hlocks hK hP hS rfl h dX12_isDigit_17
def fn_X12_isSign (v0 : Int32) (z : St) : Option (Int32 × St) := (if v0 = 59 then some (1, z) else (if v0 = 40 then some (1, z) else (if v0 = 41 then some (1, z) else (if v0 = 60 then some (1, z) else (if v0 = 62 then some (1, z) else (if v0 = 61 then some (1, z) else (if v0 = 43 then some (1, z) else (if v0 = 45 then some (1, z) else (if v0 = 42 then some (1, z) else (if v0 = 47 then some (1, z) else (if v0 = 37 then some (1, z) else some (0, z))))))))))))
set_option maxHeartbeats 4000000 in
set_option maxRecDepth 100000 in
theorem m_X12_isSign {l : Launch} {G : wG} (hG : Ok G) {v0 : Int32} {z : St} {Rz : Int32 × St}  (h : fn_X12_isSign  v0 z = some Rz) : Met l yX12_isSign (wsU yX12_isSign cX12_isSign 1 (some .boolean)) (rmd 1) (va_Pc [.int v0] (Pre G z)) (va_Qi (fun r u => (r, u) = Rz) (Pre G) (AW G)) 0 0 (AW G) := by
  refine Met.ofW (cc := cX12_isSign) (maxL := 1) (ret := (some .boolean)) (by decide) rfl ?_
  intro p e s m args below meth c s₁ B hml hv
  obtain ⟨rfl, hP, hK⟩ := hv
  have C : CX p s m ([.int v0] : List Value).toArray meth c cX12_isSign 1 (wsU yX12_isSign cX12_isSign 1 (some .boolean)) RX12 (some .boolean) G := ⟨B.exec, B.bytes, hml, findClass_of_methodNamed B.named, atoms_spec (ws := (wsU yX12_isSign cX12_isSign 1 (some .boolean))) B.pre, B.returns, B.notSynchronized, hK, hG⟩
  obtain ⟨hx, hb, -, hown, hts, hr, hlocks, -, -⟩ := id C
  have hS : va_S (AW G) s.heap s.heap [] := va_S.rf
  have hl := lv_entry [.int v0] (n := 1) (Nat.le_of_ble_eq_true rfl)
  rw [lg_entry_eq]
  generalize (lg_sl [.int v0] ++ List.replicate (1 - (lg_sl [.int v0]).length) Slot.unset).toArray = ls at hl ⊢
  have hl : lv_has ls 1 [(0, .int v0)] := hl
  unfold fn_X12_isSign at h
  refine lv_iload_n hx hb dX12_isSign_0 rfl (lv_at hl 0 rfl) ?_
  refine lv_bipush (v := 59) hx hb dX12_isSign_1 (by decide) ?_
  refine lv_icmp_eq (tgt := 66) hx hb dX12_isSign_3 (by decide) (fun c1 => ?_) (fun c1 => ?_)
  · rw [if_pos c1] at h
    refine lv_iconst (v := 1) hx hb dX12_isSign_66 (by decide) ?_
    refine lv_goto (tgt := 71) hx hb dX12_isSign_67 (by decide) ?_
    exact x_zret hx hb hr hlocks hK hP hS rfl h dX12_isSign_71
  · rw [if_neg c1] at h
    refine lv_iload_n hx hb dX12_isSign_6 rfl (lv_at hl 0 rfl) ?_
    refine lv_bipush (v := 40) hx hb dX12_isSign_7 (by decide) ?_
    refine lv_icmp_eq (tgt := 66) hx hb dX12_isSign_9 (by decide) (fun c2 => ?_) (fun c2 => ?_)
    · rw [if_pos c2] at h
      refine lv_iconst (v := 1) hx hb dX12_isSign_66 (by decide) ?_
      refine lv_goto (tgt := 71) hx hb dX12_isSign_67 (by decide) ?_
      exact x_zret hx hb hr hlocks hK hP hS rfl h dX12_isSign_71
    · rw [if_neg c2] at h
      refine lv_iload_n hx hb dX12_isSign_12 rfl (lv_at hl 0 rfl) ?_
      refine lv_bipush (v := 41) hx hb dX12_isSign_13 (by decide) ?_
      refine lv_icmp_eq (tgt := 66) hx hb dX12_isSign_15 (by decide) (fun c3 => ?_) (fun c3 => ?_)
      · rw [if_pos c3] at h
        refine lv_iconst (v := 1) hx hb dX12_isSign_66 (by decide) ?_
        refine lv_goto (tgt := 71) hx hb dX12_isSign_67 (by decide) ?_
        exact x_zret hx hb hr hlocks hK hP hS rfl h dX12_isSign_71
      · rw [if_neg c3] at h
        refine lv_iload_n hx hb dX12_isSign_18 rfl (lv_at hl 0 rfl) ?_
        refine lv_bipush (v := 60) hx hb dX12_isSign_19 (by decide) ?_
        refine lv_icmp_eq (tgt := 66) hx hb dX12_isSign_21 (by decide) (fun c4 => ?_) (fun c4 => ?_)
        · rw [if_pos c4] at h
          refine lv_iconst (v := 1) hx hb dX12_isSign_66 (by decide) ?_
          refine lv_goto (tgt := 71) hx hb dX12_isSign_67 (by decide) ?_
          exact x_zret hx hb hr hlocks hK hP hS rfl h dX12_isSign_71
        · rw [if_neg c4] at h
          refine lv_iload_n hx hb dX12_isSign_24 rfl (lv_at hl 0 rfl) ?_
          refine lv_bipush (v := 62) hx hb dX12_isSign_25 (by decide) ?_
          refine lv_icmp_eq (tgt := 66) hx hb dX12_isSign_27 (by decide) (fun c5 => ?_) (fun c5 => ?_)
          · rw [if_pos c5] at h
            refine lv_iconst (v := 1) hx hb dX12_isSign_66 (by decide) ?_
            refine lv_goto (tgt := 71) hx hb dX12_isSign_67 (by decide) ?_
            exact x_zret hx hb hr hlocks hK hP hS rfl h dX12_isSign_71
          · rw [if_neg c5] at h
            refine lv_iload_n hx hb dX12_isSign_30 rfl (lv_at hl 0 rfl) ?_
            refine lv_bipush (v := 61) hx hb dX12_isSign_31 (by decide) ?_
            refine lv_icmp_eq (tgt := 66) hx hb dX12_isSign_33 (by decide) (fun c6 => ?_) (fun c6 => ?_)
            · rw [if_pos c6] at h
              refine lv_iconst (v := 1) hx hb dX12_isSign_66 (by decide) ?_
              refine lv_goto (tgt := 71) hx hb dX12_isSign_67 (by decide) ?_
              exact x_zret hx hb hr hlocks hK hP hS rfl h dX12_isSign_71
            · rw [if_neg c6] at h
              refine lv_iload_n hx hb dX12_isSign_36 rfl (lv_at hl 0 rfl) ?_
              refine lv_bipush (v := 43) hx hb dX12_isSign_37 (by decide) ?_
              refine lv_icmp_eq (tgt := 66) hx hb dX12_isSign_39 (by decide) (fun c7 => ?_) (fun c7 => ?_)
              · rw [if_pos c7] at h
                refine lv_iconst (v := 1) hx hb dX12_isSign_66 (by decide) ?_
                refine lv_goto (tgt := 71) hx hb dX12_isSign_67 (by decide) ?_
                exact x_zret hx hb hr hlocks hK hP hS rfl h dX12_isSign_71
              · rw [if_neg c7] at h
                refine lv_iload_n hx hb dX12_isSign_42 rfl (lv_at hl 0 rfl) ?_
                refine lv_bipush (v := 45) hx hb dX12_isSign_43 (by decide) ?_
                refine lv_icmp_eq (tgt := 66) hx hb dX12_isSign_45 (by decide) (fun c8 => ?_) (fun c8 => ?_)
                · rw [if_pos c8] at h
                  refine lv_iconst (v := 1) hx hb dX12_isSign_66 (by decide) ?_
                  refine lv_goto (tgt := 71) hx hb dX12_isSign_67 (by decide) ?_
                  exact x_zret hx hb hr hlocks hK hP hS rfl h dX12_isSign_71
                · rw [if_neg c8] at h
                  refine lv_iload_n hx hb dX12_isSign_48 rfl (lv_at hl 0 rfl) ?_
                  refine lv_bipush (v := 42) hx hb dX12_isSign_49 (by decide) ?_
                  refine lv_icmp_eq (tgt := 66) hx hb dX12_isSign_51 (by decide) (fun c9 => ?_) (fun c9 => ?_)
                  · rw [if_pos c9] at h
                    refine lv_iconst (v := 1) hx hb dX12_isSign_66 (by decide) ?_
                    refine lv_goto (tgt := 71) hx hb dX12_isSign_67 (by decide) ?_
                    exact x_zret hx hb hr hlocks hK hP hS rfl h dX12_isSign_71
                  · rw [if_neg c9] at h
                    refine lv_iload_n hx hb dX12_isSign_54 rfl (lv_at hl 0 rfl) ?_
                    refine lv_bipush (v := 47) hx hb dX12_isSign_55 (by decide) ?_
                    refine lv_icmp_eq (tgt := 66) hx hb dX12_isSign_57 (by decide) (fun c10 => ?_) (fun c10 => ?_)
                    · rw [if_pos c10] at h
                      refine lv_iconst (v := 1) hx hb dX12_isSign_66 (by decide) ?_
                      refine lv_goto (tgt := 71) hx hb dX12_isSign_67 (by decide) ?_
                      exact x_zret hx hb hr hlocks hK hP hS rfl h dX12_isSign_71
                    · rw [if_neg c10] at h
                      refine lv_iload_n hx hb dX12_isSign_60 rfl (lv_at hl 0 rfl) ?_
                      refine lv_bipush (v := 37) hx hb dX12_isSign_61 (by decide) ?_
                      refine lv_icmp_ne (tgt := 70) hx hb dX12_isSign_63 (by decide) (fun c11 => ?_) (fun c11 => ?_)
                      · rw [if_neg c11] at h
                        refine lv_iconst (v := 0) hx hb dX12_isSign_70 (by decide) ?_
                        exact x_zret hx hb hr hlocks hK hP hS rfl h dX12_isSign_71
                      · rw [if_pos c11] at h
                        refine lv_iconst (v := 1) hx hb dX12_isSign_66 (by decide) ?_
                        refine lv_goto (tgt := 71) hx hb dX12_isSign_67 (by decide) ?_
                        exact x_zret hx hb hr hlocks hK hP hS rfl h dX12_isSign_71
def fn_X12_token_20 (k0 : St → Option (St))  (z : St) : Option (St) := nm (sI z 172 4 ((z.1 172 4) + 1)) (fun z1 => k0  z1)
set_option maxHeartbeats 4000000 in
set_option maxRecDepth 100000 in
theorem pf_X12_token_20 {p : Program} {l : Launch} {e : Env} {s : State} {m : MethodId} {args : Array Value} {below : List Frame} {meth : Method} {c : Code} {G : wG} (C : CX p s m args meth c cX12_token 3 (wsU yX12_token cX12_token 3 none) RX12 none G) {Rz : St} {k0 : St → Option (St)} (hk_0 : ∀  (z : St)  (H : Heap) (locs : List Loc) (ls : Array Slot), WP G z H → va_S (AW G) s.heap H locs → lv_has ls 3 [(0, .ref (G.2.2 172))] → k0  z = some Rz → W p l e (rmd 2) s m args below meth c H locs 0 0 (QV below args s G Rz) (F0 m 0 ls []))  (z : St)  {H : Heap} {locs : List Loc} {ls : Array Slot} (hP : WP G z H) (hS : va_S (AW G) s.heap H locs) (hl : lv_has ls 3 [(0, .ref (G.2.2 172))]) (h : fn_X12_token_20  k0  z = some Rz) : W p l e (rmd 2) s m args below meth c H locs 0 0 (QV below args s G Rz) (F0 m 20 ls []) := by
  obtain ⟨hx, hb, hml, hown, hts, hr, hlocks, hK, hG⟩ := id C
  unfold fn_X12_token_20 at h
  refine lv_aload_n hx hb dX12_token_20 rfl (lv_at hl 0 rfl) ?_
  refine lv_dup hx hb dX12_token_21 rfl ?_
  refine ge_12_4 hx hb hts (inU inW_X12) hown hK hP k_172 (hts _ (List.mem_cons_of_mem _ lw_1438)) dX12_token_22 ?_
  refine lv_iconst (v := 1) hx hb dX12_token_25 (by decide) ?_
  refine lv_iadd hx hb dX12_token_26 ?_
  obtain ⟨z1, e_z1, h⟩ := nm_s h
  refine pu_12_4 hx hb hts (inU inW_X12) hown hK hG hP hS k_172 (hts _ (List.mem_cons_of_mem _ lw_1438)) dX12_token_27 (fun H locs hP hS => ?_)
  rw [← e_z1] at hP
  refine lv_goto (tgt := 0) hx hb dX12_token_30 (by decide) ?_
  exact hk_0  z1  _ _ _ hP hS (lv_sub hl [0] rfl) h
def fn_X12_token_232 (v2 : Int32) (z : St) : Option (St) := (if (z.1 172 6) = 3 then some z else nm (sI z 172 4 ((z.1 172 4) + v2)) (fun z2 => some z2))
set_option maxHeartbeats 4000000 in
set_option maxRecDepth 100000 in
theorem pf_X12_token_232 {p : Program} {l : Launch} {e : Env} {s : State} {m : MethodId} {args : Array Value} {below : List Frame} {meth : Method} {c : Code} {G : wG} (C : CX p s m args meth c cX12_token 3 (wsU yX12_token cX12_token 3 none) RX12 none G) {Rz : St} (v2 : Int32) (z : St)  {H : Heap} {locs : List Loc} {ls : Array Slot} (hP : WP G z H) (hS : va_S (AW G) s.heap H locs) (hl : lv_has ls 3 [(0, .ref (G.2.2 172)), (2, .int v2)]) (h : fn_X12_token_232   v2 z = some Rz) : W p l e (rmd 2) s m args below meth c H locs 0 0 (QV below args s G Rz) (F0 m 232 ls []) := by
  obtain ⟨hx, hb, hml, hown, hts, hr, hlocks, hK, hG⟩ := id C
  unfold fn_X12_token_232 at h
  refine lv_aload_n hx hb dX12_token_232 rfl (lv_at hl 0 rfl) ?_
  refine ge_12_6 hx hb hts (inU inW_X12) hown hK hP k_172 (hts _ (List.mem_cons_of_mem _ lw_1440)) dX12_token_233 ?_
  refine lv_iconst (v := 3) hx hb dX12_token_236 (by decide) ?_
  refine lv_icmp_eq (tgt := 250) hx hb dX12_token_237 (by decide) (fun c1 => ?_) (fun c1 => ?_)
  · rw [if_pos c1] at h
    exact x_vret hx hb hr hlocks hK hP hS h dX12_token_250
  · rw [if_neg c1] at h
    refine lv_aload_n hx hb dX12_token_240 rfl (lv_at hl 0 rfl) ?_
    refine lv_dup hx hb dX12_token_241 rfl ?_
    refine ge_12_4 hx hb hts (inU inW_X12) hown hK hP k_172 (hts _ (List.mem_cons_of_mem _ lw_1438)) dX12_token_242 ?_
    refine lv_iload_n hx hb dX12_token_245 rfl (lv_at hl 1 rfl) ?_
    refine lv_iadd hx hb dX12_token_246 ?_
    obtain ⟨z2, e_z2, h⟩ := nm_s h
    refine pu_12_4 hx hb hts (inU inW_X12) hown hK hG hP hS k_172 (hts _ (List.mem_cons_of_mem _ lw_1438)) dX12_token_247 (fun H locs hP hS => ?_)
    rw [← e_z2] at hP
    exact x_vret hx hb hr hlocks hK hP hS h dX12_token_250
def fn_X12_token_113 (k78 : Int32 → St → Option (St)) (v2 : Int32) (z : St) : Option (St) := k78 (v2 + 1) z
set_option maxHeartbeats 4000000 in
set_option maxRecDepth 100000 in
theorem pf_X12_token_113 {p : Program} {l : Launch} {e : Env} {s : State} {m : MethodId} {args : Array Value} {below : List Frame} {meth : Method} {c : Code} {G : wG} (C : CX p s m args meth c cX12_token 3 (wsU yX12_token cX12_token 3 none) RX12 none G) {Rz : St} {k78 : Int32 → St → Option (St)} (hk_78 : ∀ (v2 : Int32) (z : St)  (H : Heap) (locs : List Loc) (ls : Array Slot), WP G z H → va_S (AW G) s.heap H locs → lv_has ls 3 [(0, .ref (G.2.2 172)), (2, .int v2)] → k78 v2 z = some Rz → W p l e (rmd 2) s m args below meth c H locs 0 0 (QV below args s G Rz) (F0 m 78 ls [])) (v2 : Int32) (z : St)  {H : Heap} {locs : List Loc} {ls : Array Slot} (hP : WP G z H) (hS : va_S (AW G) s.heap H locs) (hl : lv_has ls 3 [(0, .ref (G.2.2 172)), (2, .int v2)]) (h : fn_X12_token_113  k78 v2 z = some Rz) : W p l e (rmd 2) s m args below meth c H locs 0 0 (QV below args s G Rz) (F0 m 113 ls []) := by
  obtain ⟨hx, hb, hml, hown, hts, hr, hlocks, hK, hG⟩ := id C
  unfold fn_X12_token_113 at h
  refine lv_iinc (v := (v2 + 1)) (lv' := [(2, .int (v2 + 1)), (0, .ref (G.2.2 172))]) hx hb dX12_token_113 hl (k := 1) rfl rfl (by decide) rfl (fun ls hl => ?_)
  refine lv_goto (tgt := 78) hx hb dX12_token_116 (by decide) ?_
  exact hk_78 (v2 + 1) z  _ _ _ hP hS (lv_sub hl [1, 0] rfl) h
def fn_X12_token_131 (v2 : Int32) (tv1 : Int32) (z : St) : Option (St) := nm (sI z 172 6 tv1) (fun z1 => fn_X12_token_232   v2 z1)
set_option maxHeartbeats 4000000 in
set_option maxRecDepth 100000 in
theorem pf_X12_token_131 {p : Program} {l : Launch} {e : Env} {s : State} {m : MethodId} {args : Array Value} {below : List Frame} {meth : Method} {c : Code} {G : wG} (C : CX p s m args meth c cX12_token 3 (wsU yX12_token cX12_token 3 none) RX12 none G) {Rz : St} (v2 : Int32) (tv1 : Int32) (z : St)  {H : Heap} {locs : List Loc} {ls : Array Slot} (hP : WP G z H) (hS : va_S (AW G) s.heap H locs) (hl : lv_has ls 3 [(0, .ref (G.2.2 172)), (2, .int v2)]) (h : fn_X12_token_131   v2 tv1 z = some Rz) : W p l e (rmd 2) s m args below meth c H locs 0 0 (QV below args s G Rz) (F0 m 131 ls [.int tv1, .ref (G.2.2 172)]) := by
  obtain ⟨hx, hb, hml, hown, hts, hr, hlocks, hK, hG⟩ := id C
  unfold fn_X12_token_131 at h
  obtain ⟨z1, e_z1, h⟩ := nm_s h
  refine pu_12_6 hx hb hts (inU inW_X12) hown hK hG hP hS k_172 (hts _ (List.mem_cons_of_mem _ lw_1440)) dX12_token_131 (fun H locs hP hS => ?_)
  rw [← e_z1] at hP
  refine lv_goto (tgt := 232) hx hb dX12_token_134 (by decide) ?_
  exact pf_X12_token_232 C   v2 z1  hP hS (lv_sub hl [0, 1] rfl) h
def fn_X12_token_78 : Nat → Int32 → St → Option (St)
  | 0, _, _ => none
  | n + 1, v2, z => bd (fn_X12_here  v2 z) (fun r2 z3 => bd (fn_X12_isLetter  r2 z3) (fun r5 z6 => (if r5 = 0 then (if v2 ≤ 8 then fn_X12_token_131   v2 1 z6 else fn_X12_token_131   v2 3 z6) else (if 8 ≤ v2 then fn_X12_token_113  (fn_X12_token_78   n) v2 z6 else bd (fn_X12_here  v2 z6) (fun r11 z12 => nm (sJ z12 172 9 (((z6.2 172 9) <<< (Int32.toInt64 8 &&& 63)) ||| (Int32.toInt64 r11))) (fun z13 => fn_X12_token_113  (fn_X12_token_78   n) v2 z13))))))
set_option maxHeartbeats 4000000 in
set_option maxRecDepth 100000 in
theorem pf_X12_token_78 {p : Program} {l : Launch} {e : Env} {s : State} {m : MethodId} {args : Array Value} {below : List Frame} {meth : Method} {c : Code} {G : wG} (C : CX p s m args meth c cX12_token 3 (wsU yX12_token cX12_token 3 none) RX12 none G) {Rz : St} : ∀ (n : Nat) (v2 : Int32) (z : St)  (H : Heap) (locs : List Loc) (ls : Array Slot), WP G z H → va_S (AW G) s.heap H locs → lv_has ls 3 [(0, .ref (G.2.2 172)), (2, .int v2)] → fn_X12_token_78   n v2 z = some Rz → W p l e (rmd 2) s m args below meth c H locs 0 0 (QV below args s G Rz) (F0 m 78 ls []) := by
  obtain ⟨hx, hb, hml, hown, hts, hr, hlocks, hK, hG⟩ := id C
  intro n
  induction n with
  | zero => intro v2 z  H locs ls hP hS hl h; cases h
  | succ n ih =>
    intro v2 z  H locs ls hP hS hl h
    rw [fn_X12_token_78] at h
    refine lv_aload_n hx hb dX12_token_78 rfl (lv_at hl 0 rfl) ?_
    refine lv_iload_n hx hb dX12_token_79 rfl (lv_at hl 1 rfl) ?_
    obtain ⟨r2, z3, h1, h⟩ := bd_s h
    refine x_Vi (Rz := (r2, z3)) (As := [.int v2]) (rest := []) ⟨hx, hb, hml, hown, hts⟩ hK hP hS (kd_lt k_172 (by decide)) (cell_12 k_172) rfl (m_X12_here hG   h1) (cwV 1 hts (gV lw_1684 lw_1686 lw_47 lw_125 lw_1687) rfl rfl rfl (by decide +kernel) (rmd_ok (by decide) (by decide))) rfl hl.1 rfl (Nat.le_of_ble_eq_true rfl) dX12_token_80 ⟨Nat.le_refl _, Nat.le_refl _⟩ (fun H locs hP hS => ?_)
    obtain ⟨r5, z6, h4, h⟩ := bd_s h
    refine x_Si (Rz := (r5, z6)) (As := [.int r2]) (rest := []) ⟨hx, hb, hml, hown, hts⟩ hK hP hS (m_X12_isLetter hG   h4) (va_cwS 1 hts (gS lw_1688 lw_1689 lw_125 lw_1690) rfl rfl rfl (by decide +kernel) (rmd_ok (by decide) (by decide))) rfl hl.1 rfl (Nat.le_of_ble_eq_true rfl) dX12_token_83 ⟨Nat.le_refl _, Nat.le_refl _⟩ (fun H locs hP hS => ?_)
    refine lv_if_eq (tgt := 119) hx hb dX12_token_86 (by decide) (fun c7 => ?_) (fun c7 => ?_)
    · rw [if_pos c7] at h
      refine lv_aload_n hx hb dX12_token_119 rfl (lv_at hl 0 rfl) ?_
      refine lv_iload_n hx hb dX12_token_120 rfl (lv_at hl 1 rfl) ?_
      refine lv_bipush (v := 8) hx hb dX12_token_121 (by decide) ?_
      refine lv_icmp_le (tgt := 130) hx hb dX12_token_123 (by decide) (fun c8 => ?_) (fun c8 => ?_)
      · rw [if_pos c8] at h
        refine lv_iconst (v := 1) hx hb dX12_token_130 (by decide) ?_
        exact pf_X12_token_131 C   v2 1 z6  hP hS (lv_sub hl [0, 1] rfl) h
      · rw [if_neg c8] at h
        refine lv_iconst (v := 3) hx hb dX12_token_126 (by decide) ?_
        refine lv_goto (tgt := 131) hx hb dX12_token_127 (by decide) ?_
        exact pf_X12_token_131 C   v2 3 z6  hP hS (lv_sub hl [0, 1] rfl) h
    · rw [if_neg c7] at h
      refine lv_iload_n hx hb dX12_token_89 rfl (lv_at hl 1 rfl) ?_
      refine lv_bipush (v := 8) hx hb dX12_token_90 (by decide) ?_
      refine lv_icmp_ge (tgt := 113) hx hb dX12_token_92 (by decide) (fun c9 => ?_) (fun c9 => ?_)
      · rw [if_pos c9] at h
        exact pf_X12_token_113 C  ih v2 z6  hP hS (lv_sub hl [0, 1] rfl) h
      · rw [if_neg c9] at h
        refine lv_aload_n hx hb dX12_token_95 rfl (lv_at hl 0 rfl) ?_
        refine lv_aload_n hx hb dX12_token_96 rfl (lv_at hl 0 rfl) ?_
        refine ge_12_9 hx hb hts (inU inW_X12) hown hK hP k_172 (hts _ (List.mem_cons_of_mem _ lw_1443)) dX12_token_97 ?_
        refine lv_bipush (v := 8) hx hb dX12_token_100 (by decide) ?_
        refine lv_lshl hx hb dX12_token_102 rfl ?_
        refine lv_aload_n hx hb dX12_token_103 rfl (lv_at hl 0 rfl) ?_
        refine lv_iload_n hx hb dX12_token_104 rfl (lv_at hl 1 rfl) ?_
        obtain ⟨r11, z12, h10, h⟩ := bd_s h
        refine x_Vi (Rz := (r11, z12)) (As := [.int v2]) (rest := [.long ((z6.2 172 9) <<< (Int32.toInt64 8 &&& 63)), .ref (G.2.2 172)]) ⟨hx, hb, hml, hown, hts⟩ hK hP hS (kd_lt k_172 (by decide)) (cell_12 k_172) rfl (m_X12_here hG   h10) (cwV 1 hts (gV lw_1684 lw_1686 lw_47 lw_125 lw_1687) rfl rfl rfl (by decide +kernel) (rmd_ok (by decide) (by decide))) rfl hl.1 rfl (Nat.le_of_ble_eq_true rfl) dX12_token_105 ⟨Nat.le_refl _, Nat.le_refl _⟩ (fun H locs hP hS => ?_)
        refine lv_i2l hx hb dX12_token_108 rfl ?_
        refine lv_lor hx hb dX12_token_109 ?_
        obtain ⟨z13, e_z13, h⟩ := nm_s h
        refine pu_12_9 hx hb hts (inU inW_X12) hown hK hG hP hS k_172 (hts _ (List.mem_cons_of_mem _ lw_1443)) dX12_token_110 (fun H locs hP hS => ?_)
        rw [← e_z13] at hP
        exact pf_X12_token_113 C  ih v2 z13  hP hS (lv_sub hl [0, 1] rfl) h
def fn_X12_token_180 (k144 : Int32 → St → Option (St)) (v2 : Int32) (z : St) : Option (St) := k144 (v2 + 1) z
set_option maxHeartbeats 4000000 in
set_option maxRecDepth 100000 in
theorem pf_X12_token_180 {p : Program} {l : Launch} {e : Env} {s : State} {m : MethodId} {args : Array Value} {below : List Frame} {meth : Method} {c : Code} {G : wG} (C : CX p s m args meth c cX12_token 3 (wsU yX12_token cX12_token 3 none) RX12 none G) {Rz : St} {k144 : Int32 → St → Option (St)} (hk_144 : ∀ (v2 : Int32) (z : St)  (H : Heap) (locs : List Loc) (ls : Array Slot), WP G z H → va_S (AW G) s.heap H locs → lv_has ls 3 [(0, .ref (G.2.2 172)), (2, .int v2)] → k144 v2 z = some Rz → W p l e (rmd 2) s m args below meth c H locs 0 0 (QV below args s G Rz) (F0 m 144 ls [])) (v2 : Int32) (z : St)  {H : Heap} {locs : List Loc} {ls : Array Slot} (hP : WP G z H) (hS : va_S (AW G) s.heap H locs) (hl : lv_has ls 3 [(0, .ref (G.2.2 172)), (2, .int v2)]) (h : fn_X12_token_180  k144 v2 z = some Rz) : W p l e (rmd 2) s m args below meth c H locs 0 0 (QV below args s G Rz) (F0 m 180 ls []) := by
  obtain ⟨hx, hb, hml, hown, hts, hr, hlocks, hK, hG⟩ := id C
  unfold fn_X12_token_180 at h
  refine lv_iinc (v := (v2 + 1)) (lv' := [(2, .int (v2 + 1)), (0, .ref (G.2.2 172))]) hx hb dX12_token_180 hl (k := 1) rfl rfl (by decide) rfl (fun ls hl => ?_)
  refine lv_goto (tgt := 144) hx hb dX12_token_183 (by decide) ?_
  exact hk_144 (v2 + 1) z  _ _ _ hP hS (lv_sub hl [1, 0] rfl) h
def fn_X12_token_208 (v2 : Int32) (tv1 : Int32) (z : St) : Option (St) := nm (sI z 172 6 tv1) (fun z1 => fn_X12_token_232   v2 z1)
set_option maxHeartbeats 4000000 in
set_option maxRecDepth 100000 in
theorem pf_X12_token_208 {p : Program} {l : Launch} {e : Env} {s : State} {m : MethodId} {args : Array Value} {below : List Frame} {meth : Method} {c : Code} {G : wG} (C : CX p s m args meth c cX12_token 3 (wsU yX12_token cX12_token 3 none) RX12 none G) {Rz : St} (v2 : Int32) (tv1 : Int32) (z : St)  {H : Heap} {locs : List Loc} {ls : Array Slot} (hP : WP G z H) (hS : va_S (AW G) s.heap H locs) (hl : lv_has ls 3 [(0, .ref (G.2.2 172)), (2, .int v2)]) (h : fn_X12_token_208   v2 tv1 z = some Rz) : W p l e (rmd 2) s m args below meth c H locs 0 0 (QV below args s G Rz) (F0 m 208 ls [.int tv1, .ref (G.2.2 172)]) := by
  obtain ⟨hx, hb, hml, hown, hts, hr, hlocks, hK, hG⟩ := id C
  unfold fn_X12_token_208 at h
  obtain ⟨z1, e_z1, h⟩ := nm_s h
  refine pu_12_6 hx hb hts (inU inW_X12) hown hK hG hP hS k_172 (hts _ (List.mem_cons_of_mem _ lw_1440)) dX12_token_208 (fun H locs hP hS => ?_)
  rw [← e_z1] at hP
  refine lv_goto (tgt := 232) hx hb dX12_token_211 (by decide) ?_
  exact pf_X12_token_232 C   v2 z1  hP hS (lv_sub hl [0, 1] rfl) h
def fn_X12_token_203 (v2 : Int32) (z : St) : Option (St) := fn_X12_token_208   v2 3 z
set_option maxHeartbeats 4000000 in
set_option maxRecDepth 100000 in
theorem pf_X12_token_203 {p : Program} {l : Launch} {e : Env} {s : State} {m : MethodId} {args : Array Value} {below : List Frame} {meth : Method} {c : Code} {G : wG} (C : CX p s m args meth c cX12_token 3 (wsU yX12_token cX12_token 3 none) RX12 none G) {Rz : St} (v2 : Int32) (z : St)  {H : Heap} {locs : List Loc} {ls : Array Slot} (hP : WP G z H) (hS : va_S (AW G) s.heap H locs) (hl : lv_has ls 3 [(0, .ref (G.2.2 172)), (2, .int v2)]) (h : fn_X12_token_203   v2 z = some Rz) : W p l e (rmd 2) s m args below meth c H locs 0 0 (QV below args s G Rz) (F0 m 203 ls [.ref (G.2.2 172)]) := by
  obtain ⟨hx, hb, hml, hown, hts, hr, hlocks, hK, hG⟩ := id C
  unfold fn_X12_token_203 at h
  refine lv_iconst (v := 3) hx hb dX12_token_203 (by decide) ?_
  refine lv_goto (tgt := 208) hx hb dX12_token_204 (by decide) ?_
  exact pf_X12_token_208 C   v2 3 z  hP hS (lv_sub hl [0, 1] rfl) h
def fn_X12_token_144 : Nat → Int32 → St → Option (St)
  | 0, _, _ => none
  | n + 1, v2, z => bd (fn_X12_here  v2 z) (fun r2 z3 => bd (fn_X12_isDigit  r2 z3) (fun r5 z6 => (if r5 = 0 then (if 4 < v2 then fn_X12_token_203   v2 z6 else bd (fn_X12_here  v2 z6) (fun r10 z11 => bd (fn_X12_isLetter  r10 z11) (fun r13 z14 => (if r13 = 0 then fn_X12_token_208   v2 2 z14 else fn_X12_token_203   v2 z14)))) else (if 4 ≤ v2 then fn_X12_token_180  (fn_X12_token_144   n) v2 z6 else bd (fn_X12_here  v2 z6) (fun r18 z19 => nm (sI z19 172 8 (((10 * (z6.1 172 8)) + r18) - 48)) (fun z20 => fn_X12_token_180  (fn_X12_token_144   n) v2 z20))))))
set_option maxHeartbeats 4000000 in
set_option maxRecDepth 100000 in
theorem pf_X12_token_144 {p : Program} {l : Launch} {e : Env} {s : State} {m : MethodId} {args : Array Value} {below : List Frame} {meth : Method} {c : Code} {G : wG} (C : CX p s m args meth c cX12_token 3 (wsU yX12_token cX12_token 3 none) RX12 none G) {Rz : St} : ∀ (n : Nat) (v2 : Int32) (z : St)  (H : Heap) (locs : List Loc) (ls : Array Slot), WP G z H → va_S (AW G) s.heap H locs → lv_has ls 3 [(0, .ref (G.2.2 172)), (2, .int v2)] → fn_X12_token_144   n v2 z = some Rz → W p l e (rmd 2) s m args below meth c H locs 0 0 (QV below args s G Rz) (F0 m 144 ls []) := by
  obtain ⟨hx, hb, hml, hown, hts, hr, hlocks, hK, hG⟩ := id C
  intro n
  induction n with
  | zero => intro v2 z  H locs ls hP hS hl h; cases h
  | succ n ih =>
    intro v2 z  H locs ls hP hS hl h
    rw [fn_X12_token_144] at h
    refine lv_aload_n hx hb dX12_token_144 rfl (lv_at hl 0 rfl) ?_
    refine lv_iload_n hx hb dX12_token_145 rfl (lv_at hl 1 rfl) ?_
    obtain ⟨r2, z3, h1, h⟩ := bd_s h
    refine x_Vi (Rz := (r2, z3)) (As := [.int v2]) (rest := []) ⟨hx, hb, hml, hown, hts⟩ hK hP hS (kd_lt k_172 (by decide)) (cell_12 k_172) rfl (m_X12_here hG   h1) (cwV 1 hts (gV lw_1684 lw_1686 lw_47 lw_125 lw_1687) rfl rfl rfl (by decide +kernel) (rmd_ok (by decide) (by decide))) rfl hl.1 rfl (Nat.le_of_ble_eq_true rfl) dX12_token_146 ⟨Nat.le_refl _, Nat.le_refl _⟩ (fun H locs hP hS => ?_)
    obtain ⟨r5, z6, h4, h⟩ := bd_s h
    refine x_Si (Rz := (r5, z6)) (As := [.int r2]) (rest := []) ⟨hx, hb, hml, hown, hts⟩ hK hP hS (m_X12_isDigit hG   h4) (va_cwS 1 hts (gS lw_1691 lw_1692 lw_125 lw_1693) rfl rfl rfl (by decide +kernel) (rmd_ok (by decide) (by decide))) rfl hl.1 rfl (Nat.le_of_ble_eq_true rfl) dX12_token_149 ⟨Nat.le_refl _, Nat.le_refl _⟩ (fun H locs hP hS => ?_)
    refine lv_if_eq (tgt := 186) hx hb dX12_token_152 (by decide) (fun c7 => ?_) (fun c7 => ?_)
    · rw [if_pos c7] at h
      refine lv_aload_n hx hb dX12_token_186 rfl (lv_at hl 0 rfl) ?_
      refine lv_iload_n hx hb dX12_token_187 rfl (lv_at hl 1 rfl) ?_
      refine lv_iconst (v := 4) hx hb dX12_token_188 (by decide) ?_
      refine lv_icmp_gt (tgt := 203) hx hb dX12_token_189 (by decide) (fun c8 => ?_) (fun c8 => ?_)
      · rw [if_pos c8] at h
        exact pf_X12_token_203 C   v2 z6  hP hS (lv_sub hl [0, 1] rfl) h
      · rw [if_neg c8] at h
        refine lv_aload_n hx hb dX12_token_192 rfl (lv_at hl 0 rfl) ?_
        refine lv_iload_n hx hb dX12_token_193 rfl (lv_at hl 1 rfl) ?_
        obtain ⟨r10, z11, h9, h⟩ := bd_s h
        refine x_Vi (Rz := (r10, z11)) (As := [.int v2]) (rest := [.ref (G.2.2 172)]) ⟨hx, hb, hml, hown, hts⟩ hK hP hS (kd_lt k_172 (by decide)) (cell_12 k_172) rfl (m_X12_here hG   h9) (cwV 1 hts (gV lw_1684 lw_1686 lw_47 lw_125 lw_1687) rfl rfl rfl (by decide +kernel) (rmd_ok (by decide) (by decide))) rfl hl.1 rfl (Nat.le_of_ble_eq_true rfl) dX12_token_194 ⟨Nat.le_refl _, Nat.le_refl _⟩ (fun H locs hP hS => ?_)
        obtain ⟨r13, z14, h12, h⟩ := bd_s h
        refine x_Si (Rz := (r13, z14)) (As := [.int r10]) (rest := [.ref (G.2.2 172)]) ⟨hx, hb, hml, hown, hts⟩ hK hP hS (m_X12_isLetter hG   h12) (va_cwS 1 hts (gS lw_1688 lw_1689 lw_125 lw_1690) rfl rfl rfl (by decide +kernel) (rmd_ok (by decide) (by decide))) rfl hl.1 rfl (Nat.le_of_ble_eq_true rfl) dX12_token_197 ⟨Nat.le_refl _, Nat.le_refl _⟩ (fun H locs hP hS => ?_)
        refine lv_if_eq (tgt := 207) hx hb dX12_token_200 (by decide) (fun c15 => ?_) (fun c15 => ?_)
        · rw [if_pos c15] at h
          refine lv_iconst (v := 2) hx hb dX12_token_207 (by decide) ?_
          exact pf_X12_token_208 C   v2 2 z14  hP hS (lv_sub hl [0, 1] rfl) h
        · rw [if_neg c15] at h
          exact pf_X12_token_203 C   v2 z14  hP hS (lv_sub hl [0, 1] rfl) h
    · rw [if_neg c7] at h
      refine lv_iload_n hx hb dX12_token_155 rfl (lv_at hl 1 rfl) ?_
      refine lv_iconst (v := 4) hx hb dX12_token_156 (by decide) ?_
      refine lv_icmp_ge (tgt := 180) hx hb dX12_token_157 (by decide) (fun c16 => ?_) (fun c16 => ?_)
      · rw [if_pos c16] at h
        exact pf_X12_token_180 C  ih v2 z6  hP hS (lv_sub hl [0, 1] rfl) h
      · rw [if_neg c16] at h
        refine lv_aload_n hx hb dX12_token_160 rfl (lv_at hl 0 rfl) ?_
        refine lv_bipush (v := 10) hx hb dX12_token_161 (by decide) ?_
        refine lv_aload_n hx hb dX12_token_163 rfl (lv_at hl 0 rfl) ?_
        refine ge_12_8 hx hb hts (inU inW_X12) hown hK hP k_172 (hts _ (List.mem_cons_of_mem _ lw_1442)) dX12_token_164 ?_
        refine lv_imul hx hb dX12_token_167 ?_
        refine lv_aload_n hx hb dX12_token_168 rfl (lv_at hl 0 rfl) ?_
        refine lv_iload_n hx hb dX12_token_169 rfl (lv_at hl 1 rfl) ?_
        obtain ⟨r18, z19, h17, h⟩ := bd_s h
        refine x_Vi (Rz := (r18, z19)) (As := [.int v2]) (rest := [.int (10 * (z6.1 172 8)), .ref (G.2.2 172)]) ⟨hx, hb, hml, hown, hts⟩ hK hP hS (kd_lt k_172 (by decide)) (cell_12 k_172) rfl (m_X12_here hG   h17) (cwV 1 hts (gV lw_1684 lw_1686 lw_47 lw_125 lw_1687) rfl rfl rfl (by decide +kernel) (rmd_ok (by decide) (by decide))) rfl hl.1 rfl (Nat.le_of_ble_eq_true rfl) dX12_token_170 ⟨Nat.le_refl _, Nat.le_refl _⟩ (fun H locs hP hS => ?_)
        refine lv_iadd hx hb dX12_token_173 ?_
        refine lv_bipush (v := 48) hx hb dX12_token_174 (by decide) ?_
        refine lv_isub hx hb dX12_token_176 ?_
        obtain ⟨z20, e_z20, h⟩ := nm_s h
        refine pu_12_8 hx hb hts (inU inW_X12) hown hK hG hP hS k_172 (hts _ (List.mem_cons_of_mem _ lw_1442)) dX12_token_177 (fun H locs hP hS => ?_)
        rw [← e_z20] at hP
        exact pf_X12_token_180 C  ih v2 z20  hP hS (lv_sub hl [0, 1] rfl) h
def fn_X12_token_229 (v2 : Int32) (tv1 : Int32) (z : St) : Option (St) := nm (sI z 172 6 tv1) (fun z1 => fn_X12_token_232   v2 z1)
set_option maxHeartbeats 4000000 in
set_option maxRecDepth 100000 in
theorem pf_X12_token_229 {p : Program} {l : Launch} {e : Env} {s : State} {m : MethodId} {args : Array Value} {below : List Frame} {meth : Method} {c : Code} {G : wG} (C : CX p s m args meth c cX12_token 3 (wsU yX12_token cX12_token 3 none) RX12 none G) {Rz : St} (v2 : Int32) (tv1 : Int32) (z : St)  {H : Heap} {locs : List Loc} {ls : Array Slot} (hP : WP G z H) (hS : va_S (AW G) s.heap H locs) (hl : lv_has ls 3 [(0, .ref (G.2.2 172)), (2, .int v2)]) (h : fn_X12_token_229   v2 tv1 z = some Rz) : W p l e (rmd 2) s m args below meth c H locs 0 0 (QV below args s G Rz) (F0 m 229 ls [.int tv1, .ref (G.2.2 172)]) := by
  obtain ⟨hx, hb, hml, hown, hts, hr, hlocks, hK, hG⟩ := id C
  unfold fn_X12_token_229 at h
  obtain ⟨z1, e_z1, h⟩ := nm_s h
  refine pu_12_6 hx hb hts (inU inW_X12) hown hK hG hP hS k_172 (hts _ (List.mem_cons_of_mem _ lw_1440)) dX12_token_229 (fun H locs hP hS => ?_)
  rw [← e_z1] at hP
  exact pf_X12_token_232 C   v2 z1  hP hS (lv_sub hl [0, 1] rfl) h
def fn_X12_token_0 : Nat → St → Option (St)
  | 0, _ => none
  | n + 1, z => bd (fn_X12_here  0 z) (fun r2 z3 => (if r2 = 32 then fn_X12_token_20  (fn_X12_token_0   n)  z3 else bd (fn_X12_here  0 z3) (fun r6 z7 => (if r6 = 10 then fn_X12_token_20  (fn_X12_token_0   n)  z7 else nm (sI z7 172 7 (z7.1 172 4)) (fun z9 => bd (fn_X12_here  0 z9) (fun r11 z12 => nm (sJ z12 172 9 0) (fun z13 => nm (sI z13 172 8 0) (fun z14 => (if 0 ≤ r11 then bd (fn_X12_isLetter  r11 z14) (fun r17 z18 => (if r17 = 0 then bd (fn_X12_isDigit  r11 z18) (fun r21 z22 => (if r21 = 0 then bd (fn_X12_isSign  r11 z22) (fun r25 z26 => (if r25 = 0 then fn_X12_token_229   1 3 z26 else fn_X12_token_229   1 r11 z26)) else fn_X12_token_144   fu 0 z22)) else fn_X12_token_78   fu 0 z18)) else nm (sI z14 172 6 0) (fun z28 => fn_X12_token_232   0 z28))))))))))
set_option maxHeartbeats 4000000 in
set_option maxRecDepth 100000 in
theorem pf_X12_token_0 {p : Program} {l : Launch} {e : Env} {s : State} {m : MethodId} {args : Array Value} {below : List Frame} {meth : Method} {c : Code} {G : wG} (C : CX p s m args meth c cX12_token 3 (wsU yX12_token cX12_token 3 none) RX12 none G) {Rz : St} : ∀ (n : Nat)  (z : St)  (H : Heap) (locs : List Loc) (ls : Array Slot), WP G z H → va_S (AW G) s.heap H locs → lv_has ls 3 [(0, .ref (G.2.2 172))] → fn_X12_token_0   n  z = some Rz → W p l e (rmd 2) s m args below meth c H locs 0 0 (QV below args s G Rz) (F0 m 0 ls []) := by
  obtain ⟨hx, hb, hml, hown, hts, hr, hlocks, hK, hG⟩ := id C
  intro n
  induction n with
  | zero => intro  z  H locs ls hP hS hl h; cases h
  | succ n ih =>
    intro  z  H locs ls hP hS hl h
    rw [fn_X12_token_0] at h
    refine lv_aload_n hx hb dX12_token_0 rfl (lv_at hl 0 rfl) ?_
    refine lv_iconst (v := 0) hx hb dX12_token_1 (by decide) ?_
    obtain ⟨r2, z3, h1, h⟩ := bd_s h
    refine x_Vi (Rz := (r2, z3)) (As := [.int 0]) (rest := []) ⟨hx, hb, hml, hown, hts⟩ hK hP hS (kd_lt k_172 (by decide)) (cell_12 k_172) rfl (m_X12_here hG   h1) (cwV 1 hts (gV lw_1684 lw_1686 lw_47 lw_125 lw_1687) rfl rfl rfl (by decide +kernel) (rmd_ok (by decide) (by decide))) rfl hl.1 rfl (Nat.le_of_ble_eq_true rfl) dX12_token_2 ⟨Nat.le_refl _, Nat.le_refl _⟩ (fun H locs hP hS => ?_)
    refine lv_bipush (v := 32) hx hb dX12_token_5 (by decide) ?_
    refine lv_icmp_eq (tgt := 20) hx hb dX12_token_7 (by decide) (fun c4 => ?_) (fun c4 => ?_)
    · rw [if_pos c4] at h
      exact pf_X12_token_20 C  ih  z3  hP hS (lv_sub hl [0] rfl) h
    · rw [if_neg c4] at h
      refine lv_aload_n hx hb dX12_token_10 rfl (lv_at hl 0 rfl) ?_
      refine lv_iconst (v := 0) hx hb dX12_token_11 (by decide) ?_
      obtain ⟨r6, z7, h5, h⟩ := bd_s h
      refine x_Vi (Rz := (r6, z7)) (As := [.int 0]) (rest := []) ⟨hx, hb, hml, hown, hts⟩ hK hP hS (kd_lt k_172 (by decide)) (cell_12 k_172) rfl (m_X12_here hG   h5) (cwV 1 hts (gV lw_1684 lw_1686 lw_47 lw_125 lw_1687) rfl rfl rfl (by decide +kernel) (rmd_ok (by decide) (by decide))) rfl hl.1 rfl (Nat.le_of_ble_eq_true rfl) dX12_token_12 ⟨Nat.le_refl _, Nat.le_refl _⟩ (fun H locs hP hS => ?_)
      refine lv_bipush (v := 10) hx hb dX12_token_15 (by decide) ?_
      refine lv_icmp_ne (tgt := 33) hx hb dX12_token_17 (by decide) (fun c8 => ?_) (fun c8 => ?_)
      · rw [if_neg c8] at h
        refine lv_aload_n hx hb dX12_token_33 rfl (lv_at hl 0 rfl) ?_
        refine lv_aload_n hx hb dX12_token_34 rfl (lv_at hl 0 rfl) ?_
        refine ge_12_4 hx hb hts (inU inW_X12) hown hK hP k_172 (hts _ (List.mem_cons_of_mem _ lw_1438)) dX12_token_35 ?_
        obtain ⟨z9, e_z9, h⟩ := nm_s h
        refine pu_12_7 hx hb hts (inU inW_X12) hown hK hG hP hS k_172 (hts _ (List.mem_cons_of_mem _ lw_1441)) dX12_token_38 (fun H locs hP hS => ?_)
        rw [← e_z9] at hP
        refine lv_aload_n hx hb dX12_token_41 rfl (lv_at hl 0 rfl) ?_
        refine lv_iconst (v := 0) hx hb dX12_token_42 (by decide) ?_
        obtain ⟨r11, z12, h10, h⟩ := bd_s h
        refine x_Vi (Rz := (r11, z12)) (As := [.int 0]) (rest := []) ⟨hx, hb, hml, hown, hts⟩ hK hP hS (kd_lt k_172 (by decide)) (cell_12 k_172) rfl (m_X12_here hG   h10) (cwV 1 hts (gV lw_1684 lw_1686 lw_47 lw_125 lw_1687) rfl rfl rfl (by decide +kernel) (rmd_ok (by decide) (by decide))) rfl hl.1 rfl (Nat.le_of_ble_eq_true rfl) dX12_token_43 ⟨Nat.le_refl _, Nat.le_refl _⟩ (fun H locs hP hS => ?_)
        refine lv_istore_n (lv' := [(1, .int r11), (0, .ref (G.2.2 172))]) hx hb dX12_token_46 rfl hl (by decide) rfl (fun ls hl => ?_)
        refine lv_iconst (v := 0) hx hb dX12_token_47 (by decide) ?_
        refine lv_istore_n (lv' := [(2, .int 0), (1, .int r11), (0, .ref (G.2.2 172))]) hx hb dX12_token_48 rfl hl (by decide) rfl (fun ls hl => ?_)
        refine lv_aload_n hx hb dX12_token_49 rfl (lv_at hl 2 rfl) ?_
        refine lv_lconst (v := 0) hx hb dX12_token_50 (by decide) ?_
        obtain ⟨z13, e_z13, h⟩ := nm_s h
        refine pu_12_9 hx hb hts (inU inW_X12) hown hK hG hP hS k_172 (hts _ (List.mem_cons_of_mem _ lw_1443)) dX12_token_51 (fun H locs hP hS => ?_)
        rw [← e_z13] at hP
        refine lv_aload_n hx hb dX12_token_54 rfl (lv_at hl 2 rfl) ?_
        refine lv_iconst (v := 0) hx hb dX12_token_55 (by decide) ?_
        obtain ⟨z14, e_z14, h⟩ := nm_s h
        refine pu_12_8 hx hb hts (inU inW_X12) hown hK hG hP hS k_172 (hts _ (List.mem_cons_of_mem _ lw_1442)) dX12_token_56 (fun H locs hP hS => ?_)
        rw [← e_z14] at hP
        refine lv_iload_n hx hb dX12_token_59 rfl (lv_at hl 1 rfl) ?_
        refine lv_if_ge (tgt := 71) hx hb dX12_token_60 (by decide) (fun c15 => ?_) (fun c15 => ?_)
        · rw [if_pos c15] at h
          refine lv_iload_n hx hb dX12_token_71 rfl (lv_at hl 1 rfl) ?_
          obtain ⟨r17, z18, h16, h⟩ := bd_s h
          refine x_Si (Rz := (r17, z18)) (As := [.int r11]) (rest := []) ⟨hx, hb, hml, hown, hts⟩ hK hP hS (m_X12_isLetter hG   h16) (va_cwS 1 hts (gS lw_1688 lw_1689 lw_125 lw_1690) rfl rfl rfl (by decide +kernel) (rmd_ok (by decide) (by decide))) rfl hl.1 rfl (Nat.le_of_ble_eq_true rfl) dX12_token_72 ⟨Nat.le_refl _, Nat.le_refl _⟩ (fun H locs hP hS => ?_)
          refine lv_if_eq (tgt := 137) hx hb dX12_token_75 (by decide) (fun c19 => ?_) (fun c19 => ?_)
          · rw [if_pos c19] at h
            refine lv_iload_n hx hb dX12_token_137 rfl (lv_at hl 1 rfl) ?_
            obtain ⟨r21, z22, h20, h⟩ := bd_s h
            refine x_Si (Rz := (r21, z22)) (As := [.int r11]) (rest := []) ⟨hx, hb, hml, hown, hts⟩ hK hP hS (m_X12_isDigit hG   h20) (va_cwS 1 hts (gS lw_1691 lw_1692 lw_125 lw_1693) rfl rfl rfl (by decide +kernel) (rmd_ok (by decide) (by decide))) rfl hl.1 rfl (Nat.le_of_ble_eq_true rfl) dX12_token_138 ⟨Nat.le_refl _, Nat.le_refl _⟩ (fun H locs hP hS => ?_)
            refine lv_if_eq (tgt := 214) hx hb dX12_token_141 (by decide) (fun c23 => ?_) (fun c23 => ?_)
            · rw [if_pos c23] at h
              refine lv_iconst (v := 1) hx hb dX12_token_214 (by decide) ?_
              refine lv_istore_n (lv' := [(2, .int 1), (1, .int r11), (0, .ref (G.2.2 172))]) hx hb dX12_token_215 rfl hl (by decide) rfl (fun ls hl => ?_)
              refine lv_aload_n hx hb dX12_token_216 rfl (lv_at hl 2 rfl) ?_
              refine lv_iload_n hx hb dX12_token_217 rfl (lv_at hl 1 rfl) ?_
              obtain ⟨r25, z26, h24, h⟩ := bd_s h
              refine x_Si (Rz := (r25, z26)) (As := [.int r11]) (rest := [.ref (G.2.2 172)]) ⟨hx, hb, hml, hown, hts⟩ hK hP hS (m_X12_isSign hG   h24) (va_cwS 1 hts (gS lw_1694 lw_1695 lw_125 lw_1696) rfl rfl rfl (by decide +kernel) (rmd_ok (by decide) (by decide))) rfl hl.1 rfl (Nat.le_of_ble_eq_true rfl) dX12_token_218 ⟨Nat.le_refl _, Nat.le_refl _⟩ (fun H locs hP hS => ?_)
              refine lv_if_eq (tgt := 228) hx hb dX12_token_221 (by decide) (fun c27 => ?_) (fun c27 => ?_)
              · rw [if_pos c27] at h
                refine lv_iconst (v := 3) hx hb dX12_token_228 (by decide) ?_
                exact pf_X12_token_229 C   1 3 z26  hP hS (lv_sub hl [2, 0] rfl) h
              · rw [if_neg c27] at h
                refine lv_iload_n hx hb dX12_token_224 rfl (lv_at hl 1 rfl) ?_
                refine lv_goto (tgt := 229) hx hb dX12_token_225 (by decide) ?_
                exact pf_X12_token_229 C   1 r11 z26  hP hS (lv_sub hl [2, 0] rfl) h
            · rw [if_neg c23] at h
              exact pf_X12_token_144 C   fu 0 z22  _ _ _ hP hS (lv_sub hl [2, 0] rfl) h
          · rw [if_neg c19] at h
            exact pf_X12_token_78 C   fu 0 z18  _ _ _ hP hS (lv_sub hl [2, 0] rfl) h
        · rw [if_neg c15] at h
          refine lv_aload_n hx hb dX12_token_63 rfl (lv_at hl 2 rfl) ?_
          refine lv_iconst (v := 0) hx hb dX12_token_64 (by decide) ?_
          obtain ⟨z28, e_z28, h⟩ := nm_s h
          refine pu_12_6 hx hb hts (inU inW_X12) hown hK hG hP hS k_172 (hts _ (List.mem_cons_of_mem _ lw_1440)) dX12_token_65 (fun H locs hP hS => ?_)
          rw [← e_z28] at hP
          refine lv_goto (tgt := 232) hx hb dX12_token_68 (by decide) ?_
          exact pf_X12_token_232 C   0 z28  hP hS (lv_sub hl [2, 0] rfl) h
      · rw [if_pos c8] at h
        exact pf_X12_token_20 C  ih  z7  hP hS (lv_sub hl [0] rfl) h
def fn_X12_token  (z : St) : Option (St) := fn_X12_token_0   fu  z
set_option maxHeartbeats 4000000 in
set_option maxRecDepth 100000 in
theorem m_X12_token {l : Launch} {G : wG} (hG : Ok G)  {z : St} {Rz : St}  (h : fn_X12_token   z = some Rz) : Met l yX12_token (wsU yX12_token cX12_token 3 none) (rmd 2) (va_Pc [.ref (G.2.2 172)] (Pre G z)) (va_Qv (fun u => u = Rz) (Pre G) (AW G)) 0 0 (AW G) := by
  refine Met.ofW (cc := cX12_token) (maxL := 3) (ret := none) (by decide) rfl ?_
  intro p e s m args below meth c s₁ B hml hv
  obtain ⟨rfl, hP, hK⟩ := hv
  have C : CX p s m ([.ref (G.2.2 172)] : List Value).toArray meth c cX12_token 3 (wsU yX12_token cX12_token 3 none) RX12 none G := ⟨B.exec, B.bytes, hml, findClass_of_methodNamed B.named, atoms_spec (ws := (wsU yX12_token cX12_token 3 none)) B.pre, B.returns, B.notSynchronized, hK, hG⟩
  obtain ⟨hx, hb, -, hown, hts, hr, hlocks, -, -⟩ := id C
  have hS : va_S (AW G) s.heap s.heap [] := va_S.rf
  have hl := lv_entry [.ref (G.2.2 172)] (n := 3) (Nat.le_of_ble_eq_true rfl)
  rw [lg_entry_eq]
  generalize (lg_sl [.ref (G.2.2 172)] ++ List.replicate (3 - (lg_sl [.ref (G.2.2 172)]).length) Slot.unset).toArray = ls at hl ⊢
  have hl : lv_has ls 3 [(0, .ref (G.2.2 172))] := hl
  unfold fn_X12_token at h
  exact pf_X12_token_0 C   fu  z  _ _ _ hP hS (lv_sub hl [0] rfl) h
def fn_X12_wrong_22 (tv1 : Int32) (z : St) : Option (St) := nm (sI z 172 2 tv1) (fun z1 => nm (sI z1 172 3 (z1.1 172 7)) (fun z2 => some z2))
set_option maxHeartbeats 4000000 in
set_option maxRecDepth 100000 in
theorem pf_X12_wrong_22 {p : Program} {l : Launch} {e : Env} {s : State} {m : MethodId} {args : Array Value} {below : List Frame} {meth : Method} {c : Code} {G : wG} (C : CX p s m args meth c cX12_wrong 2 (wsU yX12_wrong cX12_wrong 2 none) RX12 none G) {Rz : St} (tv1 : Int32) (z : St)  {H : Heap} {locs : List Loc} {ls : Array Slot} (hP : WP G z H) (hS : va_S (AW G) s.heap H locs) (hl : lv_has ls 2 [(0, .ref (G.2.2 172))]) (h : fn_X12_wrong_22   tv1 z = some Rz) : W p l e (rmd 1) s m args below meth c H locs 0 0 (QV below args s G Rz) (F0 m 22 ls [.int tv1, .ref (G.2.2 172)]) := by
  obtain ⟨hx, hb, hml, hown, hts, hr, hlocks, hK, hG⟩ := id C
  unfold fn_X12_wrong_22 at h
  obtain ⟨z1, e_z1, h⟩ := nm_s h
  refine pu_12_2 hx hb hts (inU inW_X12) hown hK hG hP hS k_172 (hts _ (List.mem_cons_of_mem _ lw_1436)) dX12_wrong_22 (fun H locs hP hS => ?_)
  rw [← e_z1] at hP
  refine lv_aload_n hx hb dX12_wrong_25 rfl (lv_at hl 0 rfl) ?_
  refine lv_aload_n hx hb dX12_wrong_26 rfl (lv_at hl 0 rfl) ?_
  refine ge_12_7 hx hb hts (inU inW_X12) hown hK hP k_172 (hts _ (List.mem_cons_of_mem _ lw_1441)) dX12_wrong_27 ?_
  obtain ⟨z2, e_z2, h⟩ := nm_s h
  refine pu_12_3 hx hb hts (inU inW_X12) hown hK hG hP hS k_172 (hts _ (List.mem_cons_of_mem _ lw_1437)) dX12_wrong_30 (fun H locs hP hS => ?_)
  rw [← e_z2] at hP
  exact x_vret hx hb hr hlocks hK hP hS h dX12_wrong_33
def fn_X12_wrong (v1 : Int32) (z : St) : Option (St) := (if (z.1 172 2) ≤ 0 then (if (z.1 172 6) = 3 then fn_X12_wrong_22   1 z else fn_X12_wrong_22   v1 z) else some z)
set_option maxHeartbeats 4000000 in
set_option maxRecDepth 100000 in
theorem m_X12_wrong {l : Launch} {G : wG} (hG : Ok G) {v1 : Int32} {z : St} {Rz : St}  (h : fn_X12_wrong  v1 z = some Rz) : Met l yX12_wrong (wsU yX12_wrong cX12_wrong 2 none) (rmd 1) (va_Pc [.ref (G.2.2 172), .int v1] (Pre G z)) (va_Qv (fun u => u = Rz) (Pre G) (AW G)) 0 0 (AW G) := by
  refine Met.ofW (cc := cX12_wrong) (maxL := 2) (ret := none) (by decide) rfl ?_
  intro p e s m args below meth c s₁ B hml hv
  obtain ⟨rfl, hP, hK⟩ := hv
  have C : CX p s m ([.ref (G.2.2 172), .int v1] : List Value).toArray meth c cX12_wrong 2 (wsU yX12_wrong cX12_wrong 2 none) RX12 none G := ⟨B.exec, B.bytes, hml, findClass_of_methodNamed B.named, atoms_spec (ws := (wsU yX12_wrong cX12_wrong 2 none)) B.pre, B.returns, B.notSynchronized, hK, hG⟩
  obtain ⟨hx, hb, -, hown, hts, hr, hlocks, -, -⟩ := id C
  have hS : va_S (AW G) s.heap s.heap [] := va_S.rf
  have hl := lv_entry [.ref (G.2.2 172), .int v1] (n := 2) (Nat.le_of_ble_eq_true rfl)
  rw [lg_entry_eq]
  generalize (lg_sl [.ref (G.2.2 172), .int v1] ++ List.replicate (2 - (lg_sl [.ref (G.2.2 172), .int v1]).length) Slot.unset).toArray = ls at hl ⊢
  have hl : lv_has ls 2 [(0, .ref (G.2.2 172)), (1, .int v1)] := hl
  unfold fn_X12_wrong at h
  refine lv_aload_n hx hb dX12_wrong_0 rfl (lv_at hl 0 rfl) ?_
  refine ge_12_2 hx hb hts (inU inW_X12) hown hK hP k_172 (hts _ (List.mem_cons_of_mem _ lw_1436)) dX12_wrong_1 ?_
  refine lv_if_le (tgt := 8) hx hb dX12_wrong_4 (by decide) (fun c1 => ?_) (fun c1 => ?_)
  · rw [if_pos c1] at h
    refine lv_aload_n hx hb dX12_wrong_8 rfl (lv_at hl 0 rfl) ?_
    refine lv_aload_n hx hb dX12_wrong_9 rfl (lv_at hl 0 rfl) ?_
    refine ge_12_6 hx hb hts (inU inW_X12) hown hK hP k_172 (hts _ (List.mem_cons_of_mem _ lw_1440)) dX12_wrong_10 ?_
    refine lv_iconst (v := 3) hx hb dX12_wrong_13 (by decide) ?_
    refine lv_icmp_ne (tgt := 21) hx hb dX12_wrong_14 (by decide) (fun c2 => ?_) (fun c2 => ?_)
    · rw [if_neg c2] at h
      refine lv_iload_n hx hb dX12_wrong_21 rfl (lv_at hl 1 rfl) ?_
      exact pf_X12_wrong_22 C   v1 z  hP hS (lv_sub hl [0] rfl) h
    · rw [if_pos c2] at h
      refine lv_iconst (v := 1) hx hb dX12_wrong_17 (by decide) ?_
      refine lv_goto (tgt := 22) hx hb dX12_wrong_18 (by decide) ?_
      exact pf_X12_wrong_22 C   1 z  hP hS (lv_sub hl [0] rfl) h
  · rw [if_neg c1] at h
    exact x_vret hx hb hr hlocks hK hP hS h dX12_wrong_7
def fn_X12_isWord (v1 : Int64) (z : St) : Option (Int32 × St) := (if (z.1 172 6) = 1 then (if (lg_cmp (z.2 172 9) v1) = 0 then some (1, z) else some (0, z)) else some (0, z))
set_option maxHeartbeats 4000000 in
set_option maxRecDepth 100000 in
theorem m_X12_isWord {l : Launch} {G : wG} (hG : Ok G) {v1 : Int64} {z : St} {Rz : Int32 × St}  (h : fn_X12_isWord  v1 z = some Rz) : Met l yX12_isWord (wsU yX12_isWord cX12_isWord 3 (some .boolean)) (rmd 1) (va_Pc [.ref (G.2.2 172), .long v1] (Pre G z)) (va_Qi (fun r u => (r, u) = Rz) (Pre G) (AW G)) 0 0 (AW G) := by
  refine Met.ofW (cc := cX12_isWord) (maxL := 3) (ret := (some .boolean)) (by decide) rfl ?_
  intro p e s m args below meth c s₁ B hml hv
  obtain ⟨rfl, hP, hK⟩ := hv
  have C : CX p s m ([.ref (G.2.2 172), .long v1] : List Value).toArray meth c cX12_isWord 3 (wsU yX12_isWord cX12_isWord 3 (some .boolean)) RX12 (some .boolean) G := ⟨B.exec, B.bytes, hml, findClass_of_methodNamed B.named, atoms_spec (ws := (wsU yX12_isWord cX12_isWord 3 (some .boolean))) B.pre, B.returns, B.notSynchronized, hK, hG⟩
  obtain ⟨hx, hb, -, hown, hts, hr, hlocks, -, -⟩ := id C
  have hS : va_S (AW G) s.heap s.heap [] := va_S.rf
  have hl := lv_entry [.ref (G.2.2 172), .long v1] (n := 3) (Nat.le_of_ble_eq_true rfl)
  rw [lg_entry_eq]
  generalize (lg_sl [.ref (G.2.2 172), .long v1] ++ List.replicate (3 - (lg_sl [.ref (G.2.2 172), .long v1]).length) Slot.unset).toArray = ls at hl ⊢
  have hl : lv_has ls 3 [(0, .ref (G.2.2 172)), (1, .long v1)] := hl
  unfold fn_X12_isWord at h
  refine lv_aload_n hx hb dX12_isWord_0 rfl (lv_at hl 0 rfl) ?_
  refine ge_12_6 hx hb hts (inU inW_X12) hown hK hP k_172 (hts _ (List.mem_cons_of_mem _ lw_1440)) dX12_isWord_1 ?_
  refine lv_iconst (v := 1) hx hb dX12_isWord_4 (by decide) ?_
  refine lv_icmp_ne (tgt := 21) hx hb dX12_isWord_5 (by decide) (fun c1 => ?_) (fun c1 => ?_)
  · rw [if_neg c1] at h
    refine lv_iconst (v := 0) hx hb dX12_isWord_21 (by decide) ?_
    exact x_zret hx hb hr hlocks hK hP hS rfl h dX12_isWord_22
  · rw [if_pos c1] at h
    refine lv_aload_n hx hb dX12_isWord_8 rfl (lv_at hl 0 rfl) ?_
    refine ge_12_9 hx hb hts (inU inW_X12) hown hK hP k_172 (hts _ (List.mem_cons_of_mem _ lw_1443)) dX12_isWord_9 ?_
    refine lv_lload_n hx hb dX12_isWord_12 rfl (lv_at hl 1 rfl) ?_
    refine W.lcmp hx hb dX12_isWord_13 ?_
    refine lv_if_ne (tgt := 21) hx hb dX12_isWord_14 (by decide) (fun c2 => ?_) (fun c2 => ?_)
    · rw [if_neg c2] at h
      refine lv_iconst (v := 0) hx hb dX12_isWord_21 (by decide) ?_
      exact x_zret hx hb hr hlocks hK hP hS rfl h dX12_isWord_22
    · rw [if_pos c2] at h
      refine lv_iconst (v := 1) hx hb dX12_isWord_17 (by decide) ?_
      refine lv_goto (tgt := 22) hx hb dX12_isWord_18 (by decide) ?_
      exact x_zret hx hb hr hlocks hK hP hS rfl h dX12_isWord_22
def fn_X12_isOwn  (z : St) : Option (Int32 × St) := (if (lg_cmp (z.2 172 9) 1953064306) = 0 then some (1, z) else (if (lg_cmp (z.2 172 9) 25209) = 0 then some (1, z) else (if (lg_cmp (z.2 172 9) 1751738216) = 0 then some (1, z) else (if (lg_cmp (z.2 172 9) 444351214452) = 0 then some (1, z) else (if (lg_cmp (z.2 172 9) 512735736947) = 0 then some (1, z) else (if (lg_cmp (z.2 172 9) 495924372852) = 0 then some (1, z) else (if (lg_cmp (z.2 172 9) 427071202675) = 0 then some (1, z) else (if (lg_cmp (z.2 172 9) 512970880104) = 0 then some (1, z) else (if (lg_cmp (z.2 172 9) 1936484720) = 0 then some (1, z) else (if (lg_cmp (z.2 172 9) 1885430629) = 0 then some (1, z) else (if (lg_cmp (z.2 172 9) 1685217655) = 0 then some (1, z) else (if (lg_cmp (z.2 172 9) 1634887009) = 0 then some (1, z) else (if (lg_cmp (z.2 172 9) 452639420007) = 0 then some (1, z) else (if (lg_cmp (z.2 172 9) 108243635103086) = 0 then some (1, z) else (if (lg_cmp (z.2 172 9) 1819242087) = 0 then some (1, z) else (if (lg_cmp (z.2 172 9) 120299592184933) = 0 then some (1, z) else (if (lg_cmp (z.2 172 9) 6385252) = 0 then some (1, z) else (if (lg_cmp (z.2 172 9) 28530) = 0 then some (1, z) else (if (lg_cmp (z.2 172 9) 7237492) = 0 then some (1, z) else some (0, z))))))))))))))))))))
set_option maxHeartbeats 4000000 in
set_option maxRecDepth 100000 in
theorem m_X12_isOwn {l : Launch} {G : wG} (hG : Ok G)  {z : St} {Rz : Int32 × St}  (h : fn_X12_isOwn   z = some Rz) : Met l yX12_isOwn (wsU yX12_isOwn cX12_isOwn 1 (some .boolean)) (rmd 1) (va_Pc [.ref (G.2.2 172)] (Pre G z)) (va_Qi (fun r u => (r, u) = Rz) (Pre G) (AW G)) 0 0 (AW G) := by
  refine Met.ofW (cc := cX12_isOwn) (maxL := 1) (ret := (some .boolean)) (by decide) rfl ?_
  intro p e s m args below meth c s₁ B hml hv
  obtain ⟨rfl, hP, hK⟩ := hv
  have C : CX p s m ([.ref (G.2.2 172)] : List Value).toArray meth c cX12_isOwn 1 (wsU yX12_isOwn cX12_isOwn 1 (some .boolean)) RX12 (some .boolean) G := ⟨B.exec, B.bytes, hml, findClass_of_methodNamed B.named, atoms_spec (ws := (wsU yX12_isOwn cX12_isOwn 1 (some .boolean))) B.pre, B.returns, B.notSynchronized, hK, hG⟩
  obtain ⟨hx, hb, -, hown, hts, hr, hlocks, -, -⟩ := id C
  have hS : va_S (AW G) s.heap s.heap [] := va_S.rf
  have hl := lv_entry [.ref (G.2.2 172)] (n := 1) (Nat.le_of_ble_eq_true rfl)
  rw [lg_entry_eq]
  generalize (lg_sl [.ref (G.2.2 172)] ++ List.replicate (1 - (lg_sl [.ref (G.2.2 172)]).length) Slot.unset).toArray = ls at hl ⊢
  have hl : lv_has ls 1 [(0, .ref (G.2.2 172))] := hl
  unfold fn_X12_isOwn at h
  refine lv_aload_n hx hb dX12_isOwn_0 rfl (lv_at hl 0 rfl) ?_
  refine ge_12_9 hx hb hts (inU inW_X12) hown hK hP k_172 (hts _ (List.mem_cons_of_mem _ lw_1443)) dX12_isOwn_1 ?_
  refine lv_ldc2 (v := 1953064306) hx hb hown (hts _ (List.mem_cons_of_mem _ lw_1701)) dX12_isOwn_4 ?_
  refine W.lcmp hx hb dX12_isOwn_7 ?_
  refine lv_if_eq (tgt := 209) hx hb dX12_isOwn_8 (by decide) (fun c1 => ?_) (fun c1 => ?_)
  · rw [if_pos c1] at h
    refine lv_iconst (v := 1) hx hb dX12_isOwn_209 (by decide) ?_
    refine lv_goto (tgt := 214) hx hb dX12_isOwn_210 (by decide) ?_
    exact x_zret hx hb hr hlocks hK hP hS rfl h dX12_isOwn_214
  · rw [if_neg c1] at h
    refine lv_aload_n hx hb dX12_isOwn_11 rfl (lv_at hl 0 rfl) ?_
    refine ge_12_9 hx hb hts (inU inW_X12) hown hK hP k_172 (hts _ (List.mem_cons_of_mem _ lw_1443)) dX12_isOwn_12 ?_
    refine lv_ldc2 (v := 25209) hx hb hown (hts _ (List.mem_cons_of_mem _ lw_1722)) dX12_isOwn_15 ?_
    refine W.lcmp hx hb dX12_isOwn_18 ?_
    refine lv_if_eq (tgt := 209) hx hb dX12_isOwn_19 (by decide) (fun c2 => ?_) (fun c2 => ?_)
    · rw [if_pos c2] at h
      refine lv_iconst (v := 1) hx hb dX12_isOwn_209 (by decide) ?_
      refine lv_goto (tgt := 214) hx hb dX12_isOwn_210 (by decide) ?_
      exact x_zret hx hb hr hlocks hK hP hS rfl h dX12_isOwn_214
    · rw [if_neg c2] at h
      refine lv_aload_n hx hb dX12_isOwn_22 rfl (lv_at hl 0 rfl) ?_
      refine ge_12_9 hx hb hts (inU inW_X12) hown hK hP k_172 (hts _ (List.mem_cons_of_mem _ lw_1443)) dX12_isOwn_23 ?_
      refine lv_ldc2 (v := 1751738216) hx hb hown (hts _ (List.mem_cons_of_mem _ lw_1723)) dX12_isOwn_26 ?_
      refine W.lcmp hx hb dX12_isOwn_29 ?_
      refine lv_if_eq (tgt := 209) hx hb dX12_isOwn_30 (by decide) (fun c3 => ?_) (fun c3 => ?_)
      · rw [if_pos c3] at h
        refine lv_iconst (v := 1) hx hb dX12_isOwn_209 (by decide) ?_
        refine lv_goto (tgt := 214) hx hb dX12_isOwn_210 (by decide) ?_
        exact x_zret hx hb hr hlocks hK hP hS rfl h dX12_isOwn_214
      · rw [if_neg c3] at h
        refine lv_aload_n hx hb dX12_isOwn_33 rfl (lv_at hl 0 rfl) ?_
        refine ge_12_9 hx hb hts (inU inW_X12) hown hK hP k_172 (hts _ (List.mem_cons_of_mem _ lw_1443)) dX12_isOwn_34 ?_
        refine lv_ldc2 (v := 444351214452) hx hb hown (hts _ (List.mem_cons_of_mem _ lw_1724)) dX12_isOwn_37 ?_
        refine W.lcmp hx hb dX12_isOwn_40 ?_
        refine lv_if_eq (tgt := 209) hx hb dX12_isOwn_41 (by decide) (fun c4 => ?_) (fun c4 => ?_)
        · rw [if_pos c4] at h
          refine lv_iconst (v := 1) hx hb dX12_isOwn_209 (by decide) ?_
          refine lv_goto (tgt := 214) hx hb dX12_isOwn_210 (by decide) ?_
          exact x_zret hx hb hr hlocks hK hP hS rfl h dX12_isOwn_214
        · rw [if_neg c4] at h
          refine lv_aload_n hx hb dX12_isOwn_44 rfl (lv_at hl 0 rfl) ?_
          refine ge_12_9 hx hb hts (inU inW_X12) hown hK hP k_172 (hts _ (List.mem_cons_of_mem _ lw_1443)) dX12_isOwn_45 ?_
          refine lv_ldc2 (v := 512735736947) hx hb hown (hts _ (List.mem_cons_of_mem _ lw_1725)) dX12_isOwn_48 ?_
          refine W.lcmp hx hb dX12_isOwn_51 ?_
          refine lv_if_eq (tgt := 209) hx hb dX12_isOwn_52 (by decide) (fun c5 => ?_) (fun c5 => ?_)
          · rw [if_pos c5] at h
            refine lv_iconst (v := 1) hx hb dX12_isOwn_209 (by decide) ?_
            refine lv_goto (tgt := 214) hx hb dX12_isOwn_210 (by decide) ?_
            exact x_zret hx hb hr hlocks hK hP hS rfl h dX12_isOwn_214
          · rw [if_neg c5] at h
            refine lv_aload_n hx hb dX12_isOwn_55 rfl (lv_at hl 0 rfl) ?_
            refine ge_12_9 hx hb hts (inU inW_X12) hown hK hP k_172 (hts _ (List.mem_cons_of_mem _ lw_1443)) dX12_isOwn_56 ?_
            refine lv_ldc2 (v := 495924372852) hx hb hown (hts _ (List.mem_cons_of_mem _ lw_1726)) dX12_isOwn_59 ?_
            refine W.lcmp hx hb dX12_isOwn_62 ?_
            refine lv_if_eq (tgt := 209) hx hb dX12_isOwn_63 (by decide) (fun c6 => ?_) (fun c6 => ?_)
            · rw [if_pos c6] at h
              refine lv_iconst (v := 1) hx hb dX12_isOwn_209 (by decide) ?_
              refine lv_goto (tgt := 214) hx hb dX12_isOwn_210 (by decide) ?_
              exact x_zret hx hb hr hlocks hK hP hS rfl h dX12_isOwn_214
            · rw [if_neg c6] at h
              refine lv_aload_n hx hb dX12_isOwn_66 rfl (lv_at hl 0 rfl) ?_
              refine ge_12_9 hx hb hts (inU inW_X12) hown hK hP k_172 (hts _ (List.mem_cons_of_mem _ lw_1443)) dX12_isOwn_67 ?_
              refine lv_ldc2 (v := 427071202675) hx hb hown (hts _ (List.mem_cons_of_mem _ lw_1727)) dX12_isOwn_70 ?_
              refine W.lcmp hx hb dX12_isOwn_73 ?_
              refine lv_if_eq (tgt := 209) hx hb dX12_isOwn_74 (by decide) (fun c7 => ?_) (fun c7 => ?_)
              · rw [if_pos c7] at h
                refine lv_iconst (v := 1) hx hb dX12_isOwn_209 (by decide) ?_
                refine lv_goto (tgt := 214) hx hb dX12_isOwn_210 (by decide) ?_
                exact x_zret hx hb hr hlocks hK hP hS rfl h dX12_isOwn_214
              · rw [if_neg c7] at h
                refine lv_aload_n hx hb dX12_isOwn_77 rfl (lv_at hl 0 rfl) ?_
                refine ge_12_9 hx hb hts (inU inW_X12) hown hK hP k_172 (hts _ (List.mem_cons_of_mem _ lw_1443)) dX12_isOwn_78 ?_
                refine lv_ldc2 (v := 512970880104) hx hb hown (hts _ (List.mem_cons_of_mem _ lw_1728)) dX12_isOwn_81 ?_
                refine W.lcmp hx hb dX12_isOwn_84 ?_
                refine lv_if_eq (tgt := 209) hx hb dX12_isOwn_85 (by decide) (fun c8 => ?_) (fun c8 => ?_)
                · rw [if_pos c8] at h
                  refine lv_iconst (v := 1) hx hb dX12_isOwn_209 (by decide) ?_
                  refine lv_goto (tgt := 214) hx hb dX12_isOwn_210 (by decide) ?_
                  exact x_zret hx hb hr hlocks hK hP hS rfl h dX12_isOwn_214
                · rw [if_neg c8] at h
                  refine lv_aload_n hx hb dX12_isOwn_88 rfl (lv_at hl 0 rfl) ?_
                  refine ge_12_9 hx hb hts (inU inW_X12) hown hK hP k_172 (hts _ (List.mem_cons_of_mem _ lw_1443)) dX12_isOwn_89 ?_
                  refine lv_ldc2 (v := 1936484720) hx hb hown (hts _ (List.mem_cons_of_mem _ lw_1729)) dX12_isOwn_92 ?_
                  refine W.lcmp hx hb dX12_isOwn_95 ?_
                  refine lv_if_eq (tgt := 209) hx hb dX12_isOwn_96 (by decide) (fun c9 => ?_) (fun c9 => ?_)
                  · rw [if_pos c9] at h
                    refine lv_iconst (v := 1) hx hb dX12_isOwn_209 (by decide) ?_
                    refine lv_goto (tgt := 214) hx hb dX12_isOwn_210 (by decide) ?_
                    exact x_zret hx hb hr hlocks hK hP hS rfl h dX12_isOwn_214
                  · rw [if_neg c9] at h
                    refine lv_aload_n hx hb dX12_isOwn_99 rfl (lv_at hl 0 rfl) ?_
                    refine ge_12_9 hx hb hts (inU inW_X12) hown hK hP k_172 (hts _ (List.mem_cons_of_mem _ lw_1443)) dX12_isOwn_100 ?_
                    refine lv_ldc2 (v := 1885430629) hx hb hown (hts _ (List.mem_cons_of_mem _ lw_1730)) dX12_isOwn_103 ?_
                    refine W.lcmp hx hb dX12_isOwn_106 ?_
                    refine lv_if_eq (tgt := 209) hx hb dX12_isOwn_107 (by decide) (fun c10 => ?_) (fun c10 => ?_)
                    · rw [if_pos c10] at h
                      refine lv_iconst (v := 1) hx hb dX12_isOwn_209 (by decide) ?_
                      refine lv_goto (tgt := 214) hx hb dX12_isOwn_210 (by decide) ?_
                      exact x_zret hx hb hr hlocks hK hP hS rfl h dX12_isOwn_214
                    · rw [if_neg c10] at h
                      refine lv_aload_n hx hb dX12_isOwn_110 rfl (lv_at hl 0 rfl) ?_
                      refine ge_12_9 hx hb hts (inU inW_X12) hown hK hP k_172 (hts _ (List.mem_cons_of_mem _ lw_1443)) dX12_isOwn_111 ?_
                      refine lv_ldc2 (v := 1685217655) hx hb hown (hts _ (List.mem_cons_of_mem _ lw_1731)) dX12_isOwn_114 ?_
                      refine W.lcmp hx hb dX12_isOwn_117 ?_
                      refine lv_if_eq (tgt := 209) hx hb dX12_isOwn_118 (by decide) (fun c11 => ?_) (fun c11 => ?_)
                      · rw [if_pos c11] at h
                        refine lv_iconst (v := 1) hx hb dX12_isOwn_209 (by decide) ?_
                        refine lv_goto (tgt := 214) hx hb dX12_isOwn_210 (by decide) ?_
                        exact x_zret hx hb hr hlocks hK hP hS rfl h dX12_isOwn_214
                      · rw [if_neg c11] at h
                        refine lv_aload_n hx hb dX12_isOwn_121 rfl (lv_at hl 0 rfl) ?_
                        refine ge_12_9 hx hb hts (inU inW_X12) hown hK hP k_172 (hts _ (List.mem_cons_of_mem _ lw_1443)) dX12_isOwn_122 ?_
                        refine lv_ldc2 (v := 1634887009) hx hb hown (hts _ (List.mem_cons_of_mem _ lw_1732)) dX12_isOwn_125 ?_
                        refine W.lcmp hx hb dX12_isOwn_128 ?_
                        refine lv_if_eq (tgt := 209) hx hb dX12_isOwn_129 (by decide) (fun c12 => ?_) (fun c12 => ?_)
                        · rw [if_pos c12] at h
                          refine lv_iconst (v := 1) hx hb dX12_isOwn_209 (by decide) ?_
                          refine lv_goto (tgt := 214) hx hb dX12_isOwn_210 (by decide) ?_
                          exact x_zret hx hb hr hlocks hK hP hS rfl h dX12_isOwn_214
                        · rw [if_neg c12] at h
                          refine lv_aload_n hx hb dX12_isOwn_132 rfl (lv_at hl 0 rfl) ?_
                          refine ge_12_9 hx hb hts (inU inW_X12) hown hK hP k_172 (hts _ (List.mem_cons_of_mem _ lw_1443)) dX12_isOwn_133 ?_
                          refine lv_ldc2 (v := 452639420007) hx hb hown (hts _ (List.mem_cons_of_mem _ lw_1733)) dX12_isOwn_136 ?_
                          refine W.lcmp hx hb dX12_isOwn_139 ?_
                          refine lv_if_eq (tgt := 209) hx hb dX12_isOwn_140 (by decide) (fun c13 => ?_) (fun c13 => ?_)
                          · rw [if_pos c13] at h
                            refine lv_iconst (v := 1) hx hb dX12_isOwn_209 (by decide) ?_
                            refine lv_goto (tgt := 214) hx hb dX12_isOwn_210 (by decide) ?_
                            exact x_zret hx hb hr hlocks hK hP hS rfl h dX12_isOwn_214
                          · rw [if_neg c13] at h
                            refine lv_aload_n hx hb dX12_isOwn_143 rfl (lv_at hl 0 rfl) ?_
                            refine ge_12_9 hx hb hts (inU inW_X12) hown hK hP k_172 (hts _ (List.mem_cons_of_mem _ lw_1443)) dX12_isOwn_144 ?_
                            refine lv_ldc2 (v := 108243635103086) hx hb hown (hts _ (List.mem_cons_of_mem _ lw_1734)) dX12_isOwn_147 ?_
                            refine W.lcmp hx hb dX12_isOwn_150 ?_
                            refine lv_if_eq (tgt := 209) hx hb dX12_isOwn_151 (by decide) (fun c14 => ?_) (fun c14 => ?_)
                            · rw [if_pos c14] at h
                              refine lv_iconst (v := 1) hx hb dX12_isOwn_209 (by decide) ?_
                              refine lv_goto (tgt := 214) hx hb dX12_isOwn_210 (by decide) ?_
                              exact x_zret hx hb hr hlocks hK hP hS rfl h dX12_isOwn_214
                            · rw [if_neg c14] at h
                              refine lv_aload_n hx hb dX12_isOwn_154 rfl (lv_at hl 0 rfl) ?_
                              refine ge_12_9 hx hb hts (inU inW_X12) hown hK hP k_172 (hts _ (List.mem_cons_of_mem _ lw_1443)) dX12_isOwn_155 ?_
                              refine lv_ldc2 (v := 1819242087) hx hb hown (hts _ (List.mem_cons_of_mem _ lw_1735)) dX12_isOwn_158 ?_
                              refine W.lcmp hx hb dX12_isOwn_161 ?_
                              refine lv_if_eq (tgt := 209) hx hb dX12_isOwn_162 (by decide) (fun c15 => ?_) (fun c15 => ?_)
                              · rw [if_pos c15] at h
                                refine lv_iconst (v := 1) hx hb dX12_isOwn_209 (by decide) ?_
                                refine lv_goto (tgt := 214) hx hb dX12_isOwn_210 (by decide) ?_
                                exact x_zret hx hb hr hlocks hK hP hS rfl h dX12_isOwn_214
                              · rw [if_neg c15] at h
                                refine lv_aload_n hx hb dX12_isOwn_165 rfl (lv_at hl 0 rfl) ?_
                                refine ge_12_9 hx hb hts (inU inW_X12) hown hK hP k_172 (hts _ (List.mem_cons_of_mem _ lw_1443)) dX12_isOwn_166 ?_
                                refine lv_ldc2 (v := 120299592184933) hx hb hown (hts _ (List.mem_cons_of_mem _ lw_1736)) dX12_isOwn_169 ?_
                                refine W.lcmp hx hb dX12_isOwn_172 ?_
                                refine lv_if_eq (tgt := 209) hx hb dX12_isOwn_173 (by decide) (fun c16 => ?_) (fun c16 => ?_)
                                · rw [if_pos c16] at h
                                  refine lv_iconst (v := 1) hx hb dX12_isOwn_209 (by decide) ?_
                                  refine lv_goto (tgt := 214) hx hb dX12_isOwn_210 (by decide) ?_
                                  exact x_zret hx hb hr hlocks hK hP hS rfl h dX12_isOwn_214
                                · rw [if_neg c16] at h
                                  refine lv_aload_n hx hb dX12_isOwn_176 rfl (lv_at hl 0 rfl) ?_
                                  refine ge_12_9 hx hb hts (inU inW_X12) hown hK hP k_172 (hts _ (List.mem_cons_of_mem _ lw_1443)) dX12_isOwn_177 ?_
                                  refine lv_ldc2 (v := 6385252) hx hb hown (hts _ (List.mem_cons_of_mem _ lw_1737)) dX12_isOwn_180 ?_
                                  refine W.lcmp hx hb dX12_isOwn_183 ?_
                                  refine lv_if_eq (tgt := 209) hx hb dX12_isOwn_184 (by decide) (fun c17 => ?_) (fun c17 => ?_)
                                  · rw [if_pos c17] at h
                                    refine lv_iconst (v := 1) hx hb dX12_isOwn_209 (by decide) ?_
                                    refine lv_goto (tgt := 214) hx hb dX12_isOwn_210 (by decide) ?_
                                    exact x_zret hx hb hr hlocks hK hP hS rfl h dX12_isOwn_214
                                  · rw [if_neg c17] at h
                                    refine lv_aload_n hx hb dX12_isOwn_187 rfl (lv_at hl 0 rfl) ?_
                                    refine ge_12_9 hx hb hts (inU inW_X12) hown hK hP k_172 (hts _ (List.mem_cons_of_mem _ lw_1443)) dX12_isOwn_188 ?_
                                    refine lv_ldc2 (v := 28530) hx hb hown (hts _ (List.mem_cons_of_mem _ lw_1738)) dX12_isOwn_191 ?_
                                    refine W.lcmp hx hb dX12_isOwn_194 ?_
                                    refine lv_if_eq (tgt := 209) hx hb dX12_isOwn_195 (by decide) (fun c18 => ?_) (fun c18 => ?_)
                                    · rw [if_pos c18] at h
                                      refine lv_iconst (v := 1) hx hb dX12_isOwn_209 (by decide) ?_
                                      refine lv_goto (tgt := 214) hx hb dX12_isOwn_210 (by decide) ?_
                                      exact x_zret hx hb hr hlocks hK hP hS rfl h dX12_isOwn_214
                                    · rw [if_neg c18] at h
                                      refine lv_aload_n hx hb dX12_isOwn_198 rfl (lv_at hl 0 rfl) ?_
                                      refine ge_12_9 hx hb hts (inU inW_X12) hown hK hP k_172 (hts _ (List.mem_cons_of_mem _ lw_1443)) dX12_isOwn_199 ?_
                                      refine lv_ldc2 (v := 7237492) hx hb hown (hts _ (List.mem_cons_of_mem _ lw_1739)) dX12_isOwn_202 ?_
                                      refine W.lcmp hx hb dX12_isOwn_205 ?_
                                      refine lv_if_ne (tgt := 213) hx hb dX12_isOwn_206 (by decide) (fun c19 => ?_) (fun c19 => ?_)
                                      · rw [if_neg c19] at h
                                        refine lv_iconst (v := 0) hx hb dX12_isOwn_213 (by decide) ?_
                                        exact x_zret hx hb hr hlocks hK hP hS rfl h dX12_isOwn_214
                                      · rw [if_pos c19] at h
                                        refine lv_iconst (v := 1) hx hb dX12_isOwn_209 (by decide) ?_
                                        refine lv_goto (tgt := 214) hx hb dX12_isOwn_210 (by decide) ?_
                                        exact x_zret hx hb hr hlocks hK hP hS rfl h dX12_isOwn_214
def fn_X12_isName  (z : St) : Option (Int32 × St) := (if (z.1 172 6) = 1 then bd (fn_X12_isOwn   z) (fun r3 z4 => (if r3 = 0 then some (1, z4) else some (0, z4))) else some (0, z))
set_option maxHeartbeats 4000000 in
set_option maxRecDepth 100000 in
theorem m_X12_isName {l : Launch} {G : wG} (hG : Ok G)  {z : St} {Rz : Int32 × St}  (h : fn_X12_isName   z = some Rz) : Met l yX12_isName (wsU yX12_isName cX12_isName 1 (some .boolean)) (rmd 2) (va_Pc [.ref (G.2.2 172)] (Pre G z)) (va_Qi (fun r u => (r, u) = Rz) (Pre G) (AW G)) 0 0 (AW G) := by
  refine Met.ofW (cc := cX12_isName) (maxL := 1) (ret := (some .boolean)) (by decide) rfl ?_
  intro p e s m args below meth c s₁ B hml hv
  obtain ⟨rfl, hP, hK⟩ := hv
  have C : CX p s m ([.ref (G.2.2 172)] : List Value).toArray meth c cX12_isName 1 (wsU yX12_isName cX12_isName 1 (some .boolean)) RX12 (some .boolean) G := ⟨B.exec, B.bytes, hml, findClass_of_methodNamed B.named, atoms_spec (ws := (wsU yX12_isName cX12_isName 1 (some .boolean))) B.pre, B.returns, B.notSynchronized, hK, hG⟩
  obtain ⟨hx, hb, -, hown, hts, hr, hlocks, -, -⟩ := id C
  have hS : va_S (AW G) s.heap s.heap [] := va_S.rf
  have hl := lv_entry [.ref (G.2.2 172)] (n := 1) (Nat.le_of_ble_eq_true rfl)
  rw [lg_entry_eq]
  generalize (lg_sl [.ref (G.2.2 172)] ++ List.replicate (1 - (lg_sl [.ref (G.2.2 172)]).length) Slot.unset).toArray = ls at hl ⊢
  have hl : lv_has ls 1 [(0, .ref (G.2.2 172))] := hl
  unfold fn_X12_isName at h
  refine lv_aload_n hx hb dX12_isName_0 rfl (lv_at hl 0 rfl) ?_
  refine ge_12_6 hx hb hts (inU inW_X12) hown hK hP k_172 (hts _ (List.mem_cons_of_mem _ lw_1440)) dX12_isName_1 ?_
  refine lv_iconst (v := 1) hx hb dX12_isName_4 (by decide) ?_
  refine lv_icmp_ne (tgt := 19) hx hb dX12_isName_5 (by decide) (fun c1 => ?_) (fun c1 => ?_)
  · rw [if_neg c1] at h
    refine lv_iconst (v := 0) hx hb dX12_isName_19 (by decide) ?_
    exact x_zret hx hb hr hlocks hK hP hS rfl h dX12_isName_20
  · rw [if_pos c1] at h
    refine lv_aload_n hx hb dX12_isName_8 rfl (lv_at hl 0 rfl) ?_
    obtain ⟨r3, z4, h2, h⟩ := bd_s h
    refine x_Vi (Rz := (r3, z4)) (As := []) (rest := []) ⟨hx, hb, hml, hown, hts⟩ hK hP hS (kd_lt k_172 (by decide)) (cell_12 k_172) rfl (m_X12_isOwn hG   h2) (cwV 0 hts (gV lw_1718 lw_1720 lw_53 lw_125 lw_1721) rfl rfl rfl (by decide +kernel) (rmd_ok (by decide) (by decide))) rfl hl.1 rfl (Nat.le_of_ble_eq_true rfl) dX12_isName_9 ⟨Nat.le_refl _, Nat.le_refl _⟩ (fun H locs hP hS => ?_)
    refine lv_if_ne (tgt := 19) hx hb dX12_isName_12 (by decide) (fun c5 => ?_) (fun c5 => ?_)
    · rw [if_neg c5] at h
      refine lv_iconst (v := 0) hx hb dX12_isName_19 (by decide) ?_
      exact x_zret hx hb hr hlocks hK hP hS rfl h dX12_isName_20
    · rw [if_pos c5] at h
      refine lv_iconst (v := 1) hx hb dX12_isName_15 (by decide) ?_
      refine lv_goto (tgt := 20) hx hb dX12_isName_16 (by decide) ?_
      exact x_zret hx hb hr hlocks hK hP hS rfl h dX12_isName_20
def fn_X12_want (v1 : Int64) (z : St) : Option (St) := (if (z.1 172 2) ≤ 0 then bd (fn_X12_isWord  v1 z) (fun r3 z4 => (if r3 = 0 then bv (fn_X12_wrong  2 z4) (fun z9 => some z9) else bv (fn_X12_token   z4) (fun z7 => some z7))) else some z)
set_option maxHeartbeats 4000000 in
set_option maxRecDepth 100000 in
theorem m_X12_want {l : Launch} {G : wG} (hG : Ok G) {v1 : Int64} {z : St} {Rz : St}  (h : fn_X12_want  v1 z = some Rz) : Met l yX12_want (wsU yX12_want cX12_want 3 none) (rmd 3) (va_Pc [.ref (G.2.2 172), .long v1] (Pre G z)) (va_Qv (fun u => u = Rz) (Pre G) (AW G)) 0 0 (AW G) := by
  refine Met.ofW (cc := cX12_want) (maxL := 3) (ret := none) (by decide) rfl ?_
  intro p e s m args below meth c s₁ B hml hv
  obtain ⟨rfl, hP, hK⟩ := hv
  have C : CX p s m ([.ref (G.2.2 172), .long v1] : List Value).toArray meth c cX12_want 3 (wsU yX12_want cX12_want 3 none) RX12 none G := ⟨B.exec, B.bytes, hml, findClass_of_methodNamed B.named, atoms_spec (ws := (wsU yX12_want cX12_want 3 none)) B.pre, B.returns, B.notSynchronized, hK, hG⟩
  obtain ⟨hx, hb, -, hown, hts, hr, hlocks, -, -⟩ := id C
  have hS : va_S (AW G) s.heap s.heap [] := va_S.rf
  have hl := lv_entry [.ref (G.2.2 172), .long v1] (n := 3) (Nat.le_of_ble_eq_true rfl)
  rw [lg_entry_eq]
  generalize (lg_sl [.ref (G.2.2 172), .long v1] ++ List.replicate (3 - (lg_sl [.ref (G.2.2 172), .long v1]).length) Slot.unset).toArray = ls at hl ⊢
  have hl : lv_has ls 3 [(0, .ref (G.2.2 172)), (1, .long v1)] := hl
  unfold fn_X12_want at h
  refine lv_aload_n hx hb dX12_want_0 rfl (lv_at hl 0 rfl) ?_
  refine ge_12_2 hx hb hts (inU inW_X12) hown hK hP k_172 (hts _ (List.mem_cons_of_mem _ lw_1436)) dX12_want_1 ?_
  refine lv_if_le (tgt := 8) hx hb dX12_want_4 (by decide) (fun c1 => ?_) (fun c1 => ?_)
  · rw [if_pos c1] at h
    refine lv_aload_n hx hb dX12_want_8 rfl (lv_at hl 0 rfl) ?_
    refine lv_lload_n hx hb dX12_want_9 rfl (lv_at hl 1 rfl) ?_
    obtain ⟨r3, z4, h2, h⟩ := bd_s h
    refine x_Vi (Rz := (r3, z4)) (As := [.long v1]) (rest := []) ⟨hx, hb, hml, hown, hts⟩ hK hP hS (kd_lt k_172 (by decide)) (cell_12 k_172) rfl (m_X12_isWord hG   h2) (cwV 1 hts (gV lw_1702 lw_1704 lw_49 lw_125 lw_1705) rfl rfl rfl (by decide +kernel) (rmd_ok (by decide) (by decide))) rfl hl.1 rfl (Nat.le_of_ble_eq_true rfl) dX12_want_10 ⟨Nat.le_refl _, Nat.le_refl _⟩ (fun H locs hP hS => ?_)
    refine lv_if_ne (tgt := 24) hx hb dX12_want_13 (by decide) (fun c5 => ?_) (fun c5 => ?_)
    · rw [if_neg c5] at h
      refine lv_aload_n hx hb dX12_want_24 rfl (lv_at hl 0 rfl) ?_
      obtain ⟨z7, h6, h⟩ := bv_s h
      refine x_Vv (Rz := z7) (As := []) (rest := []) ⟨hx, hb, hml, hown, hts⟩ hK hP hS (kd_lt k_172 (by decide)) (cell_12 k_172) rfl (m_X12_token hG   h6) (cwV 0 hts (gV lw_1680 lw_1682 lw_46 lw_125 lw_1683) rfl rfl rfl (by decide +kernel) (rmd_ok (by decide) (by decide))) rfl hl.1 rfl (Nat.le_of_ble_eq_true rfl) dX12_want_25 ⟨Nat.le_refl _, Nat.le_refl _⟩ (fun H locs hP hS => ?_)
      exact x_vret hx hb hr hlocks hK hP hS h dX12_want_28
    · rw [if_pos c5] at h
      refine lv_aload_n hx hb dX12_want_16 rfl (lv_at hl 0 rfl) ?_
      refine lv_iconst (v := 2) hx hb dX12_want_17 (by decide) ?_
      obtain ⟨z9, h8, h⟩ := bv_s h
      refine x_Vv (Rz := z9) (As := [.int 2]) (rest := []) ⟨hx, hb, hml, hown, hts⟩ hK hP hS (kd_lt k_172 (by decide)) (cell_12 k_172) rfl (m_X12_wrong hG   h8) (cwV 1 hts (gV lw_1740 lw_1742 lw_54 lw_125 lw_1743) rfl rfl rfl (by decide +kernel) (rmd_ok (by decide) (by decide))) rfl hl.1 rfl (Nat.le_of_ble_eq_true rfl) dX12_want_18 ⟨Nat.le_refl _, Nat.le_refl _⟩ (fun H locs hP hS => ?_)
      refine lv_goto (tgt := 28) hx hb dX12_want_21 (by decide) ?_
      exact x_vret hx hb hr hlocks hK hP hS h dX12_want_28
  · rw [if_neg c1] at h
    exact x_vret hx hb hr hlocks hK hP hS h dX12_want_7
def fn_X12_toldNumber_46  (z : St) : Option (Int32 × St) := nm (z.1 172 8) (fun v3_1 => (if (z.1 172 2) = 0 then bv (fn_X12_token   z) (fun z4 => some (v3_1, z4)) else some (v3_1, z)))
set_option maxHeartbeats 4000000 in
set_option maxRecDepth 100000 in
theorem pf_X12_toldNumber_46 {p : Program} {l : Launch} {e : Env} {s : State} {m : MethodId} {args : Array Value} {below : List Frame} {meth : Method} {c : Code} {G : wG} (C : CX p s m args meth c cX12_toldNumber 4 (wsU yX12_toldNumber cX12_toldNumber 4 (some .int)) RX12 (some .int) G) {Rz : Int32 × St}  (z : St)  {H : Heap} {locs : List Loc} {ls : Array Slot} (hP : WP G z H) (hS : va_S (AW G) s.heap H locs) (hl : lv_has ls 4 [(0, .ref (G.2.2 172))]) (h : fn_X12_toldNumber_46    z = some Rz) : W p l e (rmd 3) s m args below meth c H locs 0 0 (QI below args s G Rz) (F0 m 46 ls []) := by
  obtain ⟨hx, hb, hml, hown, hts, hr, hlocks, hK, hG⟩ := id C
  unfold fn_X12_toldNumber_46 at h
  refine lv_aload_n hx hb dX12_toldNumber_46 rfl (lv_at hl 0 rfl) ?_
  refine ge_12_8 hx hb hts (inU inW_X12) hown hK hP k_172 (hts _ (List.mem_cons_of_mem _ lw_1442)) dX12_toldNumber_47 ?_
  obtain ⟨v3_1, e_v3_1, h⟩ := nm_s h
  refine x_top e_v3_1 ?_
  refine lv_istore_n (lv' := [(3, .int v3_1), (0, .ref (G.2.2 172))]) hx hb dX12_toldNumber_50 rfl hl (by decide) rfl (fun ls hl => ?_)
  refine lv_aload_n hx hb dX12_toldNumber_51 rfl (lv_at hl 1 rfl) ?_
  refine ge_12_2 hx hb hts (inU inW_X12) hown hK hP k_172 (hts _ (List.mem_cons_of_mem _ lw_1436)) dX12_toldNumber_52 ?_
  refine lv_if_ne (tgt := 62) hx hb dX12_toldNumber_55 (by decide) (fun c2 => ?_) (fun c2 => ?_)
  · rw [if_neg c2] at h
    refine lv_iload_n hx hb dX12_toldNumber_62 rfl (lv_at hl 0 rfl) ?_
    exact x_iret hx hb hr hlocks hK hP hS h dX12_toldNumber_63
  · rw [if_pos c2] at h
    refine lv_aload_n hx hb dX12_toldNumber_58 rfl (lv_at hl 1 rfl) ?_
    obtain ⟨z4, h3, h⟩ := bv_s h
    refine x_Vv (Rz := z4) (As := []) (rest := []) ⟨hx, hb, hml, hown, hts⟩ hK hP hS (kd_lt k_172 (by decide)) (cell_12 k_172) rfl (m_X12_token hG   h3) (cwV 0 hts (gV lw_1680 lw_1682 lw_46 lw_125 lw_1683) rfl rfl rfl (by decide +kernel) (rmd_ok (by decide) (by decide))) rfl hl.1 rfl (Nat.le_of_ble_eq_true rfl) dX12_toldNumber_59 ⟨Nat.le_refl _, Nat.le_refl _⟩ (fun H locs hP hS => ?_)
    refine lv_iload_n hx hb dX12_toldNumber_62 rfl (lv_at hl 0 rfl) ?_
    exact x_iret hx hb hr hlocks hK hP hS h dX12_toldNumber_63
def fn_X12_toldNumber_41  (z : St) : Option (Int32 × St) := bv (fn_X12_wrong  4 z) (fun z2 => fn_X12_toldNumber_46    z2)
set_option maxHeartbeats 4000000 in
set_option maxRecDepth 100000 in
theorem pf_X12_toldNumber_41 {p : Program} {l : Launch} {e : Env} {s : State} {m : MethodId} {args : Array Value} {below : List Frame} {meth : Method} {c : Code} {G : wG} (C : CX p s m args meth c cX12_toldNumber 4 (wsU yX12_toldNumber cX12_toldNumber 4 (some .int)) RX12 (some .int) G) {Rz : Int32 × St}  (z : St)  {H : Heap} {locs : List Loc} {ls : Array Slot} (hP : WP G z H) (hS : va_S (AW G) s.heap H locs) (hl : lv_has ls 4 [(0, .ref (G.2.2 172))]) (h : fn_X12_toldNumber_41    z = some Rz) : W p l e (rmd 3) s m args below meth c H locs 0 0 (QI below args s G Rz) (F0 m 41 ls []) := by
  obtain ⟨hx, hb, hml, hown, hts, hr, hlocks, hK, hG⟩ := id C
  unfold fn_X12_toldNumber_41 at h
  refine lv_aload_n hx hb dX12_toldNumber_41 rfl (lv_at hl 0 rfl) ?_
  refine lv_iconst (v := 4) hx hb dX12_toldNumber_42 (by decide) ?_
  obtain ⟨z2, h1, h⟩ := bv_s h
  refine x_Vv (Rz := z2) (As := [.int 4]) (rest := []) ⟨hx, hb, hml, hown, hts⟩ hK hP hS (kd_lt k_172 (by decide)) (cell_12 k_172) rfl (m_X12_wrong hG   h1) (cwV 1 hts (gV lw_1740 lw_1742 lw_54 lw_125 lw_1743) rfl rfl rfl (by decide +kernel) (rmd_ok (by decide) (by decide))) rfl hl.1 rfl (Nat.le_of_ble_eq_true rfl) dX12_toldNumber_43 ⟨Nat.le_refl _, Nat.le_refl _⟩ (fun H locs hP hS => ?_)
  exact pf_X12_toldNumber_46 C    z2  hP hS (lv_sub hl [0] rfl) h
def fn_X12_toldNumber (v1 : Int32) (v2 : Int32) (z : St) : Option (Int32 × St) := (if (z.1 172 2) ≤ 0 then (if (z.1 172 6) = 2 then (if (z.1 172 8) < v1 then fn_X12_toldNumber_41    z else (if (z.1 172 8) ≤ v2 then fn_X12_toldNumber_46    z else fn_X12_toldNumber_41    z)) else bv (fn_X12_wrong  2 z) (fun z6 => fn_X12_toldNumber_46    z6)) else some (0, z))
set_option maxHeartbeats 4000000 in
set_option maxRecDepth 100000 in
theorem m_X12_toldNumber {l : Launch} {G : wG} (hG : Ok G) {v1 : Int32} {v2 : Int32} {z : St} {Rz : Int32 × St}  (h : fn_X12_toldNumber  v1 v2 z = some Rz) : Met l yX12_toldNumber (wsU yX12_toldNumber cX12_toldNumber 4 (some .int)) (rmd 3) (va_Pc [.ref (G.2.2 172), .int v1, .int v2] (Pre G z)) (va_Qi (fun r u => (r, u) = Rz) (Pre G) (AW G)) 0 0 (AW G) := by
  refine Met.ofW (cc := cX12_toldNumber) (maxL := 4) (ret := (some .int)) (by decide) rfl ?_
  intro p e s m args below meth c s₁ B hml hv
  obtain ⟨rfl, hP, hK⟩ := hv
  have C : CX p s m ([.ref (G.2.2 172), .int v1, .int v2] : List Value).toArray meth c cX12_toldNumber 4 (wsU yX12_toldNumber cX12_toldNumber 4 (some .int)) RX12 (some .int) G := ⟨B.exec, B.bytes, hml, findClass_of_methodNamed B.named, atoms_spec (ws := (wsU yX12_toldNumber cX12_toldNumber 4 (some .int))) B.pre, B.returns, B.notSynchronized, hK, hG⟩
  obtain ⟨hx, hb, -, hown, hts, hr, hlocks, -, -⟩ := id C
  have hS : va_S (AW G) s.heap s.heap [] := va_S.rf
  have hl := lv_entry [.ref (G.2.2 172), .int v1, .int v2] (n := 4) (Nat.le_of_ble_eq_true rfl)
  rw [lg_entry_eq]
  generalize (lg_sl [.ref (G.2.2 172), .int v1, .int v2] ++ List.replicate (4 - (lg_sl [.ref (G.2.2 172), .int v1, .int v2]).length) Slot.unset).toArray = ls at hl ⊢
  have hl : lv_has ls 4 [(0, .ref (G.2.2 172)), (1, .int v1), (2, .int v2)] := hl
  unfold fn_X12_toldNumber at h
  refine lv_aload_n hx hb dX12_toldNumber_0 rfl (lv_at hl 0 rfl) ?_
  refine ge_12_2 hx hb hts (inU inW_X12) hown hK hP k_172 (hts _ (List.mem_cons_of_mem _ lw_1436)) dX12_toldNumber_1 ?_
  refine lv_if_le (tgt := 9) hx hb dX12_toldNumber_4 (by decide) (fun c1 => ?_) (fun c1 => ?_)
  · rw [if_pos c1] at h
    refine lv_aload_n hx hb dX12_toldNumber_9 rfl (lv_at hl 0 rfl) ?_
    refine ge_12_6 hx hb hts (inU inW_X12) hown hK hP k_172 (hts _ (List.mem_cons_of_mem _ lw_1440)) dX12_toldNumber_10 ?_
    refine lv_iconst (v := 2) hx hb dX12_toldNumber_13 (by decide) ?_
    refine lv_icmp_eq (tgt := 25) hx hb dX12_toldNumber_14 (by decide) (fun c2 => ?_) (fun c2 => ?_)
    · rw [if_pos c2] at h
      refine lv_aload_n hx hb dX12_toldNumber_25 rfl (lv_at hl 0 rfl) ?_
      refine ge_12_8 hx hb hts (inU inW_X12) hown hK hP k_172 (hts _ (List.mem_cons_of_mem _ lw_1442)) dX12_toldNumber_26 ?_
      refine lv_iload_n hx hb dX12_toldNumber_29 rfl (lv_at hl 1 rfl) ?_
      refine lv_icmp_lt (tgt := 41) hx hb dX12_toldNumber_30 (by decide) (fun c3 => ?_) (fun c3 => ?_)
      · rw [if_pos c3] at h
        exact pf_X12_toldNumber_41 C    z  hP hS (lv_sub hl [0] rfl) h
      · rw [if_neg c3] at h
        refine lv_aload_n hx hb dX12_toldNumber_33 rfl (lv_at hl 0 rfl) ?_
        refine ge_12_8 hx hb hts (inU inW_X12) hown hK hP k_172 (hts _ (List.mem_cons_of_mem _ lw_1442)) dX12_toldNumber_34 ?_
        refine lv_iload_n hx hb dX12_toldNumber_37 rfl (lv_at hl 2 rfl) ?_
        refine lv_icmp_le (tgt := 46) hx hb dX12_toldNumber_38 (by decide) (fun c4 => ?_) (fun c4 => ?_)
        · rw [if_pos c4] at h
          exact pf_X12_toldNumber_46 C    z  hP hS (lv_sub hl [0] rfl) h
        · rw [if_neg c4] at h
          exact pf_X12_toldNumber_41 C    z  hP hS (lv_sub hl [0] rfl) h
    · rw [if_neg c2] at h
      refine lv_aload_n hx hb dX12_toldNumber_17 rfl (lv_at hl 0 rfl) ?_
      refine lv_iconst (v := 2) hx hb dX12_toldNumber_18 (by decide) ?_
      obtain ⟨z6, h5, h⟩ := bv_s h
      refine x_Vv (Rz := z6) (As := [.int 2]) (rest := []) ⟨hx, hb, hml, hown, hts⟩ hK hP hS (kd_lt k_172 (by decide)) (cell_12 k_172) rfl (m_X12_wrong hG   h5) (cwV 1 hts (gV lw_1740 lw_1742 lw_54 lw_125 lw_1743) rfl rfl rfl (by decide +kernel) (rmd_ok (by decide) (by decide))) rfl hl.1 rfl (Nat.le_of_ble_eq_true rfl) dX12_toldNumber_19 ⟨Nat.le_refl _, Nat.le_refl _⟩ (fun H locs hP hS => ?_)
      refine lv_goto (tgt := 46) hx hb dX12_toldNumber_22 (by decide) ?_
      exact pf_X12_toldNumber_46 C    z6  hP hS (lv_sub hl [0] rfl) h
  · rw [if_neg c1] at h
    refine lv_iconst (v := 0) hx hb dX12_toldNumber_7 (by decide) ?_
    exact x_iret hx hb hr hlocks hK hP hS h dX12_toldNumber_8
def fn_X12_told (v1 : Int64) (v3 : Int32) (v4 : Int32) (z : St) : Option (Int32 × St) := bv (fn_X12_want  v1 z) (fun z2 => bd (fn_X12_toldNumber  v3 v4 z2) (fun r4 z5 => some (r4, z5)))
set_option maxHeartbeats 4000000 in
set_option maxRecDepth 100000 in
theorem m_X12_told {l : Launch} {G : wG} (hG : Ok G) {v1 : Int64} {v3 : Int32} {v4 : Int32} {z : St} {Rz : Int32 × St}  (h : fn_X12_told  v1 v3 v4 z = some Rz) : Met l yX12_told (wsU yX12_told cX12_told 5 (some .int)) (rmd 4) (va_Pc [.ref (G.2.2 172), .long v1, .int v3, .int v4] (Pre G z)) (va_Qi (fun r u => (r, u) = Rz) (Pre G) (AW G)) 0 0 (AW G) := by
  refine Met.ofW (cc := cX12_told) (maxL := 5) (ret := (some .int)) (by decide) rfl ?_
  intro p e s m args below meth c s₁ B hml hv
  obtain ⟨rfl, hP, hK⟩ := hv
  have C : CX p s m ([.ref (G.2.2 172), .long v1, .int v3, .int v4] : List Value).toArray meth c cX12_told 5 (wsU yX12_told cX12_told 5 (some .int)) RX12 (some .int) G := ⟨B.exec, B.bytes, hml, findClass_of_methodNamed B.named, atoms_spec (ws := (wsU yX12_told cX12_told 5 (some .int))) B.pre, B.returns, B.notSynchronized, hK, hG⟩
  obtain ⟨hx, hb, -, hown, hts, hr, hlocks, -, -⟩ := id C
  have hS : va_S (AW G) s.heap s.heap [] := va_S.rf
  have hl := lv_entry [.ref (G.2.2 172), .long v1, .int v3, .int v4] (n := 5) (Nat.le_of_ble_eq_true rfl)
  rw [lg_entry_eq]
  generalize (lg_sl [.ref (G.2.2 172), .long v1, .int v3, .int v4] ++ List.replicate (5 - (lg_sl [.ref (G.2.2 172), .long v1, .int v3, .int v4]).length) Slot.unset).toArray = ls at hl ⊢
  have hl : lv_has ls 5 [(0, .ref (G.2.2 172)), (1, .long v1), (3, .int v3), (4, .int v4)] := hl
  unfold fn_X12_told at h
  refine lv_aload_n hx hb dX12_told_0 rfl (lv_at hl 0 rfl) ?_
  refine lv_lload_n hx hb dX12_told_1 rfl (lv_at hl 1 rfl) ?_
  obtain ⟨z2, h1, h⟩ := bv_s h
  refine x_Vv (Rz := z2) (As := [.long v1]) (rest := []) ⟨hx, hb, hml, hown, hts⟩ hK hP hS (kd_lt k_172 (by decide)) (cell_12 k_172) rfl (m_X12_want hG   h1) (cwV 1 hts (gV lw_1752 lw_1754 lw_57 lw_125 lw_1755) rfl rfl rfl (by decide +kernel) (rmd_ok (by decide) (by decide))) rfl hl.1 rfl (Nat.le_of_ble_eq_true rfl) dX12_told_2 ⟨Nat.le_refl _, Nat.le_refl _⟩ (fun H locs hP hS => ?_)
  refine lv_aload_n hx hb dX12_told_5 rfl (lv_at hl 0 rfl) ?_
  refine lv_iload_n hx hb dX12_told_6 rfl (lv_at hl 2 rfl) ?_
  refine lv_iload hx hb dX12_told_7 (lv_at hl 3 rfl) ?_
  obtain ⟨r4, z5, h3, h⟩ := bd_s h
  refine x_Vi (Rz := (r4, z5)) (As := [.int v3, .int v4]) (rest := []) ⟨hx, hb, hml, hown, hts⟩ hK hP hS (kd_lt k_172 (by decide)) (cell_12 k_172) rfl (m_X12_toldNumber hG   h3) (cwV 2 hts (gV lw_1744 lw_1746 lw_55 lw_125 lw_1747) rfl rfl rfl (by decide +kernel) (rmd_ok (by decide) (by decide))) rfl hl.1 rfl (Nat.le_of_ble_eq_true rfl) dX12_told_9 ⟨Nat.le_refl _, Nat.le_refl _⟩ (fun H locs hP hS => ?_)
  exact x_iret hx hb hr hlocks hK hP hS h dX12_told_12
def fn_X12_option (v1 : Int64) (v3 : Int32) (v4 : Int32) (z : St) : Option (Int32 × St) := (if (z.1 172 2) = 0 then bd (fn_X12_isWord  v1 z) (fun r3 z4 => (if r3 = 0 then some (v4, z4) else bd (fn_X12_told  v1 0 v3 z4) (fun r7 z8 => some (r7, z8)))) else some (v4, z))
set_option maxHeartbeats 4000000 in
set_option maxRecDepth 100000 in
theorem m_X12_option {l : Launch} {G : wG} (hG : Ok G) {v1 : Int64} {v3 : Int32} {v4 : Int32} {z : St} {Rz : Int32 × St}  (h : fn_X12_option  v1 v3 v4 z = some Rz) : Met l yX12_option (wsU yX12_option cX12_option 5 (some .int)) (rmd 5) (va_Pc [.ref (G.2.2 172), .long v1, .int v3, .int v4] (Pre G z)) (va_Qi (fun r u => (r, u) = Rz) (Pre G) (AW G)) 0 0 (AW G) := by
  refine Met.ofW (cc := cX12_option) (maxL := 5) (ret := (some .int)) (by decide) rfl ?_
  intro p e s m args below meth c s₁ B hml hv
  obtain ⟨rfl, hP, hK⟩ := hv
  have C : CX p s m ([.ref (G.2.2 172), .long v1, .int v3, .int v4] : List Value).toArray meth c cX12_option 5 (wsU yX12_option cX12_option 5 (some .int)) RX12 (some .int) G := ⟨B.exec, B.bytes, hml, findClass_of_methodNamed B.named, atoms_spec (ws := (wsU yX12_option cX12_option 5 (some .int))) B.pre, B.returns, B.notSynchronized, hK, hG⟩
  obtain ⟨hx, hb, -, hown, hts, hr, hlocks, -, -⟩ := id C
  have hS : va_S (AW G) s.heap s.heap [] := va_S.rf
  have hl := lv_entry [.ref (G.2.2 172), .long v1, .int v3, .int v4] (n := 5) (Nat.le_of_ble_eq_true rfl)
  rw [lg_entry_eq]
  generalize (lg_sl [.ref (G.2.2 172), .long v1, .int v3, .int v4] ++ List.replicate (5 - (lg_sl [.ref (G.2.2 172), .long v1, .int v3, .int v4]).length) Slot.unset).toArray = ls at hl ⊢
  have hl : lv_has ls 5 [(0, .ref (G.2.2 172)), (1, .long v1), (3, .int v3), (4, .int v4)] := hl
  unfold fn_X12_option at h
  refine lv_aload_n hx hb dX12_option_0 rfl (lv_at hl 0 rfl) ?_
  refine ge_12_2 hx hb hts (inU inW_X12) hown hK hP k_172 (hts _ (List.mem_cons_of_mem _ lw_1436)) dX12_option_1 ?_
  refine lv_if_ne (tgt := 25) hx hb dX12_option_4 (by decide) (fun c1 => ?_) (fun c1 => ?_)
  · rw [if_neg c1] at h
    refine lv_iload hx hb dX12_option_25 (lv_at hl 3 rfl) ?_
    exact x_iret hx hb hr hlocks hK hP hS h dX12_option_27
  · rw [if_pos c1] at h
    refine lv_aload_n hx hb dX12_option_7 rfl (lv_at hl 0 rfl) ?_
    refine lv_lload_n hx hb dX12_option_8 rfl (lv_at hl 1 rfl) ?_
    obtain ⟨r3, z4, h2, h⟩ := bd_s h
    refine x_Vi (Rz := (r3, z4)) (As := [.long v1]) (rest := []) ⟨hx, hb, hml, hown, hts⟩ hK hP hS (kd_lt k_172 (by decide)) (cell_12 k_172) rfl (m_X12_isWord hG   h2) (cwV 1 hts (gV lw_1702 lw_1704 lw_49 lw_125 lw_1705) rfl rfl rfl (by decide +kernel) (rmd_ok (by decide) (by decide))) rfl hl.1 rfl (Nat.le_of_ble_eq_true rfl) dX12_option_9 ⟨Nat.le_refl _, Nat.le_refl _⟩ (fun H locs hP hS => ?_)
    refine lv_if_eq (tgt := 25) hx hb dX12_option_12 (by decide) (fun c5 => ?_) (fun c5 => ?_)
    · rw [if_pos c5] at h
      refine lv_iload hx hb dX12_option_25 (lv_at hl 3 rfl) ?_
      exact x_iret hx hb hr hlocks hK hP hS h dX12_option_27
    · rw [if_neg c5] at h
      refine lv_aload_n hx hb dX12_option_15 rfl (lv_at hl 0 rfl) ?_
      refine lv_lload_n hx hb dX12_option_16 rfl (lv_at hl 1 rfl) ?_
      refine lv_iconst (v := 0) hx hb dX12_option_17 (by decide) ?_
      refine lv_iload_n hx hb dX12_option_18 rfl (lv_at hl 2 rfl) ?_
      obtain ⟨r7, z8, h6, h⟩ := bd_s h
      refine x_Vi (Rz := (r7, z8)) (As := [.long v1, .int 0, .int v3]) (rest := []) ⟨hx, hb, hml, hown, hts⟩ hK hP hS (kd_lt k_172 (by decide)) (cell_12 k_172) rfl (m_X12_told hG   h6) (cwV 3 hts (gV lw_1748 lw_1750 lw_56 lw_125 lw_1751) rfl rfl rfl (by decide +kernel) (rmd_ok (by decide) (by decide))) rfl hl.1 rfl (Nat.le_of_ble_eq_true rfl) dX12_option_19 ⟨Nat.le_refl _, Nat.le_refl _⟩ (fun H locs hP hS => ?_)
      refine lv_goto (tgt := 27) hx hb dX12_option_22 (by decide) ?_
      exact x_iret hx hb hr hlocks hK hP hS h dX12_option_27
def fn_X12_newName_51 (k18 : Int32 → Int32 → Int32 → St → Option (St)) (v1 : Int32) (v2 : Int32) (v3 : Int32) (z : St) : Option (St) := k18 v1 v2 (v3 + 1) z
set_option maxHeartbeats 4000000 in
set_option maxRecDepth 100000 in
theorem pf_X12_newName_51 {p : Program} {l : Launch} {e : Env} {s : State} {m : MethodId} {args : Array Value} {below : List Frame} {meth : Method} {c : Code} {G : wG} (C : CX p s m args meth c cX12_newName 4 (wsU yX12_newName cX12_newName 4 none) RX12 none G) {Rz : St} {k18 : Int32 → Int32 → Int32 → St → Option (St)} (hk_18 : ∀ (v1 : Int32) (v2 : Int32) (v3 : Int32) (z : St)  (H : Heap) (locs : List Loc) (ls : Array Slot), WP G z H → va_S (AW G) s.heap H locs → lv_has ls 4 [(0, .ref (G.2.2 172)), (1, .int v1), (2, .int v2), (3, .int v3)] → k18 v1 v2 v3 z = some Rz → W p l e (rmd 3) s m args below meth c H locs 0 0 (QV below args s G Rz) (F0 m 18 ls [])) (v1 : Int32) (v2 : Int32) (v3 : Int32) (z : St)  {H : Heap} {locs : List Loc} {ls : Array Slot} (hP : WP G z H) (hS : va_S (AW G) s.heap H locs) (hl : lv_has ls 4 [(0, .ref (G.2.2 172)), (1, .int v1), (2, .int v2), (3, .int v3)]) (h : fn_X12_newName_51  k18 v1 v2 v3 z = some Rz) : W p l e (rmd 3) s m args below meth c H locs 0 0 (QV below args s G Rz) (F0 m 51 ls []) := by
  obtain ⟨hx, hb, hml, hown, hts, hr, hlocks, hK, hG⟩ := id C
  unfold fn_X12_newName_51 at h
  refine lv_iinc (v := (v3 + 1)) (lv' := [(3, .int (v3 + 1)), (0, .ref (G.2.2 172)), (1, .int v1), (2, .int v2)]) hx hb dX12_newName_51 hl (k := 3) rfl rfl (by decide) rfl (fun ls hl => ?_)
  refine lv_goto (tgt := 18) hx hb dX12_newName_54 (by decide) ?_
  exact hk_18 v1 v2 (v3 + 1) z  _ _ _ hP hS (lv_sub hl [1, 2, 3, 0] rfl) h
def fn_X12_newName_57 (v1 : Int32) (v2 : Int32) (z : St) : Option (St) := (if (z.1 172 2) ≤ 0 then gd (ix (v1 + v2) 9) (nm (sJ z 174 (Int32.toNatClampNeg (v1 + v2)) (z.2 172 9)) (fun z3 => bv (fn_X12_token   z3) (fun z5 => some z5))) else some z)
set_option maxHeartbeats 4000000 in
set_option maxRecDepth 100000 in
theorem pf_X12_newName_57 {p : Program} {l : Launch} {e : Env} {s : State} {m : MethodId} {args : Array Value} {below : List Frame} {meth : Method} {c : Code} {G : wG} (C : CX p s m args meth c cX12_newName 4 (wsU yX12_newName cX12_newName 4 none) RX12 none G) {Rz : St} (v1 : Int32) (v2 : Int32) (z : St)  {H : Heap} {locs : List Loc} {ls : Array Slot} (hP : WP G z H) (hS : va_S (AW G) s.heap H locs) (hl : lv_has ls 4 [(0, .ref (G.2.2 172)), (1, .int v1), (2, .int v2)]) (h : fn_X12_newName_57   v1 v2 z = some Rz) : W p l e (rmd 3) s m args below meth c H locs 0 0 (QV below args s G Rz) (F0 m 57 ls []) := by
  obtain ⟨hx, hb, hml, hown, hts, hr, hlocks, hK, hG⟩ := id C
  unfold fn_X12_newName_57 at h
  refine lv_aload_n hx hb dX12_newName_57 rfl (lv_at hl 0 rfl) ?_
  refine ge_12_2 hx hb hts (inU inW_X12) hown hK hP k_172 (hts _ (List.mem_cons_of_mem _ lw_1436)) dX12_newName_58 ?_
  refine lv_if_le (tgt := 65) hx hb dX12_newName_61 (by decide) (fun c1 => ?_) (fun c1 => ?_)
  · rw [if_pos c1] at h
    refine lv_aload_n hx hb dX12_newName_65 rfl (lv_at hl 0 rfl) ?_
    refine ge_12_10 hx hb hts (inU inW_X12) hown hK hP k_172 (hts _ (List.mem_cons_of_mem _ lw_1444)) dX12_newName_66 ?_
    refine lv_iload_n hx hb dX12_newName_69 rfl (lv_at hl 1 rfl) ?_
    refine lv_iload_n hx hb dX12_newName_70 rfl (lv_at hl 2 rfl) ?_
    refine lv_iadd hx hb dX12_newName_71 ?_
    refine lv_aload_n hx hb dX12_newName_72 rfl (lv_at hl 0 rfl) ?_
    refine ge_12_9 hx hb hts (inU inW_X12) hown hK hP k_172 (hts _ (List.mem_cons_of_mem _ lw_1443)) dX12_newName_73 ?_
    obtain ⟨g2, h⟩ := gd_s h
    obtain ⟨z3, e_z3, h⟩ := nm_s h
    refine xs_15 hx hb hK hG hP hS k_174 l_174 (ix_in g2) dX12_newName_76 (fun H locs hP hS => ?_)
    rw [← e_z3] at hP
    refine lv_aload_n hx hb dX12_newName_77 rfl (lv_at hl 0 rfl) ?_
    obtain ⟨z5, h4, h⟩ := bv_s h
    refine x_Vv (Rz := z5) (As := []) (rest := []) ⟨hx, hb, hml, hown, hts⟩ hK hP hS (kd_lt k_172 (by decide)) (cell_12 k_172) rfl (m_X12_token hG   h4) (cwV 0 hts (gV lw_1680 lw_1682 lw_46 lw_125 lw_1683) rfl rfl rfl (by decide +kernel) (rmd_ok (by decide) (by decide))) rfl hl.1 rfl (Nat.le_of_ble_eq_true rfl) dX12_newName_78 ⟨Nat.le_refl _, Nat.le_refl _⟩ (fun H locs hP hS => ?_)
    exact x_vret hx hb hr hlocks hK hP hS h dX12_newName_81
  · rw [if_neg c1] at h
    exact x_vret hx hb hr hlocks hK hP hS h dX12_newName_64
def fn_X12_newName_18 : Nat → Int32 → Int32 → Int32 → St → Option (St)
  | 0, _, _, _, _ => none
  | n + 1, v1, v2, v3, z => (if v2 ≤ v3 then fn_X12_newName_57   v1 v2 z else (if (z.1 172 2) = 0 then gd (ix (v1 + v3) 9) ((if (lg_cmp (z.2 174 (Int32.toNatClampNeg (v1 + v3))) (z.2 172 9)) = 0 then bv (fn_X12_wrong  3 z) (fun z6 => fn_X12_newName_51  (fn_X12_newName_18   n) v1 v2 v3 z6) else fn_X12_newName_51  (fn_X12_newName_18   n) v1 v2 v3 z)) else fn_X12_newName_57   v1 v2 z))
set_option maxHeartbeats 4000000 in
set_option maxRecDepth 100000 in
theorem pf_X12_newName_18 {p : Program} {l : Launch} {e : Env} {s : State} {m : MethodId} {args : Array Value} {below : List Frame} {meth : Method} {c : Code} {G : wG} (C : CX p s m args meth c cX12_newName 4 (wsU yX12_newName cX12_newName 4 none) RX12 none G) {Rz : St} : ∀ (n : Nat) (v1 : Int32) (v2 : Int32) (v3 : Int32) (z : St)  (H : Heap) (locs : List Loc) (ls : Array Slot), WP G z H → va_S (AW G) s.heap H locs → lv_has ls 4 [(0, .ref (G.2.2 172)), (1, .int v1), (2, .int v2), (3, .int v3)] → fn_X12_newName_18   n v1 v2 v3 z = some Rz → W p l e (rmd 3) s m args below meth c H locs 0 0 (QV below args s G Rz) (F0 m 18 ls []) := by
  obtain ⟨hx, hb, hml, hown, hts, hr, hlocks, hK, hG⟩ := id C
  intro n
  induction n with
  | zero => intro v1 v2 v3 z  H locs ls hP hS hl h; cases h
  | succ n ih =>
    intro v1 v2 v3 z  H locs ls hP hS hl h
    rw [fn_X12_newName_18] at h
    refine lv_iload_n hx hb dX12_newName_18 rfl (lv_at hl 3 rfl) ?_
    refine lv_iload_n hx hb dX12_newName_19 rfl (lv_at hl 2 rfl) ?_
    refine lv_icmp_ge (tgt := 57) hx hb dX12_newName_20 (by decide) (fun c1 => ?_) (fun c1 => ?_)
    · rw [if_pos c1] at h
      exact pf_X12_newName_57 C   v1 v2 z  hP hS (lv_sub hl [0, 1, 2] rfl) h
    · rw [if_neg c1] at h
      refine lv_aload_n hx hb dX12_newName_23 rfl (lv_at hl 0 rfl) ?_
      refine ge_12_2 hx hb hts (inU inW_X12) hown hK hP k_172 (hts _ (List.mem_cons_of_mem _ lw_1436)) dX12_newName_24 ?_
      refine lv_if_ne (tgt := 57) hx hb dX12_newName_27 (by decide) (fun c2 => ?_) (fun c2 => ?_)
      · rw [if_neg c2] at h
        exact pf_X12_newName_57 C   v1 v2 z  hP hS (lv_sub hl [0, 1, 2] rfl) h
      · rw [if_pos c2] at h
        refine lv_aload_n hx hb dX12_newName_30 rfl (lv_at hl 0 rfl) ?_
        refine ge_12_10 hx hb hts (inU inW_X12) hown hK hP k_172 (hts _ (List.mem_cons_of_mem _ lw_1444)) dX12_newName_31 ?_
        refine lv_iload_n hx hb dX12_newName_34 rfl (lv_at hl 1 rfl) ?_
        refine lv_iload_n hx hb dX12_newName_35 rfl (lv_at hl 3 rfl) ?_
        refine lv_iadd hx hb dX12_newName_36 ?_
        obtain ⟨g3, h⟩ := gd_s h
        refine xl_15 hx hb hK hP k_174 l_174 (ix_in g3) dX12_newName_37 ?_
        refine lv_aload_n hx hb dX12_newName_38 rfl (lv_at hl 0 rfl) ?_
        refine ge_12_9 hx hb hts (inU inW_X12) hown hK hP k_172 (hts _ (List.mem_cons_of_mem _ lw_1443)) dX12_newName_39 ?_
        refine W.lcmp hx hb dX12_newName_42 ?_
        refine lv_if_ne (tgt := 51) hx hb dX12_newName_43 (by decide) (fun c4 => ?_) (fun c4 => ?_)
        · rw [if_neg c4] at h
          exact pf_X12_newName_51 C  ih v1 v2 v3 z  hP hS (lv_sub hl [0, 1, 2, 3] rfl) h
        · rw [if_pos c4] at h
          refine lv_aload_n hx hb dX12_newName_46 rfl (lv_at hl 0 rfl) ?_
          refine lv_iconst (v := 3) hx hb dX12_newName_47 (by decide) ?_
          obtain ⟨z6, h5, h⟩ := bv_s h
          refine x_Vv (Rz := z6) (As := [.int 3]) (rest := []) ⟨hx, hb, hml, hown, hts⟩ hK hP hS (kd_lt k_172 (by decide)) (cell_12 k_172) rfl (m_X12_wrong hG   h5) (cwV 1 hts (gV lw_1740 lw_1742 lw_54 lw_125 lw_1743) rfl rfl rfl (by decide +kernel) (rmd_ok (by decide) (by decide))) rfl hl.1 rfl (Nat.le_of_ble_eq_true rfl) dX12_newName_48 ⟨Nat.le_refl _, Nat.le_refl _⟩ (fun H locs hP hS => ?_)
          exact pf_X12_newName_51 C  ih v1 v2 v3 z6  hP hS (lv_sub hl [0, 1, 2, 3] rfl) h
def fn_X12_newName_16 (v1 : Int32) (v2 : Int32) (z : St) : Option (St) := fn_X12_newName_18   fu v1 v2 0 z
set_option maxHeartbeats 4000000 in
set_option maxRecDepth 100000 in
theorem pf_X12_newName_16 {p : Program} {l : Launch} {e : Env} {s : State} {m : MethodId} {args : Array Value} {below : List Frame} {meth : Method} {c : Code} {G : wG} (C : CX p s m args meth c cX12_newName 4 (wsU yX12_newName cX12_newName 4 none) RX12 none G) {Rz : St} (v1 : Int32) (v2 : Int32) (z : St)  {H : Heap} {locs : List Loc} {ls : Array Slot} (hP : WP G z H) (hS : va_S (AW G) s.heap H locs) (hl : lv_has ls 4 [(0, .ref (G.2.2 172)), (1, .int v1), (2, .int v2)]) (h : fn_X12_newName_16   v1 v2 z = some Rz) : W p l e (rmd 3) s m args below meth c H locs 0 0 (QV below args s G Rz) (F0 m 16 ls []) := by
  obtain ⟨hx, hb, hml, hown, hts, hr, hlocks, hK, hG⟩ := id C
  unfold fn_X12_newName_16 at h
  refine lv_iconst (v := 0) hx hb dX12_newName_16 (by decide) ?_
  refine lv_istore_n (lv' := [(3, .int 0), (0, .ref (G.2.2 172)), (1, .int v1), (2, .int v2)]) hx hb dX12_newName_17 rfl hl (by decide) rfl (fun ls hl => ?_)
  exact pf_X12_newName_18 C   fu v1 v2 0 z  _ _ _ hP hS (lv_sub hl [1, 2, 3, 0] rfl) h
def fn_X12_newName (v1 : Int32) (v2 : Int32) (z : St) : Option (St) := bv (fn_X12_token   z) (fun z2 => bd (fn_X12_isName   z2) (fun r4 z5 => (if r4 = 0 then bv (fn_X12_wrong  2 z5) (fun z8 => fn_X12_newName_16   v1 v2 z8) else fn_X12_newName_16   v1 v2 z5)))
set_option maxHeartbeats 4000000 in
set_option maxRecDepth 100000 in
theorem m_X12_newName {l : Launch} {G : wG} (hG : Ok G) {v1 : Int32} {v2 : Int32} {z : St} {Rz : St}  (h : fn_X12_newName  v1 v2 z = some Rz) : Met l yX12_newName (wsU yX12_newName cX12_newName 4 none) (rmd 3) (va_Pc [.ref (G.2.2 172), .int v1, .int v2] (Pre G z)) (va_Qv (fun u => u = Rz) (Pre G) (AW G)) 0 0 (AW G) := by
  refine Met.ofW (cc := cX12_newName) (maxL := 4) (ret := none) (by decide) rfl ?_
  intro p e s m args below meth c s₁ B hml hv
  obtain ⟨rfl, hP, hK⟩ := hv
  have C : CX p s m ([.ref (G.2.2 172), .int v1, .int v2] : List Value).toArray meth c cX12_newName 4 (wsU yX12_newName cX12_newName 4 none) RX12 none G := ⟨B.exec, B.bytes, hml, findClass_of_methodNamed B.named, atoms_spec (ws := (wsU yX12_newName cX12_newName 4 none)) B.pre, B.returns, B.notSynchronized, hK, hG⟩
  obtain ⟨hx, hb, -, hown, hts, hr, hlocks, -, -⟩ := id C
  have hS : va_S (AW G) s.heap s.heap [] := va_S.rf
  have hl := lv_entry [.ref (G.2.2 172), .int v1, .int v2] (n := 4) (Nat.le_of_ble_eq_true rfl)
  rw [lg_entry_eq]
  generalize (lg_sl [.ref (G.2.2 172), .int v1, .int v2] ++ List.replicate (4 - (lg_sl [.ref (G.2.2 172), .int v1, .int v2]).length) Slot.unset).toArray = ls at hl ⊢
  have hl : lv_has ls 4 [(0, .ref (G.2.2 172)), (1, .int v1), (2, .int v2)] := hl
  unfold fn_X12_newName at h
  refine lv_aload_n hx hb dX12_newName_0 rfl (lv_at hl 0 rfl) ?_
  obtain ⟨z2, h1, h⟩ := bv_s h
  refine x_Vv (Rz := z2) (As := []) (rest := []) ⟨hx, hb, hml, hown, hts⟩ hK hP hS (kd_lt k_172 (by decide)) (cell_12 k_172) rfl (m_X12_token hG   h1) (cwV 0 hts (gV lw_1680 lw_1682 lw_46 lw_125 lw_1683) rfl rfl rfl (by decide +kernel) (rmd_ok (by decide) (by decide))) rfl hl.1 rfl (Nat.le_of_ble_eq_true rfl) dX12_newName_1 ⟨Nat.le_refl _, Nat.le_refl _⟩ (fun H locs hP hS => ?_)
  refine lv_aload_n hx hb dX12_newName_4 rfl (lv_at hl 0 rfl) ?_
  obtain ⟨r4, z5, h3, h⟩ := bd_s h
  refine x_Vi (Rz := (r4, z5)) (As := []) (rest := []) ⟨hx, hb, hml, hown, hts⟩ hK hP hS (kd_lt k_172 (by decide)) (cell_12 k_172) rfl (m_X12_isName hG   h3) (cwV 0 hts (gV lw_1714 lw_1716 lw_52 lw_125 lw_1717) rfl rfl rfl (by decide +kernel) (rmd_ok (by decide) (by decide))) rfl hl.1 rfl (Nat.le_of_ble_eq_true rfl) dX12_newName_5 ⟨Nat.le_refl _, Nat.le_refl _⟩ (fun H locs hP hS => ?_)
  refine lv_if_ne (tgt := 16) hx hb dX12_newName_8 (by decide) (fun c6 => ?_) (fun c6 => ?_)
  · rw [if_neg c6] at h
    exact pf_X12_newName_16 C   v1 v2 z5  hP hS (lv_sub hl [0, 1, 2] rfl) h
  · rw [if_pos c6] at h
    refine lv_aload_n hx hb dX12_newName_11 rfl (lv_at hl 0 rfl) ?_
    refine lv_iconst (v := 2) hx hb dX12_newName_12 (by decide) ?_
    obtain ⟨z8, h7, h⟩ := bv_s h
    refine x_Vv (Rz := z8) (As := [.int 2]) (rest := []) ⟨hx, hb, hml, hown, hts⟩ hK hP hS (kd_lt k_172 (by decide)) (cell_12 k_172) rfl (m_X12_wrong hG   h7) (cwV 1 hts (gV lw_1740 lw_1742 lw_54 lw_125 lw_1743) rfl rfl rfl (by decide +kernel) (rmd_ok (by decide) (by decide))) rfl hl.1 rfl (Nat.le_of_ble_eq_true rfl) dX12_newName_13 ⟨Nat.le_refl _, Nat.le_refl _⟩ (fun H locs hP hS => ?_)
    exact pf_X12_newName_16 C   v1 v2 z8  hP hS (lv_sub hl [0, 1, 2] rfl) h
def fn_X12_add (v1 : Int32) (v2 : Int32) (z : St) : Option (St) := gd (ix (z.1 172 20) 2) (gd (ix ((320 * (z.1 172 20)) + (z.1 177 (Int32.toNatClampNeg (z.1 172 20)))) 640) (nm (sI z 175 (Int32.toNatClampNeg ((320 * (z.1 172 20)) + (z.1 177 (Int32.toNatClampNeg (z.1 172 20))))) v1) (fun z3 => gd (ix (z3.1 172 20) 2) (gd (ix ((320 * (z3.1 172 20)) + (z3.1 177 (Int32.toNatClampNeg (z3.1 172 20)))) 640) (nm (sI z3 176 (Int32.toNatClampNeg ((320 * (z3.1 172 20)) + (z3.1 177 (Int32.toNatClampNeg (z3.1 172 20))))) v2) (fun z6 => gd (ix (z6.1 172 20) 2) (gd (ix (z6.1 172 20) 2) (nm (sI z6 177 (Int32.toNatClampNeg (z6.1 172 20)) ((z6.1 177 (Int32.toNatClampNeg (z6.1 172 20))) + 1)) (fun z9 => some z9)))))))))
set_option maxHeartbeats 4000000 in
set_option maxRecDepth 100000 in
theorem m_X12_add {l : Launch} {G : wG} (hG : Ok G) {v1 : Int32} {v2 : Int32} {z : St} {Rz : St}  (h : fn_X12_add  v1 v2 z = some Rz) : Met l yX12_add (wsU yX12_add cX12_add 3 none) (rmd 1) (va_Pc [.ref (G.2.2 172), .int v1, .int v2] (Pre G z)) (va_Qv (fun u => u = Rz) (Pre G) (AW G)) 0 0 (AW G) := by
  refine Met.ofW (cc := cX12_add) (maxL := 3) (ret := none) (by decide) rfl ?_
  intro p e s m args below meth c s₁ B hml hv
  obtain ⟨rfl, hP, hK⟩ := hv
  have C : CX p s m ([.ref (G.2.2 172), .int v1, .int v2] : List Value).toArray meth c cX12_add 3 (wsU yX12_add cX12_add 3 none) RX12 none G := ⟨B.exec, B.bytes, hml, findClass_of_methodNamed B.named, atoms_spec (ws := (wsU yX12_add cX12_add 3 none)) B.pre, B.returns, B.notSynchronized, hK, hG⟩
  obtain ⟨hx, hb, -, hown, hts, hr, hlocks, -, -⟩ := id C
  have hS : va_S (AW G) s.heap s.heap [] := va_S.rf
  have hl := lv_entry [.ref (G.2.2 172), .int v1, .int v2] (n := 3) (Nat.le_of_ble_eq_true rfl)
  rw [lg_entry_eq]
  generalize (lg_sl [.ref (G.2.2 172), .int v1, .int v2] ++ List.replicate (3 - (lg_sl [.ref (G.2.2 172), .int v1, .int v2]).length) Slot.unset).toArray = ls at hl ⊢
  have hl : lv_has ls 3 [(0, .ref (G.2.2 172)), (1, .int v1), (2, .int v2)] := hl
  unfold fn_X12_add at h
  refine lv_aload_n hx hb dX12_add_0 rfl (lv_at hl 0 rfl) ?_
  refine ge_12_11 hx hb hts (inU inW_X12) hown hK hP k_172 (hts _ (List.mem_cons_of_mem _ lw_1445)) dX12_add_1 ?_
  refine lv_sipush (v := 320) hx hb dX12_add_4 (by decide) ?_
  refine lv_aload_n hx hb dX12_add_7 rfl (lv_at hl 0 rfl) ?_
  refine ge_12_20 hx hb hts (inU inW_X12) hown hK hP k_172 (hts _ (List.mem_cons_of_mem _ lw_1454)) dX12_add_8 ?_
  refine lv_imul hx hb dX12_add_11 ?_
  refine lv_aload_n hx hb dX12_add_12 rfl (lv_at hl 0 rfl) ?_
  refine ge_12_13 hx hb hts (inU inW_X12) hown hK hP k_172 (hts _ (List.mem_cons_of_mem _ lw_1447)) dX12_add_13 ?_
  refine lv_aload_n hx hb dX12_add_16 rfl (lv_at hl 0 rfl) ?_
  refine ge_12_20 hx hb hts (inU inW_X12) hown hK hP k_172 (hts _ (List.mem_cons_of_mem _ lw_1454)) dX12_add_17 ?_
  obtain ⟨g1, h⟩ := gd_s h
  refine xl_14 hx hb hK hP k_177 l_177 (ix_in g1) dX12_add_20 ?_
  refine lv_iadd hx hb dX12_add_21 ?_
  refine lv_iload_n hx hb dX12_add_22 rfl (lv_at hl 1 rfl) ?_
  obtain ⟨g2, h⟩ := gd_s h
  obtain ⟨z3, e_z3, h⟩ := nm_s h
  refine xs_14 hx hb hK hG hP hS k_175 l_175 (ix_in g2) dX12_add_23 (fun H locs hP hS => ?_)
  rw [← e_z3] at hP
  refine lv_aload_n hx hb dX12_add_24 rfl (lv_at hl 0 rfl) ?_
  refine ge_12_12 hx hb hts (inU inW_X12) hown hK hP k_172 (hts _ (List.mem_cons_of_mem _ lw_1446)) dX12_add_25 ?_
  refine lv_sipush (v := 320) hx hb dX12_add_28 (by decide) ?_
  refine lv_aload_n hx hb dX12_add_31 rfl (lv_at hl 0 rfl) ?_
  refine ge_12_20 hx hb hts (inU inW_X12) hown hK hP k_172 (hts _ (List.mem_cons_of_mem _ lw_1454)) dX12_add_32 ?_
  refine lv_imul hx hb dX12_add_35 ?_
  refine lv_aload_n hx hb dX12_add_36 rfl (lv_at hl 0 rfl) ?_
  refine ge_12_13 hx hb hts (inU inW_X12) hown hK hP k_172 (hts _ (List.mem_cons_of_mem _ lw_1447)) dX12_add_37 ?_
  refine lv_aload_n hx hb dX12_add_40 rfl (lv_at hl 0 rfl) ?_
  refine ge_12_20 hx hb hts (inU inW_X12) hown hK hP k_172 (hts _ (List.mem_cons_of_mem _ lw_1454)) dX12_add_41 ?_
  obtain ⟨g4, h⟩ := gd_s h
  refine xl_14 hx hb hK hP k_177 l_177 (ix_in g4) dX12_add_44 ?_
  refine lv_iadd hx hb dX12_add_45 ?_
  refine lv_iload_n hx hb dX12_add_46 rfl (lv_at hl 2 rfl) ?_
  obtain ⟨g5, h⟩ := gd_s h
  obtain ⟨z6, e_z6, h⟩ := nm_s h
  refine xs_14 hx hb hK hG hP hS k_176 l_176 (ix_in g5) dX12_add_47 (fun H locs hP hS => ?_)
  rw [← e_z6] at hP
  refine lv_aload_n hx hb dX12_add_48 rfl (lv_at hl 0 rfl) ?_
  refine ge_12_13 hx hb hts (inU inW_X12) hown hK hP k_172 (hts _ (List.mem_cons_of_mem _ lw_1447)) dX12_add_49 ?_
  refine lv_aload_n hx hb dX12_add_52 rfl (lv_at hl 0 rfl) ?_
  refine ge_12_20 hx hb hts (inU inW_X12) hown hK hP k_172 (hts _ (List.mem_cons_of_mem _ lw_1454)) dX12_add_53 ?_
  refine lv_dup2_11 hx hb dX12_add_56 rfl rfl ?_
  obtain ⟨g7, h⟩ := gd_s h
  refine xl_14 hx hb hK hP k_177 l_177 (ix_in g7) dX12_add_57 ?_
  refine lv_iconst (v := 1) hx hb dX12_add_58 (by decide) ?_
  refine lv_iadd hx hb dX12_add_59 ?_
  obtain ⟨g8, h⟩ := gd_s h
  obtain ⟨z9, e_z9, h⟩ := nm_s h
  refine xs_14 hx hb hK hG hP hS k_177 l_177 (ix_in g8) dX12_add_60 (fun H locs hP hS => ?_)
  rw [← e_z9] at hP
  exact x_vret hx hb hr hlocks hK hP hS h dX12_add_61
def fn_X12_tight (v0 : Int32) (z : St) : Option (Int32 × St) := (if v0 = 21 then some (3, z) else (if v0 = 38 then some (2, z) else (if v0 = 43 then some (5, z) else (if v0 = 45 then some (5, z) else (if v0 = 60 then some (4, z) else (if v0 = 61 then some (4, z) else (if v0 = 62 then some (4, z) else (if v0 = 124 then some (1, z) else (some (6, z))))))))))
set_option maxHeartbeats 4000000 in
set_option maxRecDepth 100000 in
theorem m_X12_tight {l : Launch} {G : wG} (hG : Ok G) {v0 : Int32} {z : St} {Rz : Int32 × St}  (h : fn_X12_tight  v0 z = some Rz) : Met l yX12_tight (wsU yX12_tight cX12_tight 1 (some .int)) (rmd 1) (va_Pc [.int v0] (Pre G z)) (va_Qi (fun r u => (r, u) = Rz) (Pre G) (AW G)) 0 0 (AW G) := by
  refine Met.ofW (cc := cX12_tight) (maxL := 1) (ret := (some .int)) (by decide) rfl ?_
  intro p e s m args below meth c s₁ B hml hv
  obtain ⟨rfl, hP, hK⟩ := hv
  have C : CX p s m ([.int v0] : List Value).toArray meth c cX12_tight 1 (wsU yX12_tight cX12_tight 1 (some .int)) RX12 (some .int) G := ⟨B.exec, B.bytes, hml, findClass_of_methodNamed B.named, atoms_spec (ws := (wsU yX12_tight cX12_tight 1 (some .int))) B.pre, B.returns, B.notSynchronized, hK, hG⟩
  obtain ⟨hx, hb, -, hown, hts, hr, hlocks, -, -⟩ := id C
  have hS : va_S (AW G) s.heap s.heap [] := va_S.rf
  have hl := lv_entry [.int v0] (n := 1) (Nat.le_of_ble_eq_true rfl)
  rw [lg_entry_eq]
  generalize (lg_sl [.int v0] ++ List.replicate (1 - (lg_sl [.int v0]).length) Slot.unset).toArray = ls at hl ⊢
  have hl : lv_has ls 1 [(0, .int v0)] := hl
  unfold fn_X12_tight at h
  refine lv_iload_n hx hb dX12_tight_0 rfl (lv_at hl 0 rfl) ?_
  by_cases c1 : v0 = 21
  · rw [if_pos c1] at h
    refine lv_lookup (off := 79) (tgt := 80) hx hb dX12_tight_1 (by decide) (by rw [c1]; rfl) (by decide) ?_
    refine lv_iconst (v := 3) hx hb dX12_tight_80 (by decide) ?_
    exact x_iret hx hb hr hlocks hK hP hS h dX12_tight_81
  rw [if_neg c1] at h
  by_cases c2 : v0 = 38
  · rw [if_pos c2] at h
    refine lv_lookup (off := 77) (tgt := 78) hx hb dX12_tight_1 (by decide) (by rw [c2]; rfl) (by decide) ?_
    refine lv_iconst (v := 2) hx hb dX12_tight_78 (by decide) ?_
    exact x_iret hx hb hr hlocks hK hP hS h dX12_tight_79
  rw [if_neg c2] at h
  by_cases c3 : v0 = 43
  · rw [if_pos c3] at h
    refine lv_lookup (off := 83) (tgt := 84) hx hb dX12_tight_1 (by decide) (by rw [c3]; rfl) (by decide) ?_
    refine lv_iconst (v := 5) hx hb dX12_tight_84 (by decide) ?_
    exact x_iret hx hb hr hlocks hK hP hS h dX12_tight_85
  rw [if_neg c3] at h
  by_cases c4 : v0 = 45
  · rw [if_pos c4] at h
    refine lv_lookup (off := 83) (tgt := 84) hx hb dX12_tight_1 (by decide) (by rw [c4]; rfl) (by decide) ?_
    refine lv_iconst (v := 5) hx hb dX12_tight_84 (by decide) ?_
    exact x_iret hx hb hr hlocks hK hP hS h dX12_tight_85
  rw [if_neg c4] at h
  by_cases c5 : v0 = 60
  · rw [if_pos c5] at h
    refine lv_lookup (off := 81) (tgt := 82) hx hb dX12_tight_1 (by decide) (by rw [c5]; rfl) (by decide) ?_
    refine lv_iconst (v := 4) hx hb dX12_tight_82 (by decide) ?_
    exact x_iret hx hb hr hlocks hK hP hS h dX12_tight_83
  rw [if_neg c5] at h
  by_cases c6 : v0 = 61
  · rw [if_pos c6] at h
    refine lv_lookup (off := 81) (tgt := 82) hx hb dX12_tight_1 (by decide) (by rw [c6]; rfl) (by decide) ?_
    refine lv_iconst (v := 4) hx hb dX12_tight_82 (by decide) ?_
    exact x_iret hx hb hr hlocks hK hP hS h dX12_tight_83
  rw [if_neg c6] at h
  by_cases c7 : v0 = 62
  · rw [if_pos c7] at h
    refine lv_lookup (off := 81) (tgt := 82) hx hb dX12_tight_1 (by decide) (by rw [c7]; rfl) (by decide) ?_
    refine lv_iconst (v := 4) hx hb dX12_tight_82 (by decide) ?_
    exact x_iret hx hb hr hlocks hK hP hS h dX12_tight_83
  rw [if_neg c7] at h
  by_cases c8 : v0 = 124
  · rw [if_pos c8] at h
    refine lv_lookup (off := 75) (tgt := 76) hx hb dX12_tight_1 (by decide) (by rw [c8]; rfl) (by decide) ?_
    refine lv_iconst (v := 1) hx hb dX12_tight_76 (by decide) ?_
    exact x_iret hx hb hr hlocks hK hP hS h dX12_tight_77
  rw [if_neg c8] at h
  refine lv_lookup (off := 85) (tgt := 86) hx hb dX12_tight_1 (by decide) (by rw [lv_osw c1 (by decide), lv_osw c2 (by decide), lv_osw c3 (by decide), lv_osw c4 (by decide), lv_osw c5 (by decide), lv_osw c6 (by decide), lv_osw c7 (by decide), lv_osw c8 (by decide)]; rfl) (by decide) ?_
  refine lv_bipush (v := 6) hx hb dX12_tight_86 (by decide) ?_
  exact x_iret hx hb hr hlocks hK hP hS h dX12_tight_88
def fn_X12_close_0 : Nat → Int32 → St → Option (St)
  | 0, _, _ => none
  | n + 1, v1, z => (if (z.1 172 21) ≤ 0 then some z else gd (ix ((z.1 172 21) - 1) 160) ((if (z.1 181 (Int32.toNatClampNeg ((z.1 172 21) - 1))) = 20 then some z else gd (ix ((z.1 172 21) - 1) 160) (bd (fn_X12_tight  (z.1 181 (Int32.toNatClampNeg ((z.1 172 21) - 1))) z) (fun r6 z7 => (if r6 < v1 then some z7 else nm (sI z7 172 21 ((z7.1 172 21) - 1)) (fun z9 => gd (ix (z9.1 172 21) 160) ((if (z9.1 181 (Int32.toNatClampNeg (z9.1 172 21))) = 21 then bv (fn_X12_add  2 0 z9) (fun z16 => nm (sI z16 172 25 ((z16.1 172 25) - 1)) (fun z17 => fn_X12_close_0   n v1 z17)) else gd (ix (z9.1 172 21) 160) (bv (fn_X12_add  3 (z9.1 181 (Int32.toNatClampNeg (z9.1 172 21))) z9) (fun z14 => fn_X12_close_0   n v1 z14)))))))))))
set_option maxHeartbeats 4000000 in
set_option maxRecDepth 100000 in
theorem pf_X12_close_0 {p : Program} {l : Launch} {e : Env} {s : State} {m : MethodId} {args : Array Value} {below : List Frame} {meth : Method} {c : Code} {G : wG} (C : CX p s m args meth c cX12_close 2 (wsU yX12_close cX12_close 2 none) RX12 none G) {Rz : St} : ∀ (n : Nat) (v1 : Int32) (z : St)  (H : Heap) (locs : List Loc) (ls : Array Slot), WP G z H → va_S (AW G) s.heap H locs → lv_has ls 2 [(0, .ref (G.2.2 172)), (1, .int v1)] → fn_X12_close_0   n v1 z = some Rz → W p l e (rmd 2) s m args below meth c H locs 0 0 (QV below args s G Rz) (F0 m 0 ls []) := by
  obtain ⟨hx, hb, hml, hown, hts, hr, hlocks, hK, hG⟩ := id C
  intro n
  induction n with
  | zero => intro v1 z  H locs ls hP hS hl h; cases h
  | succ n ih =>
    intro v1 z  H locs ls hP hS hl h
    rw [fn_X12_close_0] at h
    refine lv_aload_n hx hb dX12_close_0 rfl (lv_at hl 0 rfl) ?_
    refine ge_12_21 hx hb hts (inU inW_X12) hown hK hP k_172 (hts _ (List.mem_cons_of_mem _ lw_1455)) dX12_close_1 ?_
    refine lv_if_le (tgt := 101) hx hb dX12_close_4 (by decide) (fun c1 => ?_) (fun c1 => ?_)
    · rw [if_pos c1] at h
      exact x_vret hx hb hr hlocks hK hP hS h dX12_close_101
    · rw [if_neg c1] at h
      refine lv_aload_n hx hb dX12_close_7 rfl (lv_at hl 0 rfl) ?_
      refine ge_12_17 hx hb hts (inU inW_X12) hown hK hP k_172 (hts _ (List.mem_cons_of_mem _ lw_1451)) dX12_close_8 ?_
      refine lv_aload_n hx hb dX12_close_11 rfl (lv_at hl 0 rfl) ?_
      refine ge_12_21 hx hb hts (inU inW_X12) hown hK hP k_172 (hts _ (List.mem_cons_of_mem _ lw_1455)) dX12_close_12 ?_
      refine lv_iconst (v := 1) hx hb dX12_close_15 (by decide) ?_
      refine lv_isub hx hb dX12_close_16 ?_
      obtain ⟨g2, h⟩ := gd_s h
      refine xl_14 hx hb hK hP k_181 l_181 (ix_in g2) dX12_close_17 ?_
      refine lv_bipush (v := 20) hx hb dX12_close_18 (by decide) ?_
      refine lv_icmp_eq (tgt := 101) hx hb dX12_close_20 (by decide) (fun c3 => ?_) (fun c3 => ?_)
      · rw [if_pos c3] at h
        exact x_vret hx hb hr hlocks hK hP hS h dX12_close_101
      · rw [if_neg c3] at h
        refine lv_aload_n hx hb dX12_close_23 rfl (lv_at hl 0 rfl) ?_
        refine ge_12_17 hx hb hts (inU inW_X12) hown hK hP k_172 (hts _ (List.mem_cons_of_mem _ lw_1451)) dX12_close_24 ?_
        refine lv_aload_n hx hb dX12_close_27 rfl (lv_at hl 0 rfl) ?_
        refine ge_12_21 hx hb hts (inU inW_X12) hown hK hP k_172 (hts _ (List.mem_cons_of_mem _ lw_1455)) dX12_close_28 ?_
        refine lv_iconst (v := 1) hx hb dX12_close_31 (by decide) ?_
        refine lv_isub hx hb dX12_close_32 ?_
        obtain ⟨g4, h⟩ := gd_s h
        refine xl_14 hx hb hK hP k_181 l_181 (ix_in g4) dX12_close_33 ?_
        obtain ⟨r6, z7, h5, h⟩ := bd_s h
        refine x_Si (Rz := (r6, z7)) (As := [.int (z.1 181 (Int32.toNatClampNeg ((z.1 172 21) - 1)))]) (rest := []) ⟨hx, hb, hml, hown, hts⟩ hK hP hS (m_X12_tight hG   h5) (va_cwS 1 hts (gS lw_1776 lw_1777 lw_125 lw_1778) rfl rfl rfl (by decide +kernel) (rmd_ok (by decide) (by decide))) rfl hl.1 rfl (Nat.le_of_ble_eq_true rfl) dX12_close_34 ⟨Nat.le_refl _, Nat.le_refl _⟩ (fun H locs hP hS => ?_)
        refine lv_iload_n hx hb dX12_close_37 rfl (lv_at hl 1 rfl) ?_
        refine lv_icmp_lt (tgt := 101) hx hb dX12_close_38 (by decide) (fun c8 => ?_) (fun c8 => ?_)
        · rw [if_pos c8] at h
          exact x_vret hx hb hr hlocks hK hP hS h dX12_close_101
        · rw [if_neg c8] at h
          refine lv_aload_n hx hb dX12_close_41 rfl (lv_at hl 0 rfl) ?_
          refine lv_dup hx hb dX12_close_42 rfl ?_
          refine ge_12_21 hx hb hts (inU inW_X12) hown hK hP k_172 (hts _ (List.mem_cons_of_mem _ lw_1455)) dX12_close_43 ?_
          refine lv_iconst (v := 1) hx hb dX12_close_46 (by decide) ?_
          refine lv_isub hx hb dX12_close_47 ?_
          obtain ⟨z9, e_z9, h⟩ := nm_s h
          refine pu_12_21 hx hb hts (inU inW_X12) hown hK hG hP hS k_172 (hts _ (List.mem_cons_of_mem _ lw_1455)) dX12_close_48 (fun H locs hP hS => ?_)
          rw [← e_z9] at hP
          refine lv_aload_n hx hb dX12_close_51 rfl (lv_at hl 0 rfl) ?_
          refine ge_12_17 hx hb hts (inU inW_X12) hown hK hP k_172 (hts _ (List.mem_cons_of_mem _ lw_1451)) dX12_close_52 ?_
          refine lv_aload_n hx hb dX12_close_55 rfl (lv_at hl 0 rfl) ?_
          refine ge_12_21 hx hb hts (inU inW_X12) hown hK hP k_172 (hts _ (List.mem_cons_of_mem _ lw_1455)) dX12_close_56 ?_
          obtain ⟨g10, h⟩ := gd_s h
          refine xl_14 hx hb hK hP k_181 l_181 (ix_in g10) dX12_close_59 ?_
          refine lv_bipush (v := 21) hx hb dX12_close_60 (by decide) ?_
          refine lv_icmp_ne (tgt := 84) hx hb dX12_close_62 (by decide) (fun c11 => ?_) (fun c11 => ?_)
          · rw [if_neg c11] at h
            refine lv_aload_n hx hb dX12_close_84 rfl (lv_at hl 0 rfl) ?_
            refine lv_iconst (v := 3) hx hb dX12_close_85 (by decide) ?_
            refine lv_aload_n hx hb dX12_close_86 rfl (lv_at hl 0 rfl) ?_
            refine ge_12_17 hx hb hts (inU inW_X12) hown hK hP k_172 (hts _ (List.mem_cons_of_mem _ lw_1451)) dX12_close_87 ?_
            refine lv_aload_n hx hb dX12_close_90 rfl (lv_at hl 0 rfl) ?_
            refine ge_12_21 hx hb hts (inU inW_X12) hown hK hP k_172 (hts _ (List.mem_cons_of_mem _ lw_1455)) dX12_close_91 ?_
            obtain ⟨g12, h⟩ := gd_s h
            refine xl_14 hx hb hK hP k_181 l_181 (ix_in g12) dX12_close_94 ?_
            obtain ⟨z14, h13, h⟩ := bv_s h
            refine x_Vv (Rz := z14) (As := [.int 3, .int (z9.1 181 (Int32.toNatClampNeg (z9.1 172 21)))]) (rest := []) ⟨hx, hb, hml, hown, hts⟩ hK hP hS (kd_lt k_172 (by decide)) (cell_12 k_172) rfl (m_X12_add hG   h13) (cwV 2 hts (gV lw_1795 lw_1797 lw_67 lw_125 lw_1798) rfl rfl rfl (by decide +kernel) (rmd_ok (by decide) (by decide))) rfl hl.1 rfl (Nat.le_of_ble_eq_true rfl) dX12_close_95 ⟨Nat.le_refl _, Nat.le_refl _⟩ (fun H locs hP hS => ?_)
            refine lv_goto (tgt := 0) hx hb dX12_close_98 (by decide) ?_
            exact ih v1 z14  _ _ _ hP hS (lv_sub hl [0, 1] rfl) h
          · rw [if_pos c11] at h
            refine lv_aload_n hx hb dX12_close_65 rfl (lv_at hl 0 rfl) ?_
            refine lv_iconst (v := 2) hx hb dX12_close_66 (by decide) ?_
            refine lv_iconst (v := 0) hx hb dX12_close_67 (by decide) ?_
            obtain ⟨z16, h15, h⟩ := bv_s h
            refine x_Vv (Rz := z16) (As := [.int 2, .int 0]) (rest := []) ⟨hx, hb, hml, hown, hts⟩ hK hP hS (kd_lt k_172 (by decide)) (cell_12 k_172) rfl (m_X12_add hG   h15) (cwV 2 hts (gV lw_1795 lw_1797 lw_67 lw_125 lw_1798) rfl rfl rfl (by decide +kernel) (rmd_ok (by decide) (by decide))) rfl hl.1 rfl (Nat.le_of_ble_eq_true rfl) dX12_close_68 ⟨Nat.le_refl _, Nat.le_refl _⟩ (fun H locs hP hS => ?_)
            refine lv_aload_n hx hb dX12_close_71 rfl (lv_at hl 0 rfl) ?_
            refine lv_dup hx hb dX12_close_72 rfl ?_
            refine ge_12_25 hx hb hts (inU inW_X12) hown hK hP k_172 (hts _ (List.mem_cons_of_mem _ lw_1459)) dX12_close_73 ?_
            refine lv_iconst (v := 1) hx hb dX12_close_76 (by decide) ?_
            refine lv_isub hx hb dX12_close_77 ?_
            obtain ⟨z17, e_z17, h⟩ := nm_s h
            refine pu_12_25 hx hb hts (inU inW_X12) hown hK hG hP hS k_172 (hts _ (List.mem_cons_of_mem _ lw_1459)) dX12_close_78 (fun H locs hP hS => ?_)
            rw [← e_z17] at hP
            refine lv_goto (tgt := 0) hx hb dX12_close_81 (by decide) ?_
            exact ih v1 z17  _ _ _ hP hS (lv_sub hl [0, 1] rfl) h
def fn_X12_close (v1 : Int32) (z : St) : Option (St) := fn_X12_close_0   fu v1 z
set_option maxHeartbeats 4000000 in
set_option maxRecDepth 100000 in
theorem m_X12_close {l : Launch} {G : wG} (hG : Ok G) {v1 : Int32} {z : St} {Rz : St}  (h : fn_X12_close  v1 z = some Rz) : Met l yX12_close (wsU yX12_close cX12_close 2 none) (rmd 2) (va_Pc [.ref (G.2.2 172), .int v1] (Pre G z)) (va_Qv (fun u => u = Rz) (Pre G) (AW G)) 0 0 (AW G) := by
  refine Met.ofW (cc := cX12_close) (maxL := 2) (ret := none) (by decide) rfl ?_
  intro p e s m args below meth c s₁ B hml hv
  obtain ⟨rfl, hP, hK⟩ := hv
  have C : CX p s m ([.ref (G.2.2 172), .int v1] : List Value).toArray meth c cX12_close 2 (wsU yX12_close cX12_close 2 none) RX12 none G := ⟨B.exec, B.bytes, hml, findClass_of_methodNamed B.named, atoms_spec (ws := (wsU yX12_close cX12_close 2 none)) B.pre, B.returns, B.notSynchronized, hK, hG⟩
  obtain ⟨hx, hb, -, hown, hts, hr, hlocks, -, -⟩ := id C
  have hS : va_S (AW G) s.heap s.heap [] := va_S.rf
  have hl := lv_entry [.ref (G.2.2 172), .int v1] (n := 2) (Nat.le_of_ble_eq_true rfl)
  rw [lg_entry_eq]
  generalize (lg_sl [.ref (G.2.2 172), .int v1] ++ List.replicate (2 - (lg_sl [.ref (G.2.2 172), .int v1]).length) Slot.unset).toArray = ls at hl ⊢
  have hl : lv_has ls 2 [(0, .ref (G.2.2 172)), (1, .int v1)] := hl
  unfold fn_X12_close at h
  exact pf_X12_close_0 C   fu v1 z  _ _ _ hP hS (lv_sub hl [0, 1] rfl) h
def fn_X12_hasRelation_41 (v1 : Int32) (z : St) : Option (Int32 × St) := (if v1 < 0 then some (0, z) else gd (ix v1 160) ((if (z.1 181 (Int32.toNatClampNeg v1)) = 20 then some (0, z) else gd (ix v1 160) (bd (fn_X12_tight  (z.1 181 (Int32.toNatClampNeg v1)) z) (fun r6 z7 => (if r6 = 4 then some (1, z7) else some (0, z7)))))))
set_option maxHeartbeats 4000000 in
set_option maxRecDepth 100000 in
theorem pf_X12_hasRelation_41 {p : Program} {l : Launch} {e : Env} {s : State} {m : MethodId} {args : Array Value} {below : List Frame} {meth : Method} {c : Code} {G : wG} (C : CX p s m args meth c cX12_hasRelation 2 (wsU yX12_hasRelation cX12_hasRelation 2 (some .boolean)) RX12 (some .boolean) G) {Rz : Int32 × St} (v1 : Int32) (z : St)  {H : Heap} {locs : List Loc} {ls : Array Slot} (hP : WP G z H) (hS : va_S (AW G) s.heap H locs) (hl : lv_has ls 2 [(0, .ref (G.2.2 172)), (1, .int v1)]) (h : fn_X12_hasRelation_41   v1 z = some Rz) : W p l e (rmd 2) s m args below meth c H locs 0 0 (QI below args s G Rz) (F0 m 41 ls []) := by
  obtain ⟨hx, hb, hml, hown, hts, hr, hlocks, hK, hG⟩ := id C
  unfold fn_X12_hasRelation_41 at h
  refine lv_iload_n hx hb dX12_hasRelation_41 rfl (lv_at hl 1 rfl) ?_
  refine lv_if_lt (tgt := 73) hx hb dX12_hasRelation_42 (by decide) (fun c1 => ?_) (fun c1 => ?_)
  · rw [if_pos c1] at h
    refine lv_iconst (v := 0) hx hb dX12_hasRelation_73 (by decide) ?_
    exact x_zret hx hb hr hlocks hK hP hS rfl h dX12_hasRelation_74
  · rw [if_neg c1] at h
    refine lv_aload_n hx hb dX12_hasRelation_45 rfl (lv_at hl 0 rfl) ?_
    refine ge_12_17 hx hb hts (inU inW_X12) hown hK hP k_172 (hts _ (List.mem_cons_of_mem _ lw_1451)) dX12_hasRelation_46 ?_
    refine lv_iload_n hx hb dX12_hasRelation_49 rfl (lv_at hl 1 rfl) ?_
    obtain ⟨g2, h⟩ := gd_s h
    refine xl_14 hx hb hK hP k_181 l_181 (ix_in g2) dX12_hasRelation_50 ?_
    refine lv_bipush (v := 20) hx hb dX12_hasRelation_51 (by decide) ?_
    refine lv_icmp_eq (tgt := 73) hx hb dX12_hasRelation_53 (by decide) (fun c3 => ?_) (fun c3 => ?_)
    · rw [if_pos c3] at h
      refine lv_iconst (v := 0) hx hb dX12_hasRelation_73 (by decide) ?_
      exact x_zret hx hb hr hlocks hK hP hS rfl h dX12_hasRelation_74
    · rw [if_neg c3] at h
      refine lv_aload_n hx hb dX12_hasRelation_56 rfl (lv_at hl 0 rfl) ?_
      refine ge_12_17 hx hb hts (inU inW_X12) hown hK hP k_172 (hts _ (List.mem_cons_of_mem _ lw_1451)) dX12_hasRelation_57 ?_
      refine lv_iload_n hx hb dX12_hasRelation_60 rfl (lv_at hl 1 rfl) ?_
      obtain ⟨g4, h⟩ := gd_s h
      refine xl_14 hx hb hK hP k_181 l_181 (ix_in g4) dX12_hasRelation_61 ?_
      obtain ⟨r6, z7, h5, h⟩ := bd_s h
      refine x_Si (Rz := (r6, z7)) (As := [.int (z.1 181 (Int32.toNatClampNeg v1))]) (rest := []) ⟨hx, hb, hml, hown, hts⟩ hK hP hS (m_X12_tight hG   h5) (va_cwS 1 hts (gS lw_1776 lw_1777 lw_125 lw_1778) rfl rfl rfl (by decide +kernel) (rmd_ok (by decide) (by decide))) rfl hl.1 rfl (Nat.le_of_ble_eq_true rfl) dX12_hasRelation_62 ⟨Nat.le_refl _, Nat.le_refl _⟩ (fun H locs hP hS => ?_)
      refine lv_iconst (v := 4) hx hb dX12_hasRelation_65 (by decide) ?_
      refine lv_icmp_ne (tgt := 73) hx hb dX12_hasRelation_66 (by decide) (fun c8 => ?_) (fun c8 => ?_)
      · rw [if_neg c8] at h
        refine lv_iconst (v := 0) hx hb dX12_hasRelation_73 (by decide) ?_
        exact x_zret hx hb hr hlocks hK hP hS rfl h dX12_hasRelation_74
      · rw [if_pos c8] at h
        refine lv_iconst (v := 1) hx hb dX12_hasRelation_69 (by decide) ?_
        refine lv_goto (tgt := 74) hx hb dX12_hasRelation_70 (by decide) ?_
        exact x_zret hx hb hr hlocks hK hP hS rfl h dX12_hasRelation_74
def fn_X12_hasRelation_7 : Nat → Int32 → St → Option (Int32 × St)
  | 0, _, _ => none
  | n + 1, v1, z => (if v1 < 0 then fn_X12_hasRelation_41   v1 z else gd (ix v1 160) ((if (z.1 181 (Int32.toNatClampNeg v1)) = 20 then fn_X12_hasRelation_41   v1 z else gd (ix v1 160) (bd (fn_X12_tight  (z.1 181 (Int32.toNatClampNeg v1)) z) (fun r6 z7 => (if r6 ≤ 4 then fn_X12_hasRelation_41   v1 z7 else fn_X12_hasRelation_7   n (v1 + (-1)) z7))))))
set_option maxHeartbeats 4000000 in
set_option maxRecDepth 100000 in
theorem pf_X12_hasRelation_7 {p : Program} {l : Launch} {e : Env} {s : State} {m : MethodId} {args : Array Value} {below : List Frame} {meth : Method} {c : Code} {G : wG} (C : CX p s m args meth c cX12_hasRelation 2 (wsU yX12_hasRelation cX12_hasRelation 2 (some .boolean)) RX12 (some .boolean) G) {Rz : Int32 × St} : ∀ (n : Nat) (v1 : Int32) (z : St)  (H : Heap) (locs : List Loc) (ls : Array Slot), WP G z H → va_S (AW G) s.heap H locs → lv_has ls 2 [(0, .ref (G.2.2 172)), (1, .int v1)] → fn_X12_hasRelation_7   n v1 z = some Rz → W p l e (rmd 2) s m args below meth c H locs 0 0 (QI below args s G Rz) (F0 m 7 ls []) := by
  obtain ⟨hx, hb, hml, hown, hts, hr, hlocks, hK, hG⟩ := id C
  intro n
  induction n with
  | zero => intro v1 z  H locs ls hP hS hl h; cases h
  | succ n ih =>
    intro v1 z  H locs ls hP hS hl h
    rw [fn_X12_hasRelation_7] at h
    refine lv_iload_n hx hb dX12_hasRelation_7 rfl (lv_at hl 1 rfl) ?_
    refine lv_if_lt (tgt := 41) hx hb dX12_hasRelation_8 (by decide) (fun c1 => ?_) (fun c1 => ?_)
    · rw [if_pos c1] at h
      exact pf_X12_hasRelation_41 C   v1 z  hP hS (lv_sub hl [0, 1] rfl) h
    · rw [if_neg c1] at h
      refine lv_aload_n hx hb dX12_hasRelation_11 rfl (lv_at hl 0 rfl) ?_
      refine ge_12_17 hx hb hts (inU inW_X12) hown hK hP k_172 (hts _ (List.mem_cons_of_mem _ lw_1451)) dX12_hasRelation_12 ?_
      refine lv_iload_n hx hb dX12_hasRelation_15 rfl (lv_at hl 1 rfl) ?_
      obtain ⟨g2, h⟩ := gd_s h
      refine xl_14 hx hb hK hP k_181 l_181 (ix_in g2) dX12_hasRelation_16 ?_
      refine lv_bipush (v := 20) hx hb dX12_hasRelation_17 (by decide) ?_
      refine lv_icmp_eq (tgt := 41) hx hb dX12_hasRelation_19 (by decide) (fun c3 => ?_) (fun c3 => ?_)
      · rw [if_pos c3] at h
        exact pf_X12_hasRelation_41 C   v1 z  hP hS (lv_sub hl [0, 1] rfl) h
      · rw [if_neg c3] at h
        refine lv_aload_n hx hb dX12_hasRelation_22 rfl (lv_at hl 0 rfl) ?_
        refine ge_12_17 hx hb hts (inU inW_X12) hown hK hP k_172 (hts _ (List.mem_cons_of_mem _ lw_1451)) dX12_hasRelation_23 ?_
        refine lv_iload_n hx hb dX12_hasRelation_26 rfl (lv_at hl 1 rfl) ?_
        obtain ⟨g4, h⟩ := gd_s h
        refine xl_14 hx hb hK hP k_181 l_181 (ix_in g4) dX12_hasRelation_27 ?_
        obtain ⟨r6, z7, h5, h⟩ := bd_s h
        refine x_Si (Rz := (r6, z7)) (As := [.int (z.1 181 (Int32.toNatClampNeg v1))]) (rest := []) ⟨hx, hb, hml, hown, hts⟩ hK hP hS (m_X12_tight hG   h5) (va_cwS 1 hts (gS lw_1776 lw_1777 lw_125 lw_1778) rfl rfl rfl (by decide +kernel) (rmd_ok (by decide) (by decide))) rfl hl.1 rfl (Nat.le_of_ble_eq_true rfl) dX12_hasRelation_28 ⟨Nat.le_refl _, Nat.le_refl _⟩ (fun H locs hP hS => ?_)
        refine lv_iconst (v := 4) hx hb dX12_hasRelation_31 (by decide) ?_
        refine lv_icmp_le (tgt := 41) hx hb dX12_hasRelation_32 (by decide) (fun c8 => ?_) (fun c8 => ?_)
        · rw [if_pos c8] at h
          exact pf_X12_hasRelation_41 C   v1 z7  hP hS (lv_sub hl [0, 1] rfl) h
        · rw [if_neg c8] at h
          refine lv_iinc (v := (v1 + (-1))) (lv' := [(1, .int (v1 + (-1))), (0, .ref (G.2.2 172))]) hx hb dX12_hasRelation_35 hl (k := 1) rfl rfl (by decide) rfl (fun ls hl => ?_)
          refine lv_goto (tgt := 7) hx hb dX12_hasRelation_38 (by decide) ?_
          exact ih (v1 + (-1)) z7  _ _ _ hP hS (lv_sub hl [1, 0] rfl) h
def fn_X12_hasRelation  (z : St) : Option (Int32 × St) := nm ((z.1 172 21) - 1) (fun v1_1 => fn_X12_hasRelation_7   fu v1_1 z)
set_option maxHeartbeats 4000000 in
set_option maxRecDepth 100000 in
theorem m_X12_hasRelation {l : Launch} {G : wG} (hG : Ok G)  {z : St} {Rz : Int32 × St}  (h : fn_X12_hasRelation   z = some Rz) : Met l yX12_hasRelation (wsU yX12_hasRelation cX12_hasRelation 2 (some .boolean)) (rmd 2) (va_Pc [.ref (G.2.2 172)] (Pre G z)) (va_Qi (fun r u => (r, u) = Rz) (Pre G) (AW G)) 0 0 (AW G) := by
  refine Met.ofW (cc := cX12_hasRelation) (maxL := 2) (ret := (some .boolean)) (by decide) rfl ?_
  intro p e s m args below meth c s₁ B hml hv
  obtain ⟨rfl, hP, hK⟩ := hv
  have C : CX p s m ([.ref (G.2.2 172)] : List Value).toArray meth c cX12_hasRelation 2 (wsU yX12_hasRelation cX12_hasRelation 2 (some .boolean)) RX12 (some .boolean) G := ⟨B.exec, B.bytes, hml, findClass_of_methodNamed B.named, atoms_spec (ws := (wsU yX12_hasRelation cX12_hasRelation 2 (some .boolean))) B.pre, B.returns, B.notSynchronized, hK, hG⟩
  obtain ⟨hx, hb, -, hown, hts, hr, hlocks, -, -⟩ := id C
  have hS : va_S (AW G) s.heap s.heap [] := va_S.rf
  have hl := lv_entry [.ref (G.2.2 172)] (n := 2) (Nat.le_of_ble_eq_true rfl)
  rw [lg_entry_eq]
  generalize (lg_sl [.ref (G.2.2 172)] ++ List.replicate (2 - (lg_sl [.ref (G.2.2 172)]).length) Slot.unset).toArray = ls at hl ⊢
  have hl : lv_has ls 2 [(0, .ref (G.2.2 172))] := hl
  unfold fn_X12_hasRelation at h
  refine lv_aload_n hx hb dX12_hasRelation_0 rfl (lv_at hl 0 rfl) ?_
  refine ge_12_21 hx hb hts (inU inW_X12) hown hK hP k_172 (hts _ (List.mem_cons_of_mem _ lw_1455)) dX12_hasRelation_1 ?_
  refine lv_iconst (v := 1) hx hb dX12_hasRelation_4 (by decide) ?_
  refine lv_isub hx hb dX12_hasRelation_5 ?_
  obtain ⟨v1_1, e_v1_1, h⟩ := nm_s h
  refine x_top e_v1_1 ?_
  refine lv_istore_n (lv' := [(1, .int v1_1), (0, .ref (G.2.2 172))]) hx hb dX12_hasRelation_6 rfl hl (by decide) rfl (fun ls hl => ?_)
  exact pf_X12_hasRelation_7 C   fu v1_1 z  _ _ _ hP hS (lv_sub hl [1, 0] rfl) h
def fn_X12_mayNot  (z : St) : Option (Int32 × St) := (if (z.1 172 21) = 0 then some (1, z) else gd (ix ((z.1 172 21) - 1) 160) ((if (z.1 181 (Int32.toNatClampNeg ((z.1 172 21) - 1))) = 20 then some (1, z) else gd (ix ((z.1 172 21) - 1) 160) (bd (fn_X12_tight  (z.1 181 (Int32.toNatClampNeg ((z.1 172 21) - 1))) z) (fun r6 z7 => (if 4 ≤ r6 then some (0, z7) else some (1, z7)))))))
set_option maxHeartbeats 4000000 in
set_option maxRecDepth 100000 in
theorem m_X12_mayNot {l : Launch} {G : wG} (hG : Ok G)  {z : St} {Rz : Int32 × St}  (h : fn_X12_mayNot   z = some Rz) : Met l yX12_mayNot (wsU yX12_mayNot cX12_mayNot 1 (some .boolean)) (rmd 2) (va_Pc [.ref (G.2.2 172)] (Pre G z)) (va_Qi (fun r u => (r, u) = Rz) (Pre G) (AW G)) 0 0 (AW G) := by
  refine Met.ofW (cc := cX12_mayNot) (maxL := 1) (ret := (some .boolean)) (by decide) rfl ?_
  intro p e s m args below meth c s₁ B hml hv
  obtain ⟨rfl, hP, hK⟩ := hv
  have C : CX p s m ([.ref (G.2.2 172)] : List Value).toArray meth c cX12_mayNot 1 (wsU yX12_mayNot cX12_mayNot 1 (some .boolean)) RX12 (some .boolean) G := ⟨B.exec, B.bytes, hml, findClass_of_methodNamed B.named, atoms_spec (ws := (wsU yX12_mayNot cX12_mayNot 1 (some .boolean))) B.pre, B.returns, B.notSynchronized, hK, hG⟩
  obtain ⟨hx, hb, -, hown, hts, hr, hlocks, -, -⟩ := id C
  have hS : va_S (AW G) s.heap s.heap [] := va_S.rf
  have hl := lv_entry [.ref (G.2.2 172)] (n := 1) (Nat.le_of_ble_eq_true rfl)
  rw [lg_entry_eq]
  generalize (lg_sl [.ref (G.2.2 172)] ++ List.replicate (1 - (lg_sl [.ref (G.2.2 172)]).length) Slot.unset).toArray = ls at hl ⊢
  have hl : lv_has ls 1 [(0, .ref (G.2.2 172))] := hl
  unfold fn_X12_mayNot at h
  refine lv_aload_n hx hb dX12_mayNot_0 rfl (lv_at hl 0 rfl) ?_
  refine ge_12_21 hx hb hts (inU inW_X12) hown hK hP k_172 (hts _ (List.mem_cons_of_mem _ lw_1455)) dX12_mayNot_1 ?_
  refine lv_if_eq (tgt := 41) hx hb dX12_mayNot_4 (by decide) (fun c1 => ?_) (fun c1 => ?_)
  · rw [if_pos c1] at h
    refine lv_iconst (v := 1) hx hb dX12_mayNot_41 (by decide) ?_
    refine lv_goto (tgt := 46) hx hb dX12_mayNot_42 (by decide) ?_
    exact x_zret hx hb hr hlocks hK hP hS rfl h dX12_mayNot_46
  · rw [if_neg c1] at h
    refine lv_aload_n hx hb dX12_mayNot_7 rfl (lv_at hl 0 rfl) ?_
    refine ge_12_17 hx hb hts (inU inW_X12) hown hK hP k_172 (hts _ (List.mem_cons_of_mem _ lw_1451)) dX12_mayNot_8 ?_
    refine lv_aload_n hx hb dX12_mayNot_11 rfl (lv_at hl 0 rfl) ?_
    refine ge_12_21 hx hb hts (inU inW_X12) hown hK hP k_172 (hts _ (List.mem_cons_of_mem _ lw_1455)) dX12_mayNot_12 ?_
    refine lv_iconst (v := 1) hx hb dX12_mayNot_15 (by decide) ?_
    refine lv_isub hx hb dX12_mayNot_16 ?_
    obtain ⟨g2, h⟩ := gd_s h
    refine xl_14 hx hb hK hP k_181 l_181 (ix_in g2) dX12_mayNot_17 ?_
    refine lv_bipush (v := 20) hx hb dX12_mayNot_18 (by decide) ?_
    refine lv_icmp_eq (tgt := 41) hx hb dX12_mayNot_20 (by decide) (fun c3 => ?_) (fun c3 => ?_)
    · rw [if_pos c3] at h
      refine lv_iconst (v := 1) hx hb dX12_mayNot_41 (by decide) ?_
      refine lv_goto (tgt := 46) hx hb dX12_mayNot_42 (by decide) ?_
      exact x_zret hx hb hr hlocks hK hP hS rfl h dX12_mayNot_46
    · rw [if_neg c3] at h
      refine lv_aload_n hx hb dX12_mayNot_23 rfl (lv_at hl 0 rfl) ?_
      refine ge_12_17 hx hb hts (inU inW_X12) hown hK hP k_172 (hts _ (List.mem_cons_of_mem _ lw_1451)) dX12_mayNot_24 ?_
      refine lv_aload_n hx hb dX12_mayNot_27 rfl (lv_at hl 0 rfl) ?_
      refine ge_12_21 hx hb hts (inU inW_X12) hown hK hP k_172 (hts _ (List.mem_cons_of_mem _ lw_1455)) dX12_mayNot_28 ?_
      refine lv_iconst (v := 1) hx hb dX12_mayNot_31 (by decide) ?_
      refine lv_isub hx hb dX12_mayNot_32 ?_
      obtain ⟨g4, h⟩ := gd_s h
      refine xl_14 hx hb hK hP k_181 l_181 (ix_in g4) dX12_mayNot_33 ?_
      obtain ⟨r6, z7, h5, h⟩ := bd_s h
      refine x_Si (Rz := (r6, z7)) (As := [.int (z.1 181 (Int32.toNatClampNeg ((z.1 172 21) - 1)))]) (rest := []) ⟨hx, hb, hml, hown, hts⟩ hK hP hS (m_X12_tight hG   h5) (va_cwS 1 hts (gS lw_1776 lw_1777 lw_125 lw_1778) rfl rfl rfl (by decide +kernel) (rmd_ok (by decide) (by decide))) rfl hl.1 rfl (Nat.le_of_ble_eq_true rfl) dX12_mayNot_34 ⟨Nat.le_refl _, Nat.le_refl _⟩ (fun H locs hP hS => ?_)
      refine lv_iconst (v := 4) hx hb dX12_mayNot_37 (by decide) ?_
      refine lv_icmp_ge (tgt := 45) hx hb dX12_mayNot_38 (by decide) (fun c8 => ?_) (fun c8 => ?_)
      · rw [if_pos c8] at h
        refine lv_iconst (v := 0) hx hb dX12_mayNot_45 (by decide) ?_
        exact x_zret hx hb hr hlocks hK hP hS rfl h dX12_mayNot_46
      · rw [if_neg c8] at h
        refine lv_iconst (v := 1) hx hb dX12_mayNot_41 (by decide) ?_
        refine lv_goto (tgt := 46) hx hb dX12_mayNot_42 (by decide) ?_
        exact x_zret hx hb hr hlocks hK hP hS rfl h dX12_mayNot_46
