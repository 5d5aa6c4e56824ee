def fn_X11_putOnTape_42 (k3 : Int32 → Int32 → St → Option (St)) (v1 : Int32) (v2 : Int32) (z : St) : Option (St) := k3 v1 (v2 + (-8)) z
set_option maxHeartbeats 4000000 in
set_option maxRecDepth 100000 in
theorem pf_X11_putOnTape_42 {p : Program} {l : Launch} {e : Env} {s : State} {m : MethodId} {args : Array Value} {below : List Frame} {meth : Method} {c : Code} {G : wG} (C : CX p s m args meth c cX11_putOnTape 3 (wsU yX11_putOnTape cX11_putOnTape 3 none) RX11 none G) {Rz : St} {k3 : Int32 → Int32 → St → Option (St)} (hk_3 : ∀ (v1 : Int32) (v2 : Int32) (z : St)  (H : Heap) (locs : List Loc) (ls : Array Slot), WP G z H → va_S (AW G) s.heap H locs → lv_has ls 3 [(0, .ref (G.2.2 0)), (1, .int v1), (2, .int v2)] → k3 v1 v2 z = some Rz → W p l e (rmd 1) s m args below meth c H locs 0 0 (QV below args s G Rz) (F0 m 3 ls [])) (v1 : Int32) (v2 : Int32) (z : St)  {H : Heap} {locs : List Loc} {ls : Array Slot} (hP : WP G z H) (hS : va_S (AW G) s.heap H locs) (hl : lv_has ls 3 [(0, .ref (G.2.2 0)), (1, .int v1), (2, .int v2)]) (h : fn_X11_putOnTape_42  k3 v1 v2 z = some Rz) : W p l e (rmd 1) s m args below meth c H locs 0 0 (QV below args s G Rz) (F0 m 42 ls []) := by
  obtain ⟨hx, hb, hml, hown, hts, hr, hlocks, hK, hG⟩ := id C
  unfold fn_X11_putOnTape_42 at h
  refine lv_iinc (v := (v2 + (-8))) (lv' := [(2, .int (v2 + (-8))), (0, .ref (G.2.2 0)), (1, .int v1)]) hx hb dX11_putOnTape_42 hl (k := 2) rfl rfl (by decide) rfl (fun ls hl => ?_)
  refine lv_goto (tgt := 3) hx hb dX11_putOnTape_45 (by decide) ?_
  exact hk_3 v1 (v2 + (-8)) z  _ _ _ hP hS (lv_sub hl [1, 2, 0] rfl) h
def fn_X11_putOnTape_3 : Nat → Int32 → Int32 → St → Option (St)
  | 0, _, _, _ => none
  | n + 1, v1, v2, z => (if v2 < 0 then some z else (if 1600 ≤ (z.1 0 1) then fn_X11_putOnTape_42  (fn_X11_putOnTape_3   n) v1 v2 z else gd (ix (z.1 0 1) 1600) (nm (sI z 1 (Int32.toNatClampNeg (z.1 0 1)) (Int8.toInt32 (Int32.toInt8 (Int8.toInt32 (Int32.toInt8 (v1 >>> (v2 &&& 31))))))) (fun z4 => nm (sI z4 0 1 ((z4.1 0 1) + 1)) (fun z5 => fn_X11_putOnTape_42  (fn_X11_putOnTape_3   n) v1 v2 z5)))))
set_option maxHeartbeats 4000000 in
set_option maxRecDepth 100000 in
theorem pf_X11_putOnTape_3 {p : Program} {l : Launch} {e : Env} {s : State} {m : MethodId} {args : Array Value} {below : List Frame} {meth : Method} {c : Code} {G : wG} (C : CX p s m args meth c cX11_putOnTape 3 (wsU yX11_putOnTape cX11_putOnTape 3 none) RX11 none G) {Rz : St} : ∀ (n : Nat) (v1 : Int32) (v2 : Int32) (z : St)  (H : Heap) (locs : List Loc) (ls : Array Slot), WP G z H → va_S (AW G) s.heap H locs → lv_has ls 3 [(0, .ref (G.2.2 0)), (1, .int v1), (2, .int v2)] → fn_X11_putOnTape_3   n v1 v2 z = some Rz → W p l e (rmd 1) s m args below meth c H locs 0 0 (QV below args s G Rz) (F0 m 3 ls []) := by
  obtain ⟨hx, hb, hml, hown, hts, hr, hlocks, hK, hG⟩ := id C
  intro n
  induction n with
  | zero => intro v1 v2 z  H locs ls hP hS hl h; cases h
  | succ n ih =>
    intro v1 v2 z  H locs ls hP hS hl h
    rw [fn_X11_putOnTape_3] at h
    refine lv_iload_n hx hb dX11_putOnTape_3 rfl (lv_at hl 2 rfl) ?_
    refine lv_if_lt (tgt := 48) hx hb dX11_putOnTape_4 (by decide) (fun c1 => ?_) (fun c1 => ?_)
    · rw [if_pos c1] at h
      exact x_vret hx hb hr hlocks hK hP hS h dX11_putOnTape_48
    · rw [if_neg c1] at h
      refine lv_aload_n hx hb dX11_putOnTape_7 rfl (lv_at hl 0 rfl) ?_
      refine ge_11_1 hx hb hts (inU inW_X11) hown hK hP k_0 (hts _ (List.mem_cons_of_mem _ lw_704)) dX11_putOnTape_8 ?_
      refine lv_aload_n hx hb dX11_putOnTape_11 rfl (lv_at hl 0 rfl) ?_
      refine ge_11_0 hx hb hts (inU inW_X11) hown hK hP k_0 (hts _ (List.mem_cons_of_mem _ lw_703)) dX11_putOnTape_12 ?_
      refine xn_13 (v := 1600) hx hb hK hP k_1 l_1 rfl dX11_putOnTape_15 ?_
      refine lv_icmp_ge (tgt := 42) hx hb dX11_putOnTape_16 (by decide) (fun c2 => ?_) (fun c2 => ?_)
      · rw [if_pos c2] at h
        exact pf_X11_putOnTape_42 C  ih v1 v2 z  hP hS (lv_sub hl [0, 1, 2] rfl) h
      · rw [if_neg c2] at h
        refine lv_aload_n hx hb dX11_putOnTape_19 rfl (lv_at hl 0 rfl) ?_
        refine ge_11_0 hx hb hts (inU inW_X11) hown hK hP k_0 (hts _ (List.mem_cons_of_mem _ lw_703)) dX11_putOnTape_20 ?_
        refine lv_aload_n hx hb dX11_putOnTape_23 rfl (lv_at hl 0 rfl) ?_
        refine ge_11_1 hx hb hts (inU inW_X11) hown hK hP k_0 (hts _ (List.mem_cons_of_mem _ lw_704)) dX11_putOnTape_24 ?_
        refine lv_iload_n hx hb dX11_putOnTape_27 rfl (lv_at hl 1 rfl) ?_
        refine lv_iload_n hx hb dX11_putOnTape_28 rfl (lv_at hl 2 rfl) ?_
        refine lv_ishr hx hb dX11_putOnTape_29 ?_
        refine lv_i2b hx hb dX11_putOnTape_30 rfl ?_
        obtain ⟨g3, h⟩ := gd_s h
        obtain ⟨z4, e_z4, h⟩ := nm_s h
        refine xs_13 hx hb hK hG hP hS k_1 l_1 (ix_in g3) dX11_putOnTape_31 (fun H locs hP hS => ?_)
        rw [← e_z4] at hP
        refine lv_aload_n hx hb dX11_putOnTape_32 rfl (lv_at hl 0 rfl) ?_
        refine lv_dup hx hb dX11_putOnTape_33 rfl ?_
        refine ge_11_1 hx hb hts (inU inW_X11) hown hK hP k_0 (hts _ (List.mem_cons_of_mem _ lw_704)) dX11_putOnTape_34 ?_
        refine lv_iconst (v := 1) hx hb dX11_putOnTape_37 (by decide) ?_
        refine lv_iadd hx hb dX11_putOnTape_38 ?_
        obtain ⟨z5, e_z5, h⟩ := nm_s h
        refine pu_11_1 hx hb hts (inU inW_X11) hown hK hG hP hS k_0 (hts _ (List.mem_cons_of_mem _ lw_704)) dX11_putOnTape_39 (fun H locs hP hS => ?_)
        rw [← e_z5] at hP
        exact pf_X11_putOnTape_42 C  ih v1 v2 z5  hP hS (lv_sub hl [0, 1, 2] rfl) h
def fn_X11_putOnTape (v1 : Int32) (z : St) : Option (St) := fn_X11_putOnTape_3   fu v1 24 z
set_option maxHeartbeats 4000000 in
set_option maxRecDepth 100000 in
theorem m_X11_putOnTape {l : Launch} {G : wG} (hG : Ok G) {v1 : Int32} {z : St} {Rz : St}  (h : fn_X11_putOnTape  v1 z = some Rz) : Met l yX11_putOnTape (wsU yX11_putOnTape cX11_putOnTape 3 none) (rmd 1) (va_Pc [.ref (G.2.2 0), .int v1] (Pre G z)) (va_Qv (fun u => u = Rz) (Pre G) (AW G)) 0 0 (AW G) := by
  refine Met.ofW (cc := cX11_putOnTape) (maxL := 3) (ret := none) (by decide) rfl ?_
  intro p e s m args below meth c s₁ B hml hv
  obtain ⟨rfl, hP, hK⟩ := hv
  have C : CX p s m ([.ref (G.2.2 0), .int v1] : List Value).toArray meth c cX11_putOnTape 3 (wsU yX11_putOnTape cX11_putOnTape 3 none) RX11 none G := ⟨B.exec, B.bytes, hml, findClass_of_methodNamed B.named, atoms_spec (ws := (wsU yX11_putOnTape cX11_putOnTape 3 none)) B.pre, B.returns, B.notSynchronized, hK, hG⟩
  obtain ⟨hx, hb, -, hown, hts, hr, hlocks, -, -⟩ := id C
  have hS : va_S (AW G) s.heap s.heap [] := va_S.rf
  have hl := lv_entry [.ref (G.2.2 0), .int v1] (n := 3) (Nat.le_of_ble_eq_true rfl)
  rw [lg_entry_eq]
  generalize (lg_sl [.ref (G.2.2 0), .int v1] ++ List.replicate (3 - (lg_sl [.ref (G.2.2 0), .int v1]).length) Slot.unset).toArray = ls at hl ⊢
  have hl : lv_has ls 3 [(0, .ref (G.2.2 0)), (1, .int v1)] := hl
  unfold fn_X11_putOnTape at h
  refine lv_bipush (v := 24) hx hb dX11_putOnTape_0 (by decide) ?_
  refine lv_istore_n (lv' := [(2, .int 24), (0, .ref (G.2.2 0)), (1, .int v1)]) hx hb dX11_putOnTape_2 rfl hl (by decide) rfl (fun ls hl => ?_)
  exact pf_X11_putOnTape_3 C   fu v1 24 z  _ _ _ hP hS (lv_sub hl [1, 2, 0] rfl) h
def fn_X11_feed (v1 : Int32) (v2 : Int32) (v3 : Int32) (v4 : Int32) (v5 : Int32) (z : St) : Option (Int32 × St) := (if (z.1 0 1) ≤ 1580 then bv (fn_X11_putOnTape  v1 z) (fun z3 => bv (fn_X11_putOnTape  v2 z3) (fun z5 => bv (fn_X11_putOnTape  v3 z5) (fun z7 => bv (fn_X11_putOnTape  v4 z7) (fun z9 => bv (fn_X11_putOnTape  v5 z9) (fun z11 => some ((z11.1 0 1), z11)))))) else some ((-1), z))
set_option maxHeartbeats 4000000 in
set_option maxRecDepth 100000 in
theorem m_X11_feed {l : Launch} {G : wG} (hG : Ok G) {v1 : Int32} {v2 : Int32} {v3 : Int32} {v4 : Int32} {v5 : Int32} {z : St} {Rz : Int32 × St}  (h : fn_X11_feed  v1 v2 v3 v4 v5 z = some Rz) : Met l yX11_feed (wsU yX11_feed cX11_feed 6 (some .int)) (rmd 2) (va_Pc [.ref (G.2.2 0), .int v1, .int v2, .int v3, .int v4, .int v5] (Pre G z)) (va_Qi (fun r u => (r, u) = Rz) (Pre G) (AW G)) 0 0 (AW G) := by
  refine Met.ofW (cc := cX11_feed) (maxL := 6) (ret := (some .int)) (by decide) rfl ?_
  intro p e s m args below meth c s₁ B hml hv
  obtain ⟨rfl, hP, hK⟩ := hv
  have C : CX p s m ([.ref (G.2.2 0), .int v1, .int v2, .int v3, .int v4, .int v5] : List Value).toArray meth c cX11_feed 6 (wsU yX11_feed cX11_feed 6 (some .int)) RX11 (some .int) G := ⟨B.exec, B.bytes, hml, findClass_of_methodNamed B.named, atoms_spec (ws := (wsU yX11_feed cX11_feed 6 (some .int))) B.pre, B.returns, B.notSynchronized, hK, hG⟩
  obtain ⟨hx, hb, -, hown, hts, hr, hlocks, -, -⟩ := id C
  have hS : va_S (AW G) s.heap s.heap [] := va_S.rf
  have hl := lv_entry [.ref (G.2.2 0), .int v1, .int v2, .int v3, .int v4, .int v5] (n := 6) (Nat.le_of_ble_eq_true rfl)
  rw [lg_entry_eq]
  generalize (lg_sl [.ref (G.2.2 0), .int v1, .int v2, .int v3, .int v4, .int v5] ++ List.replicate (6 - (lg_sl [.ref (G.2.2 0), .int v1, .int v2, .int v3, .int v4, .int v5]).length) Slot.unset).toArray = ls at hl ⊢
  have hl : lv_has ls 6 [(0, .ref (G.2.2 0)), (1, .int v1), (2, .int v2), (3, .int v3), (4, .int v4), (5, .int v5)] := hl
  unfold fn_X11_feed at h
  refine lv_aload_n hx hb dX11_feed_0 rfl (lv_at hl 0 rfl) ?_
  refine ge_11_1 hx hb hts (inU inW_X11) hown hK hP k_0 (hts _ (List.mem_cons_of_mem _ lw_704)) dX11_feed_1 ?_
  refine lv_sipush (v := 1580) hx hb dX11_feed_4 (by decide) ?_
  refine lv_icmp_le (tgt := 12) hx hb dX11_feed_7 (by decide) (fun c1 => ?_) (fun c1 => ?_)
  · rw [if_pos c1] at h
    refine lv_aload_n hx hb dX11_feed_12 rfl (lv_at hl 0 rfl) ?_
    refine lv_iload_n hx hb dX11_feed_13 rfl (lv_at hl 1 rfl) ?_
    obtain ⟨z3, h2, h⟩ := bv_s h
    refine x_Vv (Rz := z3) (As := [.int v1]) (rest := []) ⟨hx, hb, hml, hown, hts⟩ hK hP hS (kd_lt k_0 (by decide)) (cell_11 k_0) rfl (m_X11_putOnTape hG   h2) (cwV 1 hts (gV lw_753 lw_755 lw_0 lw_109 lw_756) rfl rfl rfl (by decide +kernel) (rmd_ok (by decide) (by decide))) rfl hl.1 rfl (Nat.le_of_ble_eq_true rfl) dX11_feed_14 ⟨Nat.le_refl _, Nat.le_refl _⟩ (fun H locs hP hS => ?_)
    refine lv_aload_n hx hb dX11_feed_17 rfl (lv_at hl 0 rfl) ?_
    refine lv_iload_n hx hb dX11_feed_18 rfl (lv_at hl 2 rfl) ?_
    obtain ⟨z5, h4, h⟩ := bv_s h
    refine x_Vv (Rz := z5) (As := [.int v2]) (rest := []) ⟨hx, hb, hml, hown, hts⟩ hK hP hS (kd_lt k_0 (by decide)) (cell_11 k_0) rfl (m_X11_putOnTape hG   h4) (cwV 1 hts (gV lw_753 lw_755 lw_0 lw_109 lw_756) rfl rfl rfl (by decide +kernel) (rmd_ok (by decide) (by decide))) rfl hl.1 rfl (Nat.le_of_ble_eq_true rfl) dX11_feed_19 ⟨Nat.le_refl _, Nat.le_refl _⟩ (fun H locs hP hS => ?_)
    refine lv_aload_n hx hb dX11_feed_22 rfl (lv_at hl 0 rfl) ?_
    refine lv_iload_n hx hb dX11_feed_23 rfl (lv_at hl 3 rfl) ?_
    obtain ⟨z7, h6, h⟩ := bv_s h
    refine x_Vv (Rz := z7) (As := [.int v3]) (rest := []) ⟨hx, hb, hml, hown, hts⟩ hK hP hS (kd_lt k_0 (by decide)) (cell_11 k_0) rfl (m_X11_putOnTape hG   h6) (cwV 1 hts (gV lw_753 lw_755 lw_0 lw_109 lw_756) rfl rfl rfl (by decide +kernel) (rmd_ok (by decide) (by decide))) rfl hl.1 rfl (Nat.le_of_ble_eq_true rfl) dX11_feed_24 ⟨Nat.le_refl _, Nat.le_refl _⟩ (fun H locs hP hS => ?_)
    refine lv_aload_n hx hb dX11_feed_27 rfl (lv_at hl 0 rfl) ?_
    refine lv_iload hx hb dX11_feed_28 (lv_at hl 4 rfl) ?_
    obtain ⟨z9, h8, h⟩ := bv_s h
    refine x_Vv (Rz := z9) (As := [.int v4]) (rest := []) ⟨hx, hb, hml, hown, hts⟩ hK hP hS (kd_lt k_0 (by decide)) (cell_11 k_0) rfl (m_X11_putOnTape hG   h8) (cwV 1 hts (gV lw_753 lw_755 lw_0 lw_109 lw_756) rfl rfl rfl (by decide +kernel) (rmd_ok (by decide) (by decide))) rfl hl.1 rfl (Nat.le_of_ble_eq_true rfl) dX11_feed_30 ⟨Nat.le_refl _, Nat.le_refl _⟩ (fun H locs hP hS => ?_)
    refine lv_aload_n hx hb dX11_feed_33 rfl (lv_at hl 0 rfl) ?_
    refine lv_iload hx hb dX11_feed_34 (lv_at hl 5 rfl) ?_
    obtain ⟨z11, h10, h⟩ := bv_s h
    refine x_Vv (Rz := z11) (As := [.int v5]) (rest := []) ⟨hx, hb, hml, hown, hts⟩ hK hP hS (kd_lt k_0 (by decide)) (cell_11 k_0) rfl (m_X11_putOnTape hG   h10) (cwV 1 hts (gV lw_753 lw_755 lw_0 lw_109 lw_756) rfl rfl rfl (by decide +kernel) (rmd_ok (by decide) (by decide))) rfl hl.1 rfl (Nat.le_of_ble_eq_true rfl) dX11_feed_36 ⟨Nat.le_refl _, Nat.le_refl _⟩ (fun H locs hP hS => ?_)
    refine lv_aload_n hx hb dX11_feed_39 rfl (lv_at hl 0 rfl) ?_
    refine ge_11_1 hx hb hts (inU inW_X11) hown hK hP k_0 (hts _ (List.mem_cons_of_mem _ lw_704)) dX11_feed_40 ?_
    exact x_iret hx hb hr hlocks hK hP hS h dX11_feed_43
  · rw [if_neg c1] at h
    refine lv_iconst (v := (-1)) hx hb dX11_feed_10 (by decide) ?_
    exact x_iret hx hb hr hlocks hK hP hS h dX11_feed_11
def fn_X11_end (v1 : Int32) (z : St) : Option (Int32 × St) := (if v1 < 0 then some ((-1), z) else (if v1 ≤ (z.1 0 1) then nm (sI z 0 1 v1) (fun z3 => some (v1, z3)) else some ((-1), z)))
set_option maxHeartbeats 4000000 in
set_option maxRecDepth 100000 in
theorem m_X11_end {l : Launch} {G : wG} (hG : Ok G) {v1 : Int32} {z : St} {Rz : Int32 × St}  (h : fn_X11_end  v1 z = some Rz) : Met l yX11_end (wsU yX11_end cX11_end 2 (some .int)) (rmd 1) (va_Pc [.ref (G.2.2 0), .int v1] (Pre G z)) (va_Qi (fun r u => (r, u) = Rz) (Pre G) (AW G)) 0 0 (AW G) := by
  refine Met.ofW (cc := cX11_end) (maxL := 2) (ret := (some .int)) (by decide) rfl ?_
  intro p e s m args below meth c s₁ B hml hv
  obtain ⟨rfl, hP, hK⟩ := hv
  have C : CX p s m ([.ref (G.2.2 0), .int v1] : List Value).toArray meth c cX11_end 2 (wsU yX11_end cX11_end 2 (some .int)) RX11 (some .int) G := ⟨B.exec, B.bytes, hml, findClass_of_methodNamed B.named, atoms_spec (ws := (wsU yX11_end cX11_end 2 (some .int))) B.pre, B.returns, B.notSynchronized, hK, hG⟩
  obtain ⟨hx, hb, -, hown, hts, hr, hlocks, -, -⟩ := id C
  have hS : va_S (AW G) s.heap s.heap [] := va_S.rf
  have hl := lv_entry [.ref (G.2.2 0), .int v1] (n := 2) (Nat.le_of_ble_eq_true rfl)
  rw [lg_entry_eq]
  generalize (lg_sl [.ref (G.2.2 0), .int v1] ++ List.replicate (2 - (lg_sl [.ref (G.2.2 0), .int v1]).length) Slot.unset).toArray = ls at hl ⊢
  have hl : lv_has ls 2 [(0, .ref (G.2.2 0)), (1, .int v1)] := hl
  unfold fn_X11_end at h
  refine lv_iload_n hx hb dX11_end_0 rfl (lv_at hl 1 rfl) ?_
  refine lv_if_lt (tgt := 12) hx hb dX11_end_1 (by decide) (fun c1 => ?_) (fun c1 => ?_)
  · rw [if_pos c1] at h
    refine lv_iconst (v := (-1)) hx hb dX11_end_12 (by decide) ?_
    exact x_iret hx hb hr hlocks hK hP hS h dX11_end_13
  · rw [if_neg c1] at h
    refine lv_iload_n hx hb dX11_end_4 rfl (lv_at hl 1 rfl) ?_
    refine lv_aload_n hx hb dX11_end_5 rfl (lv_at hl 0 rfl) ?_
    refine ge_11_1 hx hb hts (inU inW_X11) hown hK hP k_0 (hts _ (List.mem_cons_of_mem _ lw_704)) dX11_end_6 ?_
    refine lv_icmp_le (tgt := 14) hx hb dX11_end_9 (by decide) (fun c2 => ?_) (fun c2 => ?_)
    · rw [if_pos c2] at h
      refine lv_aload_n hx hb dX11_end_14 rfl (lv_at hl 0 rfl) ?_
      refine lv_iload_n hx hb dX11_end_15 rfl (lv_at hl 1 rfl) ?_
      obtain ⟨z3, e_z3, h⟩ := nm_s h
      refine pu_11_1 hx hb hts (inU inW_X11) hown hK hG hP hS k_0 (hts _ (List.mem_cons_of_mem _ lw_704)) dX11_end_16 (fun H locs hP hS => ?_)
      rw [← e_z3] at hP
      refine lv_iload_n hx hb dX11_end_19 rfl (lv_at hl 1 rfl) ?_
      exact x_iret hx hb hr hlocks hK hP hS h dX11_end_20
    · rw [if_neg c2] at h
      refine lv_iconst (v := (-1)) hx hb dX11_end_12 (by decide) ?_
      exact x_iret hx hb hr hlocks hK hP hS h dX11_end_13
def fn_X11_cake_47 : Nat → Int32 → St → Option (Int32 × St)
  | 0, _, _ => none
  | n + 1, v2, z => (if 3 ≤ v2 then bv (fn_X0_forget   z) (fun z3 => bv (fn_X4_forget   z3) (fun z5 => nm (sI z5 0 14 0) (fun z6 => some ((z6.1 2 0), z6)))) else gd (ix v2 3) (nm (sI z (61 + 1 + 27 * (Int32.toNatClampNeg v2)) 5 0) (fun z8 => fn_X11_cake_47   n (v2 + 1) z8)))
set_option maxHeartbeats 4000000 in
set_option maxRecDepth 100000 in
theorem pf_X11_cake_47 {p : Program} {l : Launch} {e : Env} {s : State} {m : MethodId} {args : Array Value} {below : List Frame} {meth : Method} {c : Code} {G : wG} (C : CX p s m args meth c cX11_cake 3 (wsU yX11_cake cX11_cake 3 (some .int)) RX11 (some .int) G) {Rz : Int32 × St} : ∀ (n : Nat) (v2 : Int32) (z : St)  (H : Heap) (locs : List Loc) (ls : Array Slot), WP G z H → va_S (AW G) s.heap H locs → lv_has ls 3 [(0, .ref (G.2.2 0)), (2, .int v2)] → fn_X11_cake_47   n v2 z = some Rz → W p l e (rmd 110) s m args below meth c H locs 0 0 (QI below args s G Rz) (F0 m 47 ls []) := by
  obtain ⟨hx, hb, hml, hown, hts, hr, hlocks, hK, hG⟩ := id C
  intro n
  induction n with
  | zero => intro v2 z  H locs ls hP hS hl h; cases h
  | succ n ih =>
    intro v2 z  H locs ls hP hS hl h
    rw [fn_X11_cake_47] at h
    refine lv_iload_n hx hb dX11_cake_47 rfl (lv_at hl 1 rfl) ?_
    refine lv_aload_n hx hb dX11_cake_48 rfl (lv_at hl 0 rfl) ?_
    refine ge_11_6 hx hb hts (inU inW_X11) hown hK hP k_0 (hts _ (List.mem_cons_of_mem _ lw_709)) dX11_cake_49 ?_
    refine xn_17 (v := 3) hx hb hK hP k_61 l_61 rfl dX11_cake_52 ?_
    refine lv_icmp_ge (tgt := 72) hx hb dX11_cake_53 (by decide) (fun c1 => ?_) (fun c1 => ?_)
    · rw [if_pos c1] at h
      refine lv_aload_n hx hb dX11_cake_72 rfl (lv_at hl 0 rfl) ?_
      refine ge_11_8 hx hb hts (inU inW_X11) hown hK hP k_0 (hts _ (List.mem_cons_of_mem _ lw_711)) dX11_cake_73 ?_
      obtain ⟨z3, h2, h⟩ := bv_s h
      refine x_Vv (Rz := z3) (As := []) (rest := []) ⟨hx, hb, hml, hown, hts⟩ hK hP hS (kd_lt k_146 (by decide)) (cell_0 k_146) rfl (m_X0_forget hG   h2) (cwV 0 hts (gV lw_926 lw_927 lw_928 lw_120 lw_929) rfl rfl rfl (by decide +kernel) (rmd_ok (by decide) (by decide))) rfl hl.1 rfl (Nat.le_of_ble_eq_true rfl) dX11_cake_76 ⟨Nat.le_refl _, Nat.le_refl _⟩ (fun H locs hP hS => ?_)
      refine lv_aload_n hx hb dX11_cake_79 rfl (lv_at hl 0 rfl) ?_
      refine ge_11_12 hx hb hts (inU inW_X11) hown hK hP k_0 (hts _ (List.mem_cons_of_mem _ lw_715)) dX11_cake_80 ?_
      obtain ⟨z5, h4, h⟩ := bv_s h
      refine x_Vv (Rz := z5) (As := []) (rest := []) ⟨hx, hb, hml, hown, hts⟩ hK hP hS (kd_lt k_162 (by decide)) (cell_4 k_162) rfl (m_X4_forget hG   h4) (cwV 0 hts (gV lw_930 lw_931 lw_932 lw_124 lw_933) rfl rfl rfl (by decide +kernel) (rmd_ok (by decide) (by decide))) rfl hl.1 rfl (Nat.le_of_ble_eq_true rfl) dX11_cake_83 ⟨Nat.le_refl _, Nat.le_refl _⟩ (fun H locs hP hS => ?_)
      refine lv_aload_n hx hb dX11_cake_86 rfl (lv_at hl 0 rfl) ?_
      refine lv_iconst (v := 0) hx hb dX11_cake_87 (by decide) ?_
      obtain ⟨z6, e_z6, h⟩ := nm_s h
      refine pu_11_14 hx hb hts (inU inW_X11) hown hK hG hP hS k_0 (hts _ (List.mem_cons_of_mem _ lw_717)) dX11_cake_88 (fun H locs hP hS => ?_)
      rw [← e_z6] at hP
      refine lv_aload_n hx hb dX11_cake_91 rfl (lv_at hl 0 rfl) ?_
      refine ge_11_2 hx hb hts (inU inW_X11) hown hK hP k_0 (hts _ (List.mem_cons_of_mem _ lw_705)) dX11_cake_92 ?_
      refine ge_7_0 hx hb hts (inU inW_X7) hown hK hP k_2 (hts _ (List.mem_cons_of_mem _ lw_181)) dX11_cake_95 ?_
      exact x_iret hx hb hr hlocks hK hP hS h dX11_cake_98
    · rw [if_neg c1] at h
      refine lv_aload_n hx hb dX11_cake_56 rfl (lv_at hl 0 rfl) ?_
      refine ge_11_6 hx hb hts (inU inW_X11) hown hK hP k_0 (hts _ (List.mem_cons_of_mem _ lw_709)) dX11_cake_57 ?_
      refine lv_iload_n hx hb dX11_cake_60 rfl (lv_at hl 1 rfl) ?_
      obtain ⟨g7, h⟩ := gd_s h
      refine xl_17 hx hb hK hP k_61 l_61 (ix_in g7) dX11_cake_61 ?_
      refine lv_iconst (v := 0) hx hb dX11_cake_62 (by decide) ?_
      obtain ⟨z8, e_z8, h⟩ := nm_s h
      refine pu_1_5 hx hb hts (inU inW_X1) hown hK hG hP hS (ke_17 k_61 (ix_lt g7)) (hts _ (List.mem_cons_of_mem _ lw_433)) rfl dX11_cake_63 (fun H locs hP hS => ?_)
      rw [← e_z8] at hP
      refine lv_iinc (v := (v2 + 1)) (lv' := [(2, .int (v2 + 1)), (0, .ref (G.2.2 0))]) hx hb dX11_cake_66 hl (k := 1) rfl rfl (by decide) rfl (fun ls hl => ?_)
      refine lv_goto (tgt := 47) hx hb dX11_cake_69 (by decide) ?_
      exact ih (v2 + 1) z8  _ _ _ hP hS (lv_sub hl [1, 0] rfl) h
def fn_X11_cake  (z : St) : Option (Int32 × St) := bd (fn_X6_readAll  (z.1 0 1) z) (fun r2 z3 => nm (sI z3 0 1 0) (fun z4 => (if r2 = 0 then some ((-1), z4) else bv (fn_X7_takeFrom  2 17 z4) (fun z7 => bv (fn_X1_lay  34 2 z7) (fun z9 => fn_X11_cake_47   fu 0 z9)))))
set_option maxHeartbeats 4000000 in
set_option maxRecDepth 100000 in
theorem m_X11_cake {l : Launch} {G : wG} (hG : Ok G)  {z : St} {Rz : Int32 × St}  (h : fn_X11_cake   z = some Rz) : Met l yX11_cake (wsU yX11_cake cX11_cake 3 (some .int)) (rmd 110) (va_Pc [.ref (G.2.2 0)] (Pre G z)) (va_Qi (fun r u => (r, u) = Rz) (Pre G) (AW G)) 0 0 (AW G) := by
  refine Met.ofW (cc := cX11_cake) (maxL := 3) (ret := (some .int)) (by decide) rfl ?_
  intro p e s m args below meth c s₁ B hml hv
  obtain ⟨rfl, hP, hK⟩ := hv
  have C : CX p s m ([.ref (G.2.2 0)] : List Value).toArray meth c cX11_cake 3 (wsU yX11_cake cX11_cake 3 (some .int)) RX11 (some .int) G := ⟨B.exec, B.bytes, hml, findClass_of_methodNamed B.named, atoms_spec (ws := (wsU yX11_cake cX11_cake 3 (some .int))) B.pre, B.returns, B.notSynchronized, hK, hG⟩
  obtain ⟨hx, hb, -, hown, hts, hr, hlocks, -, -⟩ := id C
  have hS : va_S (AW G) s.heap s.heap [] := va_S.rf
  have hl := lv_entry [.ref (G.2.2 0)] (n := 3) (Nat.le_of_ble_eq_true rfl)
  rw [lg_entry_eq]
  generalize (lg_sl [.ref (G.2.2 0)] ++ List.replicate (3 - (lg_sl [.ref (G.2.2 0)]).length) Slot.unset).toArray = ls at hl ⊢
  have hl : lv_has ls 3 [(0, .ref (G.2.2 0))] := hl
  unfold fn_X11_cake at h
  refine lv_aload_n hx hb dX11_cake_0 rfl (lv_at hl 0 rfl) ?_
  refine ge_11_4 hx hb hts (inU inW_X11) hown hK hP k_0 (hts _ (List.mem_cons_of_mem _ lw_707)) dX11_cake_1 ?_
  refine lv_aload_n hx hb dX11_cake_4 rfl (lv_at hl 0 rfl) ?_
  refine ge_11_1 hx hb hts (inU inW_X11) hown hK hP k_0 (hts _ (List.mem_cons_of_mem _ lw_704)) dX11_cake_5 ?_
  obtain ⟨r2, z3, h1, h⟩ := bd_s h
  refine x_Vi (Rz := (r2, z3)) (As := [.int (z.1 0 1)]) (rest := []) ⟨hx, hb, hml, hown, hts⟩ hK hP hS (kd_lt k_32 (by decide)) (cell_6 k_32) rfl (m_X6_readAll hG   h1) (cwV 1 hts (gV lw_765 lw_766 lw_767 lw_112 lw_768) rfl rfl rfl (by decide +kernel) (rmd_ok (by decide) (by decide))) rfl hl.1 rfl (Nat.le_of_ble_eq_true rfl) dX11_cake_8 ⟨Nat.le_refl _, Nat.le_refl _⟩ (fun H locs hP hS => ?_)
  refine lv_istore_n (lv' := [(1, .int r2), (0, .ref (G.2.2 0))]) hx hb dX11_cake_11 rfl hl (by decide) rfl (fun ls hl => ?_)
  refine lv_aload_n hx hb dX11_cake_12 rfl (lv_at hl 1 rfl) ?_
  refine lv_iconst (v := 0) hx hb dX11_cake_13 (by decide) ?_
  obtain ⟨z4, e_z4, h⟩ := nm_s h
  refine pu_11_1 hx hb hts (inU inW_X11) hown hK hG hP hS k_0 (hts _ (List.mem_cons_of_mem _ lw_704)) dX11_cake_14 (fun H locs hP hS => ?_)
  rw [← e_z4] at hP
  refine lv_iload_n hx hb dX11_cake_17 rfl (lv_at hl 0 rfl) ?_
  refine lv_if_ne (tgt := 23) hx hb dX11_cake_18 (by decide) (fun c5 => ?_) (fun c5 => ?_)
  · rw [if_neg c5] at h
    refine lv_aload_n hx hb dX11_cake_23 rfl (lv_at hl 1 rfl) ?_
    refine ge_11_2 hx hb hts (inU inW_X11) hown hK hP k_0 (hts _ (List.mem_cons_of_mem _ lw_705)) dX11_cake_24 ?_
    refine lv_aload_n hx hb dX11_cake_27 rfl (lv_at hl 1 rfl) ?_
    refine ge_11_3 hx hb hts (inU inW_X11) hown hK hP k_0 (hts _ (List.mem_cons_of_mem _ lw_706)) dX11_cake_28 ?_
    obtain ⟨z7, h6, h⟩ := bv_s h
    refine x_Vv (Rz := z7) (As := [.ref (G.2.2 17)]) (rest := []) ⟨hx, hb, hml, hown, hts⟩ hK hP hS (kd_lt k_2 (by decide)) (cell_7 k_2) rfl (m_X7_takeFrom hG  k_2 k_17 h6) (cwV 1 hts (gV lw_910 lw_911 lw_912 lw_110 lw_913) rfl rfl rfl (by decide +kernel) (rmd_ok (by decide) (by decide))) rfl hl.1 rfl (Nat.le_of_ble_eq_true rfl) dX11_cake_31 ⟨Nat.le_refl _, Nat.le_refl _⟩ (fun H locs hP hS => ?_)
    refine lv_aload_n hx hb dX11_cake_34 rfl (lv_at hl 1 rfl) ?_
    refine ge_11_5 hx hb hts (inU inW_X11) hown hK hP k_0 (hts _ (List.mem_cons_of_mem _ lw_708)) dX11_cake_35 ?_
    refine lv_aload_n hx hb dX11_cake_38 rfl (lv_at hl 1 rfl) ?_
    refine ge_11_2 hx hb hts (inU inW_X11) hown hK hP k_0 (hts _ (List.mem_cons_of_mem _ lw_705)) dX11_cake_39 ?_
    obtain ⟨z9, h8, h⟩ := bv_s h
    refine x_Vv (Rz := z9) (As := [.ref (G.2.2 2)]) (rest := []) ⟨hx, hb, hml, hown, hts⟩ hK hP hS (kd_lt k_34 (by decide)) (cell_1 k_34) rfl (m_X1_lay hG  k_34 k_2 h8) (cwV 1 hts (gV lw_918 lw_919 lw_920 lw_117 lw_921) rfl rfl rfl (by decide +kernel) (rmd_ok (by decide) (by decide))) rfl hl.1 rfl (Nat.le_of_ble_eq_true rfl) dX11_cake_42 ⟨Nat.le_refl _, Nat.le_refl _⟩ (fun H locs hP hS => ?_)
    refine lv_iconst (v := 0) hx hb dX11_cake_45 (by decide) ?_
    refine lv_istore_n (lv' := [(2, .int 0), (1, .int r2), (0, .ref (G.2.2 0))]) hx hb dX11_cake_46 rfl hl (by decide) rfl (fun ls hl => ?_)
    exact pf_X11_cake_47 C   fu 0 z9  _ _ _ hP hS (lv_sub hl [2, 0] rfl) h
  · rw [if_pos c5] at h
    refine lv_iconst (v := (-1)) hx hb dX11_cake_21 (by decide) ?_
    exact x_iret hx hb hr hlocks hK hP hS h dX11_cake_22
def fn_X11_fault (v1 : Int32) (z : St) : Option (Int32 × St) := (if v1 = 0 then some ((z.1 32 11), z) else (if v1 = 1 then some ((z.1 32 12), z) else (some ((-1), z))))
set_option maxHeartbeats 4000000 in
set_option maxRecDepth 100000 in
theorem m_X11_fault {l : Launch} {G : wG} (hG : Ok G) {v1 : Int32} {z : St} {Rz : Int32 × St}  (h : fn_X11_fault  v1 z = some Rz) : Met l yX11_fault (wsU yX11_fault cX11_fault 2 (some .int)) (rmd 1) (va_Pc [.ref (G.2.2 0), .int v1] (Pre G z)) (va_Qi (fun r u => (r, u) = Rz) (Pre G) (AW G)) 0 0 (AW G) := by
  refine Met.ofW (cc := cX11_fault) (maxL := 2) (ret := (some .int)) (by decide) rfl ?_
  intro p e s m args below meth c s₁ B hml hv
  obtain ⟨rfl, hP, hK⟩ := hv
  have C : CX p s m ([.ref (G.2.2 0), .int v1] : List Value).toArray meth c cX11_fault 2 (wsU yX11_fault cX11_fault 2 (some .int)) RX11 (some .int) G := ⟨B.exec, B.bytes, hml, findClass_of_methodNamed B.named, atoms_spec (ws := (wsU yX11_fault cX11_fault 2 (some .int))) B.pre, B.returns, B.notSynchronized, hK, hG⟩
  obtain ⟨hx, hb, -, hown, hts, hr, hlocks, -, -⟩ := id C
  have hS : va_S (AW G) s.heap s.heap [] := va_S.rf
  have hl := lv_entry [.ref (G.2.2 0), .int v1] (n := 2) (Nat.le_of_ble_eq_true rfl)
  rw [lg_entry_eq]
  generalize (lg_sl [.ref (G.2.2 0), .int v1] ++ List.replicate (2 - (lg_sl [.ref (G.2.2 0), .int v1]).length) Slot.unset).toArray = ls at hl ⊢
  have hl : lv_has ls 2 [(0, .ref (G.2.2 0)), (1, .int v1)] := hl
  unfold fn_X11_fault at h
  refine lv_iload_n hx hb dX11_fault_0 rfl (lv_at hl 1 rfl) ?_
  by_cases c1 : v1 = 0
  · rw [if_pos c1] at h
    refine lv_lookup (off := 27) (tgt := 28) hx hb dX11_fault_1 (by decide) (by rw [c1]; rfl) (by decide) ?_
    refine lv_aload_n hx hb dX11_fault_28 rfl (lv_at hl 0 rfl) ?_
    refine ge_11_4 hx hb hts (inU inW_X11) hown hK hP k_0 (hts _ (List.mem_cons_of_mem _ lw_707)) dX11_fault_29 ?_
    refine ge_6_11 hx hb hts (inU inW_X6) hown hK hP k_32 (hts _ (List.mem_cons_of_mem _ lw_332)) dX11_fault_32 ?_
    exact x_iret hx hb hr hlocks hK hP hS h dX11_fault_35
  rw [if_neg c1] at h
  by_cases c2 : v1 = 1
  · rw [if_pos c2] at h
    refine lv_lookup (off := 35) (tgt := 36) hx hb dX11_fault_1 (by decide) (by rw [c2]; rfl) (by decide) ?_
    refine lv_aload_n hx hb dX11_fault_36 rfl (lv_at hl 0 rfl) ?_
    refine ge_11_4 hx hb hts (inU inW_X11) hown hK hP k_0 (hts _ (List.mem_cons_of_mem _ lw_707)) dX11_fault_37 ?_
    refine ge_6_12 hx hb hts (inU inW_X6) hown hK hP k_32 (hts _ (List.mem_cons_of_mem _ lw_334)) dX11_fault_40 ?_
    exact x_iret hx hb hr hlocks hK hP hS h dX11_fault_43
  rw [if_neg c2] at h
  refine lv_lookup (off := 43) (tgt := 44) hx hb dX11_fault_1 (by decide) (by rw [lv_osw c1 (by decide), lv_osw c2 (by decide)]; rfl) (by decide) ?_
  refine lv_iconst (v := (-1)) hx hb dX11_fault_44 (by decide) ?_
  exact x_iret hx hb hr hlocks hK hP hS h dX11_fault_45
def fn_X11_piece (v1 : Int32) (v2 : Int32) (z : St) : Option (Int32 × St) := bd (fn_X1_isPiece  34 v1 z) (fun r2 z3 => (if r2 = 0 then some ((-2), z3) else gd (ix v1 24) ((if v2 = 0 then some ((z3.1 (35 + 1 + (Int32.toNatClampNeg v1)) 0), z3) else (if v2 = 1 then some ((z3.1 (35 + 1 + (Int32.toNatClampNeg v1)) 1), z3) else (if v2 = 2 then some ((z3.1 (35 + 1 + (Int32.toNatClampNeg v1)) 2), z3) else (if v2 = 3 then some ((z3.1 (35 + 1 + (Int32.toNatClampNeg v1)) 3), z3) else (if v2 = 4 then some ((z3.1 (35 + 1 + (Int32.toNatClampNeg v1)) 4), z3) else (if v2 = 5 then bd (fn_X7_areaOf  2 (35 + 1 + (Int32.toNatClampNeg v1)) z3) (fun r13 z14 => some (r13, z14)) else (if v2 = 6 then bd (fn_X7_icingOf  2 (35 + 1 + (Int32.toNatClampNeg v1)) z3) (fun r17 z18 => some (r17, z18)) else (if v2 = 7 then (if (z3.1 (35 + 1 + (Int32.toNatClampNeg v1)) 5) = 0 then some (0, z3) else some (1, z3)) else (if v2 = 8 then some ((z3.1 (35 + 1 + (Int32.toNatClampNeg v1)) 6), z3) else (some ((-2), z3))))))))))))))
set_option maxHeartbeats 4000000 in
set_option maxRecDepth 100000 in
theorem m_X11_piece {l : Launch} {G : wG} (hG : Ok G) {v1 : Int32} {v2 : Int32} {z : St} {Rz : Int32 × St}  (h : fn_X11_piece  v1 v2 z = some Rz) : Met l yX11_piece (wsU yX11_piece cX11_piece 4 (some .int)) (rmd 3) (va_Pc [.ref (G.2.2 0), .int v1, .int v2] (Pre G z)) (va_Qi (fun r u => (r, u) = Rz) (Pre G) (AW G)) 0 0 (AW G) := by
  refine Met.ofW (cc := cX11_piece) (maxL := 4) (ret := (some .int)) (by decide) rfl ?_
  intro p e s m args below meth c s₁ B hml hv
  obtain ⟨rfl, hP, hK⟩ := hv
  have C : CX p s m ([.ref (G.2.2 0), .int v1, .int v2] : List Value).toArray meth c cX11_piece 4 (wsU yX11_piece cX11_piece 4 (some .int)) RX11 (some .int) G := ⟨B.exec, B.bytes, hml, findClass_of_methodNamed B.named, atoms_spec (ws := (wsU yX11_piece cX11_piece 4 (some .int))) B.pre, B.returns, B.notSynchronized, hK, hG⟩
  obtain ⟨hx, hb, -, hown, hts, hr, hlocks, -, -⟩ := id C
  have hS : va_S (AW G) s.heap s.heap [] := va_S.rf
  have hl := lv_entry [.ref (G.2.2 0), .int v1, .int v2] (n := 4) (Nat.le_of_ble_eq_true rfl)
  rw [lg_entry_eq]
  generalize (lg_sl [.ref (G.2.2 0), .int v1, .int v2] ++ List.replicate (4 - (lg_sl [.ref (G.2.2 0), .int v1, .int v2]).length) Slot.unset).toArray = ls at hl ⊢
  have hl : lv_has ls 4 [(0, .ref (G.2.2 0)), (1, .int v1), (2, .int v2)] := hl
  unfold fn_X11_piece at h
  refine lv_aload_n hx hb dX11_piece_0 rfl (lv_at hl 0 rfl) ?_
  refine ge_11_5 hx hb hts (inU inW_X11) hown hK hP k_0 (hts _ (List.mem_cons_of_mem _ lw_708)) dX11_piece_1 ?_
  refine lv_iload_n hx hb dX11_piece_4 rfl (lv_at hl 1 rfl) ?_
  obtain ⟨r2, z3, h1, h⟩ := bd_s h
  refine x_Vi (Rz := (r2, z3)) (As := [.int v1]) (rest := []) ⟨hx, hb, hml, hown, hts⟩ hK hP hS (kd_lt k_34 (by decide)) (cell_1 k_34) rfl (m_X1_isPiece hG  k_34 h1) (cwV 1 hts (gV lw_942 lw_943 lw_944 lw_117 lw_945) rfl rfl rfl (by decide +kernel) (rmd_ok (by decide) (by decide))) rfl hl.1 rfl (Nat.le_of_ble_eq_true rfl) dX11_piece_5 ⟨Nat.le_refl _, Nat.le_refl _⟩ (fun H locs hP hS => ?_)
  refine lv_if_ne (tgt := 14) hx hb dX11_piece_8 (by decide) (fun c4 => ?_) (fun c4 => ?_)
  · rw [if_neg c4] at h
    refine lv_aload_n hx hb dX11_piece_14 rfl (lv_at hl 0 rfl) ?_
    refine ge_11_5 hx hb hts (inU inW_X11) hown hK hP k_0 (hts _ (List.mem_cons_of_mem _ lw_708)) dX11_piece_15 ?_
    refine ge_1_0 hx hb hts (inU inW_X1) hown hK hP k_34 (hts _ (List.mem_cons_of_mem _ lw_416)) dX11_piece_18 ?_
    refine lv_iload_n hx hb dX11_piece_21 rfl (lv_at hl 1 rfl) ?_
    obtain ⟨g5, h⟩ := gd_s h
    refine xl_18 hx hb hK hP k_35 l_35 (ix_in g5) dX11_piece_22 ?_
    refine lv_astore_n (lv' := [(3, .ref (G.2.2 (35 + 1 + (Int32.toNatClampNeg v1)))), (0, .ref (G.2.2 0)), (1, .int v1), (2, .int v2)]) hx hb dX11_piece_23 rfl hl (by decide) rfl (fun ls hl => ?_)
    refine lv_iload_n hx hb dX11_piece_24 rfl (lv_at hl 3 rfl) ?_
    by_cases c6 : v2 = 0
    · rw [if_pos c6] at h
      refine lv_tableIn (off := 51) (tgt := 76) hx hb dX11_piece_25 (by rw [c6]; decide) (by rw [c6]; decide) (by rw [c6]; rfl) (by decide) ?_
      refine lv_aload_n hx hb dX11_piece_76 rfl (lv_at hl 0 rfl) ?_
      refine ge_9_0 hx hb hts (inU inW_X9) hown hK hP (ke_18 k_35 (ix_lt g5)) (hts _ (List.mem_cons_of_mem _ lw_376)) dX11_piece_77 ?_
      exact x_iret hx hb hr hlocks hK hP hS h dX11_piece_80
    rw [if_neg c6] at h
    by_cases c7 : v2 = 1
    · rw [if_pos c7] at h
      refine lv_tableIn (off := 56) (tgt := 81) hx hb dX11_piece_25 (by rw [c7]; decide) (by rw [c7]; decide) (by rw [c7]; rfl) (by decide) ?_
      refine lv_aload_n hx hb dX11_piece_81 rfl (lv_at hl 0 rfl) ?_
      refine ge_9_1 hx hb hts (inU inW_X9) hown hK hP (ke_18 k_35 (ix_lt g5)) (hts _ (List.mem_cons_of_mem _ lw_379)) dX11_piece_82 ?_
      exact x_iret hx hb hr hlocks hK hP hS h dX11_piece_85
    rw [if_neg c7] at h
    by_cases c8 : v2 = 2
    · rw [if_pos c8] at h
      refine lv_tableIn (off := 61) (tgt := 86) hx hb dX11_piece_25 (by rw [c8]; decide) (by rw [c8]; decide) (by rw [c8]; rfl) (by decide) ?_
      refine lv_aload_n hx hb dX11_piece_86 rfl (lv_at hl 0 rfl) ?_
      refine ge_9_2 hx hb hts (inU inW_X9) hown hK hP (ke_18 k_35 (ix_lt g5)) (hts _ (List.mem_cons_of_mem _ lw_382)) dX11_piece_87 ?_
      exact x_iret hx hb hr hlocks hK hP hS h dX11_piece_90
    rw [if_neg c8] at h
    by_cases c9 : v2 = 3
    · rw [if_pos c9] at h
      refine lv_tableIn (off := 66) (tgt := 91) hx hb dX11_piece_25 (by rw [c9]; decide) (by rw [c9]; decide) (by rw [c9]; rfl) (by decide) ?_
      refine lv_aload_n hx hb dX11_piece_91 rfl (lv_at hl 0 rfl) ?_
      refine ge_9_3 hx hb hts (inU inW_X9) hown hK hP (ke_18 k_35 (ix_lt g5)) (hts _ (List.mem_cons_of_mem _ lw_385)) dX11_piece_92 ?_
      exact x_iret hx hb hr hlocks hK hP hS h dX11_piece_95
    rw [if_neg c9] at h
    by_cases c10 : v2 = 4
    · rw [if_pos c10] at h
      refine lv_tableIn (off := 71) (tgt := 96) hx hb dX11_piece_25 (by rw [c10]; decide) (by rw [c10]; decide) (by rw [c10]; rfl) (by decide) ?_
      refine lv_aload_n hx hb dX11_piece_96 rfl (lv_at hl 0 rfl) ?_
      refine ge_9_4 hx hb hts (inU inW_X9) hown hK hP (ke_18 k_35 (ix_lt g5)) (hts _ (List.mem_cons_of_mem _ lw_388)) dX11_piece_97 ?_
      exact x_iret hx hb hr hlocks hK hP hS h dX11_piece_100
    rw [if_neg c10] at h
    by_cases c11 : v2 = 5
    · rw [if_pos c11] at h
      refine lv_tableIn (off := 76) (tgt := 101) hx hb dX11_piece_25 (by rw [c11]; decide) (by rw [c11]; decide) (by rw [c11]; rfl) (by decide) ?_
      refine lv_aload_n hx hb dX11_piece_101 rfl (lv_at hl 1 rfl) ?_
      refine ge_11_2 hx hb hts (inU inW_X11) hown hK hP k_0 (hts _ (List.mem_cons_of_mem _ lw_705)) dX11_piece_102 ?_
      refine lv_aload_n hx hb dX11_piece_105 rfl (lv_at hl 0 rfl) ?_
      obtain ⟨r13, z14, h12, h⟩ := bd_s h
      refine x_Vi (Rz := (r13, z14)) (As := [.ref (G.2.2 (35 + 1 + (Int32.toNatClampNeg v1)))]) (rest := []) ⟨hx, hb, hml, hown, hts⟩ hK hP hS (kd_lt k_2 (by decide)) (cell_7 k_2) rfl (m_X7_areaOf hG  k_2 (ke_18 k_35 (ix_lt g5)) h12) (cwV 1 hts (gV lw_946 lw_947 lw_948 lw_110 lw_949) rfl rfl rfl (by decide +kernel) (rmd_ok (by decide) (by decide))) rfl hl.1 rfl (Nat.le_of_ble_eq_true rfl) dX11_piece_106 ⟨Nat.le_refl _, Nat.le_refl _⟩ (fun H locs hP hS => ?_)
      exact x_iret hx hb hr hlocks hK hP hS h dX11_piece_109
    rw [if_neg c11] at h
    by_cases c15 : v2 = 6
    · rw [if_pos c15] at h
      refine lv_tableIn (off := 85) (tgt := 110) hx hb dX11_piece_25 (by rw [c15]; decide) (by rw [c15]; decide) (by rw [c15]; rfl) (by decide) ?_
      refine lv_aload_n hx hb dX11_piece_110 rfl (lv_at hl 1 rfl) ?_
      refine ge_11_2 hx hb hts (inU inW_X11) hown hK hP k_0 (hts _ (List.mem_cons_of_mem _ lw_705)) dX11_piece_111 ?_
      refine lv_aload_n hx hb dX11_piece_114 rfl (lv_at hl 0 rfl) ?_
      obtain ⟨r17, z18, h16, h⟩ := bd_s h
      refine x_Vi (Rz := (r17, z18)) (As := [.ref (G.2.2 (35 + 1 + (Int32.toNatClampNeg v1)))]) (rest := []) ⟨hx, hb, hml, hown, hts⟩ hK hP hS (kd_lt k_2 (by decide)) (cell_7 k_2) rfl (m_X7_icingOf hG  k_2 (ke_18 k_35 (ix_lt g5)) h16) (cwV 1 hts (gV lw_954 lw_955 lw_956 lw_110 lw_957) rfl rfl rfl (by decide +kernel) (rmd_ok (by decide) (by decide))) rfl hl.1 rfl (Nat.le_of_ble_eq_true rfl) dX11_piece_115 ⟨Nat.le_refl _, Nat.le_refl _⟩ (fun H locs hP hS => ?_)
      exact x_iret hx hb hr hlocks hK hP hS h dX11_piece_118
    rw [if_neg c15] at h
    by_cases c19 : v2 = 7
    · rw [if_pos c19] at h
      refine lv_tableIn (off := 94) (tgt := 119) hx hb dX11_piece_25 (by rw [c19]; decide) (by rw [c19]; decide) (by rw [c19]; rfl) (by decide) ?_
      refine lv_aload_n hx hb dX11_piece_119 rfl (lv_at hl 0 rfl) ?_
      refine ge_9_5 hx hb hts (inU inW_X9) hown hK hP (ke_18 k_35 (ix_lt g5)) (hts _ (List.mem_cons_of_mem _ lw_392)) dX11_piece_120 ?_
      refine lv_if_eq (tgt := 130) hx hb dX11_piece_123 (by decide) (fun c20 => ?_) (fun c20 => ?_)
      · rw [if_pos c20] at h
        refine lv_iconst (v := 0) hx hb dX11_piece_130 (by decide) ?_
        exact x_iret hx hb hr hlocks hK hP hS h dX11_piece_131
      · rw [if_neg c20] at h
        refine lv_iconst (v := 1) hx hb dX11_piece_126 (by decide) ?_
        refine lv_goto (tgt := 131) hx hb dX11_piece_127 (by decide) ?_
        exact x_iret hx hb hr hlocks hK hP hS h dX11_piece_131
    rw [if_neg c19] at h
    by_cases c21 : v2 = 8
    · rw [if_pos c21] at h
      refine lv_tableIn (off := 107) (tgt := 132) hx hb dX11_piece_25 (by rw [c21]; decide) (by rw [c21]; decide) (by rw [c21]; rfl) (by decide) ?_
      refine lv_aload_n hx hb dX11_piece_132 rfl (lv_at hl 0 rfl) ?_
      refine ge_9_6 hx hb hts (inU inW_X9) hown hK hP (ke_18 k_35 (ix_lt g5)) (hts _ (List.mem_cons_of_mem _ lw_396)) dX11_piece_133 ?_
      exact x_iret hx hb hr hlocks hK hP hS h dX11_piece_136
    rw [if_neg c21] at h
    have n22 : (v2 : Int32).toInt < 0 ∨ 8 < (v2 : Int32).toInt := by
      have c6_n := lv_neT (a := 0) c6 (by decide)
      have c7_n := lv_neT (a := 1) c7 (by decide)
      have c8_n := lv_neT (a := 2) c8 (by decide)
      have c9_n := lv_neT (a := 3) c9 (by decide)
      have c10_n := lv_neT (a := 4) c10 (by decide)
      have c11_n := lv_neT (a := 5) c11 (by decide)
      have c15_n := lv_neT (a := 6) c15 (by decide)
      have c19_n := lv_neT (a := 7) c19 (by decide)
      have c21_n := lv_neT (a := 8) c21 (by decide)
      omega
    refine lv_tableOut (tgt := 137) hx hb dX11_piece_25 n22 (by decide) ?_
    refine lv_bipush (v := (-2)) hx hb dX11_piece_137 (by decide) ?_
    exact x_iret hx hb hr hlocks hK hP hS h dX11_piece_139
  · rw [if_pos c4] at h
    refine lv_bipush (v := (-2)) hx hb dX11_piece_11 (by decide) ?_
    exact x_iret hx hb hr hlocks hK hP hS h dX11_piece_13
def fn_X11_guest (v1 : Int32) (v2 : Int32) (z : St) : Option (Int32 × St) := bd (fn_X7_isGuest  2 v1 z) (fun r2 z3 => (if r2 = 0 then some ((-2), z3) else (if v2 = 0 then gd (ix v1 6) (some ((z3.1 8 (Int32.toNatClampNeg v1)), z3)) else (if v2 = 1 then gd (ix v1 6) (some ((z3.1 9 (Int32.toNatClampNeg v1)), z3)) else (if v2 = 2 then gd (ix v1 6) (some ((z3.1 10 (Int32.toNatClampNeg v1)), z3)) else (if v2 = 3 then gd (ix v1 6) (some ((z3.1 60 (Int32.toNatClampNeg v1)), z3)) else (if v2 = 4 then gd (ix v1 6) (bd (fn_X10_ofPiece  v1 (z3.1 60 (Int32.toNatClampNeg v1)) 0 z3) (fun r16 z17 => some (r16, z17))) else (some ((-2), z3)))))))))
set_option maxHeartbeats 4000000 in
set_option maxRecDepth 100000 in
theorem m_X11_guest {l : Launch} {G : wG} (hG : Ok G) {v1 : Int32} {v2 : Int32} {z : St} {Rz : Int32 × St}  (h : fn_X11_guest  v1 v2 z = some Rz) : Met l yX11_guest (wsU yX11_guest cX11_guest 3 (some .int)) (rmd 6) (va_Pc [.ref (G.2.2 0), .int v1, .int v2] (Pre G z)) (va_Qi (fun r u => (r, u) = Rz) (Pre G) (AW G)) 0 0 (AW G) := by
  refine Met.ofW (cc := cX11_guest) (maxL := 3) (ret := (some .int)) (by decide) rfl ?_
  intro p e s m args below meth c s₁ B hml hv
  obtain ⟨rfl, hP, hK⟩ := hv
  have C : CX p s m ([.ref (G.2.2 0), .int v1, .int v2] : List Value).toArray meth c cX11_guest 3 (wsU yX11_guest cX11_guest 3 (some .int)) RX11 (some .int) G := ⟨B.exec, B.bytes, hml, findClass_of_methodNamed B.named, atoms_spec (ws := (wsU yX11_guest cX11_guest 3 (some .int))) B.pre, B.returns, B.notSynchronized, hK, hG⟩
  obtain ⟨hx, hb, -, hown, hts, hr, hlocks, -, -⟩ := id C
  have hS : va_S (AW G) s.heap s.heap [] := va_S.rf
  have hl := lv_entry [.ref (G.2.2 0), .int v1, .int v2] (n := 3) (Nat.le_of_ble_eq_true rfl)
  rw [lg_entry_eq]
  generalize (lg_sl [.ref (G.2.2 0), .int v1, .int v2] ++ List.replicate (3 - (lg_sl [.ref (G.2.2 0), .int v1, .int v2]).length) Slot.unset).toArray = ls at hl ⊢
  have hl : lv_has ls 3 [(0, .ref (G.2.2 0)), (1, .int v1), (2, .int v2)] := hl
  unfold fn_X11_guest at h
  refine lv_aload_n hx hb dX11_guest_0 rfl (lv_at hl 0 rfl) ?_
  refine ge_11_2 hx hb hts (inU inW_X11) hown hK hP k_0 (hts _ (List.mem_cons_of_mem _ lw_705)) dX11_guest_1 ?_
  refine lv_iload_n hx hb dX11_guest_4 rfl (lv_at hl 1 rfl) ?_
  obtain ⟨r2, z3, h1, h⟩ := bd_s h
  refine x_Vi (Rz := (r2, z3)) (As := [.int v1]) (rest := []) ⟨hx, hb, hml, hown, hts⟩ hK hP hS (kd_lt k_2 (by decide)) (cell_7 k_2) rfl (m_X7_isGuest hG  k_2 h1) (cwV 1 hts (gV lw_962 lw_963 lw_964 lw_110 lw_965) rfl rfl rfl (by decide +kernel) (rmd_ok (by decide) (by decide))) rfl hl.1 rfl (Nat.le_of_ble_eq_true rfl) dX11_guest_5 ⟨Nat.le_refl _, Nat.le_refl _⟩ (fun H locs hP hS => ?_)
  refine lv_if_ne (tgt := 14) hx hb dX11_guest_8 (by decide) (fun c4 => ?_) (fun c4 => ?_)
  · rw [if_neg c4] at h
    refine lv_iload_n hx hb dX11_guest_14 rfl (lv_at hl 2 rfl) ?_
    by_cases c5 : v2 = 0
    · rw [if_pos c5] at h
      refine lv_tableIn (off := 33) (tgt := 48) hx hb dX11_guest_15 (by rw [c5]; decide) (by rw [c5]; decide) (by rw [c5]; rfl) (by decide) ?_
      refine lv_aload_n hx hb dX11_guest_48 rfl (lv_at hl 0 rfl) ?_
      refine ge_11_2 hx hb hts (inU inW_X11) hown hK hP k_0 (hts _ (List.mem_cons_of_mem _ lw_705)) dX11_guest_49 ?_
      refine ge_7_7 hx hb hts (inU inW_X7) hown hK hP k_2 (hts _ (List.mem_cons_of_mem _ lw_204)) dX11_guest_52 ?_
      refine lv_iload_n hx hb dX11_guest_55 rfl (lv_at hl 1 rfl) ?_
      obtain ⟨g6, h⟩ := gd_s h
      refine xl_14 hx hb hK hP k_8 l_8 (ix_in g6) dX11_guest_56 ?_
      exact x_iret hx hb hr hlocks hK hP hS h dX11_guest_57
    rw [if_neg c5] at h
    by_cases c7 : v2 = 1
    · rw [if_pos c7] at h
      refine lv_tableIn (off := 43) (tgt := 58) hx hb dX11_guest_15 (by rw [c7]; decide) (by rw [c7]; decide) (by rw [c7]; rfl) (by decide) ?_
      refine lv_aload_n hx hb dX11_guest_58 rfl (lv_at hl 0 rfl) ?_
      refine ge_11_2 hx hb hts (inU inW_X11) hown hK hP k_0 (hts _ (List.mem_cons_of_mem _ lw_705)) dX11_guest_59 ?_
      refine ge_7_8 hx hb hts (inU inW_X7) hown hK hP k_2 (hts _ (List.mem_cons_of_mem _ lw_207)) dX11_guest_62 ?_
      refine lv_iload_n hx hb dX11_guest_65 rfl (lv_at hl 1 rfl) ?_
      obtain ⟨g8, h⟩ := gd_s h
      refine xl_14 hx hb hK hP k_9 l_9 (ix_in g8) dX11_guest_66 ?_
      exact x_iret hx hb hr hlocks hK hP hS h dX11_guest_67
    rw [if_neg c7] at h
    by_cases c9 : v2 = 2
    · rw [if_pos c9] at h
      refine lv_tableIn (off := 53) (tgt := 68) hx hb dX11_guest_15 (by rw [c9]; decide) (by rw [c9]; decide) (by rw [c9]; rfl) (by decide) ?_
      refine lv_aload_n hx hb dX11_guest_68 rfl (lv_at hl 0 rfl) ?_
      refine ge_11_2 hx hb hts (inU inW_X11) hown hK hP k_0 (hts _ (List.mem_cons_of_mem _ lw_705)) dX11_guest_69 ?_
      refine ge_7_9 hx hb hts (inU inW_X7) hown hK hP k_2 (hts _ (List.mem_cons_of_mem _ lw_209)) dX11_guest_72 ?_
      refine lv_iload_n hx hb dX11_guest_75 rfl (lv_at hl 1 rfl) ?_
      obtain ⟨g10, h⟩ := gd_s h
      refine xl_14 hx hb hK hP k_10 l_10 (ix_in g10) dX11_guest_76 ?_
      exact x_iret hx hb hr hlocks hK hP hS h dX11_guest_77
    rw [if_neg c9] at h
    by_cases c11 : v2 = 3
    · rw [if_pos c11] at h
      refine lv_tableIn (off := 63) (tgt := 78) hx hb dX11_guest_15 (by rw [c11]; decide) (by rw [c11]; decide) (by rw [c11]; rfl) (by decide) ?_
      refine lv_aload_n hx hb dX11_guest_78 rfl (lv_at hl 0 rfl) ?_
      refine ge_11_5 hx hb hts (inU inW_X11) hown hK hP k_0 (hts _ (List.mem_cons_of_mem _ lw_708)) dX11_guest_79 ?_
      refine ge_1_1 hx hb hts (inU inW_X1) hown hK hP k_34 (hts _ (List.mem_cons_of_mem _ lw_421)) dX11_guest_82 ?_
      refine lv_iload_n hx hb dX11_guest_85 rfl (lv_at hl 1 rfl) ?_
      obtain ⟨g12, h⟩ := gd_s h
      refine xl_14 hx hb hK hP k_60 l_60 (ix_in g12) dX11_guest_86 ?_
      exact x_iret hx hb hr hlocks hK hP hS h dX11_guest_87
    rw [if_neg c11] at h
    by_cases c13 : v2 = 4
    · rw [if_pos c13] at h
      refine lv_tableIn (off := 73) (tgt := 88) hx hb dX11_guest_15 (by rw [c13]; decide) (by rw [c13]; decide) (by rw [c13]; rfl) (by decide) ?_
      refine lv_aload_n hx hb dX11_guest_88 rfl (lv_at hl 0 rfl) ?_
      refine ge_11_7 hx hb hts (inU inW_X11) hown hK hP k_0 (hts _ (List.mem_cons_of_mem _ lw_710)) dX11_guest_89 ?_
      refine lv_iload_n hx hb dX11_guest_92 rfl (lv_at hl 1 rfl) ?_
      refine lv_aload_n hx hb dX11_guest_93 rfl (lv_at hl 0 rfl) ?_
      refine ge_11_5 hx hb hts (inU inW_X11) hown hK hP k_0 (hts _ (List.mem_cons_of_mem _ lw_708)) dX11_guest_94 ?_
      refine ge_1_1 hx hb hts (inU inW_X1) hown hK hP k_34 (hts _ (List.mem_cons_of_mem _ lw_421)) dX11_guest_97 ?_
      refine lv_iload_n hx hb dX11_guest_100 rfl (lv_at hl 1 rfl) ?_
      obtain ⟨g14, h⟩ := gd_s h
      refine xl_14 hx hb hK hP k_60 l_60 (ix_in g14) dX11_guest_101 ?_
      refine lv_iconst (v := 0) hx hb dX11_guest_102 (by decide) ?_
      obtain ⟨r16, z17, h15, h⟩ := bd_s h
      refine x_Vi (Rz := (r16, z17)) (As := [.int v1, .int (z3.1 60 (Int32.toNatClampNeg v1)), .int 0]) (rest := []) ⟨hx, hb, hml, hown, hts⟩ hK hP hS (kd_lt k_143 (by decide)) (cell_10 k_143) rfl (m_X10_ofPiece hG   h15) (cwV 3 hts (gV lw_966 lw_967 lw_968 lw_119 lw_969) rfl rfl rfl (by decide +kernel) (rmd_ok (by decide) (by decide))) rfl hl.1 rfl (Nat.le_of_ble_eq_true rfl) dX11_guest_103 ⟨Nat.le_refl _, Nat.le_refl _⟩ (fun H locs hP hS => ?_)
      exact x_iret hx hb hr hlocks hK hP hS h dX11_guest_106
    rw [if_neg c13] at h
    have n18 : (v2 : Int32).toInt < 0 ∨ 4 < (v2 : Int32).toInt := by
      have c5_n := lv_neT (a := 0) c5 (by decide)
      have c7_n := lv_neT (a := 1) c7 (by decide)
      have c9_n := lv_neT (a := 2) c9 (by decide)
      have c11_n := lv_neT (a := 3) c11 (by decide)
      have c13_n := lv_neT (a := 4) c13 (by decide)
      omega
    refine lv_tableOut (tgt := 107) hx hb dX11_guest_15 n18 (by decide) ?_
    refine lv_bipush (v := (-2)) hx hb dX11_guest_107 (by decide) ?_
    exact x_iret hx hb hr hlocks hK hP hS h dX11_guest_109
  · rw [if_pos c4] at h
    refine lv_bipush (v := (-2)) hx hb dX11_guest_11 (by decide) ?_
    exact x_iret hx hb hr hlocks hK hP hS h dX11_guest_13
def fn_X11_worth (v1 : Int32) (v2 : Int32) (z : St) : Option (Int32 × St) := bd (fn_X7_isGuest  2 v1 z) (fun r2 z3 => (if r2 = 0 then some ((-1000000000), z3) else bd (fn_X10_ofPiece  v1 v2 (-1000000000) z3) (fun r6 z7 => some (r6, z7))))
set_option maxHeartbeats 4000000 in
set_option maxRecDepth 100000 in
theorem m_X11_worth {l : Launch} {G : wG} (hG : Ok G) {v1 : Int32} {v2 : Int32} {z : St} {Rz : Int32 × St}  (h : fn_X11_worth  v1 v2 z = some Rz) : Met l yX11_worth (wsU yX11_worth cX11_worth 3 (some .int)) (rmd 6) (va_Pc [.ref (G.2.2 0), .int v1, .int v2] (Pre G z)) (va_Qi (fun r u => (r, u) = Rz) (Pre G) (AW G)) 0 0 (AW G) := by
  refine Met.ofW (cc := cX11_worth) (maxL := 3) (ret := (some .int)) (by decide) rfl ?_
  intro p e s m args below meth c s₁ B hml hv
  obtain ⟨rfl, hP, hK⟩ := hv
  have C : CX p s m ([.ref (G.2.2 0), .int v1, .int v2] : List Value).toArray meth c cX11_worth 3 (wsU yX11_worth cX11_worth 3 (some .int)) RX11 (some .int) G := ⟨B.exec, B.bytes, hml, findClass_of_methodNamed B.named, atoms_spec (ws := (wsU yX11_worth cX11_worth 3 (some .int))) B.pre, B.returns, B.notSynchronized, hK, hG⟩
  obtain ⟨hx, hb, -, hown, hts, hr, hlocks, -, -⟩ := id C
  have hS : va_S (AW G) s.heap s.heap [] := va_S.rf
  have hl := lv_entry [.ref (G.2.2 0), .int v1, .int v2] (n := 3) (Nat.le_of_ble_eq_true rfl)
  rw [lg_entry_eq]
  generalize (lg_sl [.ref (G.2.2 0), .int v1, .int v2] ++ List.replicate (3 - (lg_sl [.ref (G.2.2 0), .int v1, .int v2]).length) Slot.unset).toArray = ls at hl ⊢
  have hl : lv_has ls 3 [(0, .ref (G.2.2 0)), (1, .int v1), (2, .int v2)] := hl
  unfold fn_X11_worth at h
  refine lv_aload_n hx hb dX11_worth_0 rfl (lv_at hl 0 rfl) ?_
  refine ge_11_2 hx hb hts (inU inW_X11) hown hK hP k_0 (hts _ (List.mem_cons_of_mem _ lw_705)) dX11_worth_1 ?_
  refine lv_iload_n hx hb dX11_worth_4 rfl (lv_at hl 1 rfl) ?_
  obtain ⟨r2, z3, h1, h⟩ := bd_s h
  refine x_Vi (Rz := (r2, z3)) (As := [.int v1]) (rest := []) ⟨hx, hb, hml, hown, hts⟩ hK hP hS (kd_lt k_2 (by decide)) (cell_7 k_2) rfl (m_X7_isGuest hG  k_2 h1) (cwV 1 hts (gV lw_962 lw_963 lw_964 lw_110 lw_965) rfl rfl rfl (by decide +kernel) (rmd_ok (by decide) (by decide))) rfl hl.1 rfl (Nat.le_of_ble_eq_true rfl) dX11_worth_5 ⟨Nat.le_refl _, Nat.le_refl _⟩ (fun H locs hP hS => ?_)
  refine lv_if_ne (tgt := 14) hx hb dX11_worth_8 (by decide) (fun c4 => ?_) (fun c4 => ?_)
  · rw [if_neg c4] at h
    refine lv_aload_n hx hb dX11_worth_14 rfl (lv_at hl 0 rfl) ?_
    refine ge_11_7 hx hb hts (inU inW_X11) hown hK hP k_0 (hts _ (List.mem_cons_of_mem _ lw_710)) dX11_worth_15 ?_
    refine lv_iload_n hx hb dX11_worth_18 rfl (lv_at hl 1 rfl) ?_
    refine lv_iload_n hx hb dX11_worth_19 rfl (lv_at hl 2 rfl) ?_
    refine lv_ldc (v := (-1000000000)) hx hb hown (hts _ (List.mem_cons_of_mem _ lw_996)) dX11_worth_20 ?_
    obtain ⟨r6, z7, h5, h⟩ := bd_s h
    refine x_Vi (Rz := (r6, z7)) (As := [.int v1, .int v2, .int (-1000000000)]) (rest := []) ⟨hx, hb, hml, hown, hts⟩ hK hP hS (kd_lt k_143 (by decide)) (cell_10 k_143) rfl (m_X10_ofPiece hG   h5) (cwV 3 hts (gV lw_966 lw_967 lw_968 lw_119 lw_969) rfl rfl rfl (by decide +kernel) (rmd_ok (by decide) (by decide))) rfl hl.1 rfl (Nat.le_of_ble_eq_true rfl) dX11_worth_22 ⟨Nat.le_refl _, Nat.le_refl _⟩ (fun H locs hP hS => ?_)
    exact x_iret hx hb hr hlocks hK hP hS h dX11_worth_25
  · rw [if_pos c4] at h
    refine lv_ldc (v := (-1000000000)) hx hb hown (hts _ (List.mem_cons_of_mem _ lw_996)) dX11_worth_11 ?_
    exact x_iret hx hb hr hlocks hK hP hS h dX11_worth_13
def fn_X11_slip (v1 : Int32) (v2 : Int32) (v3 : Int32) (z : St) : Option (Int32 × St) := bd (fn_X1_canSplit  34 v1 v2 v3 z) (fun r2 z3 => (if r2 = 0 then some ((-1), z3) else bd (fn_X10_slipOf  v1 v2 z3) (fun r6 z7 => some ((if 0 < (if r6 < 100 then r6 else 100) then (if r6 < 100 then r6 else 100) else 0), z7))))
set_option maxHeartbeats 4000000 in
set_option maxRecDepth 100000 in
theorem m_X11_slip {l : Launch} {G : wG} (hG : Ok G) {v1 : Int32} {v2 : Int32} {v3 : Int32} {z : St} {Rz : Int32 × St}  (h : fn_X11_slip  v1 v2 v3 z = some Rz) : Met l yX11_slip (wsU yX11_slip cX11_slip 4 (some .int)) (rmd 5) (va_Pc [.ref (G.2.2 0), .int v1, .int v2, .int v3] (Pre G z)) (va_Qi (fun r u => (r, u) = Rz) (Pre G) (AW G)) 0 0 (AW G) := by
  refine Met.ofW (cc := cX11_slip) (maxL := 4) (ret := (some .int)) (by decide) rfl ?_
  intro p e s m args below meth c s₁ B hml hv
  obtain ⟨rfl, hP, hK⟩ := hv
  have C : CX p s m ([.ref (G.2.2 0), .int v1, .int v2, .int v3] : List Value).toArray meth c cX11_slip 4 (wsU yX11_slip cX11_slip 4 (some .int)) RX11 (some .int) G := ⟨B.exec, B.bytes, hml, findClass_of_methodNamed B.named, atoms_spec (ws := (wsU yX11_slip cX11_slip 4 (some .int))) B.pre, B.returns, B.notSynchronized, hK, hG⟩
  obtain ⟨hx, hb, -, hown, hts, hr, hlocks, -, -⟩ := id C
  have hS : va_S (AW G) s.heap s.heap [] := va_S.rf
  have hl := lv_entry [.ref (G.2.2 0), .int v1, .int v2, .int v3] (n := 4) (Nat.le_of_ble_eq_true rfl)
  rw [lg_entry_eq]
  generalize (lg_sl [.ref (G.2.2 0), .int v1, .int v2, .int v3] ++ List.replicate (4 - (lg_sl [.ref (G.2.2 0), .int v1, .int v2, .int v3]).length) Slot.unset).toArray = ls at hl ⊢
  have hl : lv_has ls 4 [(0, .ref (G.2.2 0)), (1, .int v1), (2, .int v2), (3, .int v3)] := hl
  unfold fn_X11_slip at h
  refine lv_aload_n hx hb dX11_slip_0 rfl (lv_at hl 0 rfl) ?_
  refine ge_11_5 hx hb hts (inU inW_X11) hown hK hP k_0 (hts _ (List.mem_cons_of_mem _ lw_708)) dX11_slip_1 ?_
  refine lv_iload_n hx hb dX11_slip_4 rfl (lv_at hl 1 rfl) ?_
  refine lv_iload_n hx hb dX11_slip_5 rfl (lv_at hl 2 rfl) ?_
  refine lv_iload_n hx hb dX11_slip_6 rfl (lv_at hl 3 rfl) ?_
  obtain ⟨r2, z3, h1, h⟩ := bd_s h
  refine x_Vi (Rz := (r2, z3)) (As := [.int v1, .int v2, .int v3]) (rest := []) ⟨hx, hb, hml, hown, hts⟩ hK hP hS (kd_lt k_34 (by decide)) (cell_1 k_34) rfl (m_X1_canSplit hG  k_34 h1) (cwV 3 hts (gV lw_1001 lw_1002 lw_1003 lw_117 lw_1004) rfl rfl rfl (by decide +kernel) (rmd_ok (by decide) (by decide))) rfl hl.1 rfl (Nat.le_of_ble_eq_true rfl) dX11_slip_7 ⟨Nat.le_refl _, Nat.le_refl _⟩ (fun H locs hP hS => ?_)
  refine lv_if_ne (tgt := 15) hx hb dX11_slip_10 (by decide) (fun c4 => ?_) (fun c4 => ?_)
  · rw [if_neg c4] at h
    refine lv_iconst (v := 0) hx hb dX11_slip_15 (by decide) ?_
    refine lv_bipush (v := 100) hx hb dX11_slip_16 (by decide) ?_
    refine lv_aload_n hx hb dX11_slip_18 rfl (lv_at hl 0 rfl) ?_
    refine ge_11_7 hx hb hts (inU inW_X11) hown hK hP k_0 (hts _ (List.mem_cons_of_mem _ lw_710)) dX11_slip_19 ?_
    refine lv_iload_n hx hb dX11_slip_22 rfl (lv_at hl 1 rfl) ?_
    refine lv_iload_n hx hb dX11_slip_23 rfl (lv_at hl 2 rfl) ?_
    obtain ⟨r6, z7, h5, h⟩ := bd_s h
    refine x_Vi (Rz := (r6, z7)) (As := [.int v1, .int v2]) (rest := [.int 100, .int 0]) ⟨hx, hb, hml, hown, hts⟩ hK hP hS (kd_lt k_143 (by decide)) (cell_10 k_143) rfl (m_X10_slipOf hG   h5) (cwV 2 hts (gV lw_1018 lw_1019 lw_1020 lw_119 lw_1021) rfl rfl rfl (by decide +kernel) (rmd_ok (by decide) (by decide))) rfl hl.1 rfl (Nat.le_of_ble_eq_true rfl) dX11_slip_24 ⟨Nat.le_refl _, Nat.le_refl _⟩ (fun H locs hP hS => ?_)
    refine va_mmin hx hb (by rw [hml]; exact hl.1.symm) hown (hts _ (List.mem_cons_of_mem _ lw_1026)) (hts _ (List.mem_cons_of_mem _ lw_770)) (hts _ (List.mem_cons_of_mem _ lw_126)) (hts _ (List.mem_cons_of_mem _ lw_771)) (rmd_f (by decide)) (rmd_l (by decide) (Nat.le_of_ble_eq_true rfl)) (Nat.le_refl _) (Nat.le_refl _) dX11_slip_27 ?_
    refine va_mmax hx hb (by rw [hml]; exact hl.1.symm) hown (hts _ (List.mem_cons_of_mem _ lw_1027)) (hts _ (List.mem_cons_of_mem _ lw_1028)) (hts _ (List.mem_cons_of_mem _ lw_126)) (hts _ (List.mem_cons_of_mem _ lw_1029)) (rmd_f (by decide)) (rmd_l (by decide) (Nat.le_of_ble_eq_true rfl)) (Nat.le_refl _) (Nat.le_refl _) dX11_slip_30 ?_
    exact x_iret hx hb hr hlocks hK hP hS h dX11_slip_33
  · rw [if_pos c4] at h
    refine lv_iconst (v := (-1)) hx hb dX11_slip_13 (by decide) ?_
    exact x_iret hx hb hr hlocks hK hP hS h dX11_slip_14
def fn_X11_cut (v1 : Int32) (v2 : Int32) (v3 : Int32) (z : St) : Option (Int32 × St) := bd (fn_X1_canSplit  34 v1 v2 v3 z) (fun r2 z3 => (if r2 = 0 then some ((-1), z3) else bv (fn_X0_perform  0 v1 v2 v3 z3) (fun z6 => some (((z6.1 34 2) - 1), z6))))
set_option maxHeartbeats 4000000 in
set_option maxRecDepth 100000 in
theorem m_X11_cut {l : Launch} {G : wG} (hG : Ok G) {v1 : Int32} {v2 : Int32} {v3 : Int32} {z : St} {Rz : Int32 × St}  (h : fn_X11_cut  v1 v2 v3 z = some Rz) : Met l yX11_cut (wsU yX11_cut cX11_cut 4 (some .int)) (rmd 8) (va_Pc [.ref (G.2.2 0), .int v1, .int v2, .int v3] (Pre G z)) (va_Qi (fun r u => (r, u) = Rz) (Pre G) (AW G)) 0 0 (AW G) := by
  refine Met.ofW (cc := cX11_cut) (maxL := 4) (ret := (some .int)) (by decide) rfl ?_
  intro p e s m args below meth c s₁ B hml hv
  obtain ⟨rfl, hP, hK⟩ := hv
  have C : CX p s m ([.ref (G.2.2 0), .int v1, .int v2, .int v3] : List Value).toArray meth c cX11_cut 4 (wsU yX11_cut cX11_cut 4 (some .int)) RX11 (some .int) G := ⟨B.exec, B.bytes, hml, findClass_of_methodNamed B.named, atoms_spec (ws := (wsU yX11_cut cX11_cut 4 (some .int))) B.pre, B.returns, B.notSynchronized, hK, hG⟩
  obtain ⟨hx, hb, -, hown, hts, hr, hlocks, -, -⟩ := id C
  have hS : va_S (AW G) s.heap s.heap [] := va_S.rf
  have hl := lv_entry [.ref (G.2.2 0), .int v1, .int v2, .int v3] (n := 4) (Nat.le_of_ble_eq_true rfl)
  rw [lg_entry_eq]
  generalize (lg_sl [.ref (G.2.2 0), .int v1, .int v2, .int v3] ++ List.replicate (4 - (lg_sl [.ref (G.2.2 0), .int v1, .int v2, .int v3]).length) Slot.unset).toArray = ls at hl ⊢
  have hl : lv_has ls 4 [(0, .ref (G.2.2 0)), (1, .int v1), (2, .int v2), (3, .int v3)] := hl
  unfold fn_X11_cut at h
  refine lv_aload_n hx hb dX11_cut_0 rfl (lv_at hl 0 rfl) ?_
  refine ge_11_5 hx hb hts (inU inW_X11) hown hK hP k_0 (hts _ (List.mem_cons_of_mem _ lw_708)) dX11_cut_1 ?_
  refine lv_iload_n hx hb dX11_cut_4 rfl (lv_at hl 1 rfl) ?_
  refine lv_iload_n hx hb dX11_cut_5 rfl (lv_at hl 2 rfl) ?_
  refine lv_iload_n hx hb dX11_cut_6 rfl (lv_at hl 3 rfl) ?_
  obtain ⟨r2, z3, h1, h⟩ := bd_s h
  refine x_Vi (Rz := (r2, z3)) (As := [.int v1, .int v2, .int v3]) (rest := []) ⟨hx, hb, hml, hown, hts⟩ hK hP hS (kd_lt k_34 (by decide)) (cell_1 k_34) rfl (m_X1_canSplit hG  k_34 h1) (cwV 3 hts (gV lw_1001 lw_1002 lw_1003 lw_117 lw_1004) rfl rfl rfl (by decide +kernel) (rmd_ok (by decide) (by decide))) rfl hl.1 rfl (Nat.le_of_ble_eq_true rfl) dX11_cut_7 ⟨Nat.le_refl _, Nat.le_refl _⟩ (fun H locs hP hS => ?_)
  refine lv_if_ne (tgt := 15) hx hb dX11_cut_10 (by decide) (fun c4 => ?_) (fun c4 => ?_)
  · rw [if_neg c4] at h
    refine lv_aload_n hx hb dX11_cut_15 rfl (lv_at hl 0 rfl) ?_
    refine ge_11_8 hx hb hts (inU inW_X11) hown hK hP k_0 (hts _ (List.mem_cons_of_mem _ lw_711)) dX11_cut_16 ?_
    refine lv_iconst (v := 0) hx hb dX11_cut_19 (by decide) ?_
    refine lv_iload_n hx hb dX11_cut_20 rfl (lv_at hl 1 rfl) ?_
    refine lv_iload_n hx hb dX11_cut_21 rfl (lv_at hl 2 rfl) ?_
    refine lv_iload_n hx hb dX11_cut_22 rfl (lv_at hl 3 rfl) ?_
    obtain ⟨z6, h5, h⟩ := bv_s h
    refine x_Vv (Rz := z6) (As := [.int 0, .int v1, .int v2, .int v3]) (rest := []) ⟨hx, hb, hml, hown, hts⟩ hK hP hS (kd_lt k_146 (by decide)) (cell_0 k_146) rfl (m_X0_perform hG   h5) (cwV 4 hts (gV lw_1034 lw_1035 lw_1036 lw_120 lw_1037) rfl rfl rfl (by decide +kernel) (rmd_ok (by decide) (by decide))) rfl hl.1 rfl (Nat.le_of_ble_eq_true rfl) dX11_cut_23 ⟨Nat.le_refl _, Nat.le_refl _⟩ (fun H locs hP hS => ?_)
    refine lv_aload_n hx hb dX11_cut_26 rfl (lv_at hl 0 rfl) ?_
    refine ge_11_5 hx hb hts (inU inW_X11) hown hK hP k_0 (hts _ (List.mem_cons_of_mem _ lw_708)) dX11_cut_27 ?_
    refine ge_1_2 hx hb hts (inU inW_X1) hown hK hP k_34 (hts _ (List.mem_cons_of_mem _ lw_425)) dX11_cut_30 ?_
    refine lv_iconst (v := 1) hx hb dX11_cut_33 (by decide) ?_
    refine lv_isub hx hb dX11_cut_34 ?_
    exact x_iret hx hb hr hlocks hK hP hS h dX11_cut_35
  · rw [if_pos c4] at h
    refine lv_iconst (v := (-1)) hx hb dX11_cut_13 (by decide) ?_
    exact x_iret hx hb hr hlocks hK hP hS h dX11_cut_14
def fn_X11_give (v1 : Int32) (v2 : Int32) (z : St) : Option (Int32 × St) := bd (fn_X7_isGuest  2 v2 z) (fun r2 z3 => (if r2 = 0 then some ((-1), z3) else bd (fn_X1_isFree  34 v1 z3) (fun r6 z7 => (if r6 = 0 then some ((-1), z7) else gd (ix v2 6) ((if (z7.1 60 (Int32.toNatClampNeg v2)) = (-1) then bv (fn_X0_perform  1 v1 v2 0 z7) (fun z12 => bd (fn_X1_platesFilled  34 z12) (fun r14 z15 => some (r14, z15))) else some ((-1), z7)))))))
set_option maxHeartbeats 4000000 in
set_option maxRecDepth 100000 in
theorem m_X11_give {l : Launch} {G : wG} (hG : Ok G) {v1 : Int32} {v2 : Int32} {z : St} {Rz : Int32 × St}  (h : fn_X11_give  v1 v2 z = some Rz) : Met l yX11_give (wsU yX11_give cX11_give 3 (some .int)) (rmd 8) (va_Pc [.ref (G.2.2 0), .int v1, .int v2] (Pre G z)) (va_Qi (fun r u => (r, u) = Rz) (Pre G) (AW G)) 0 0 (AW G) := by
  refine Met.ofW (cc := cX11_give) (maxL := 3) (ret := (some .int)) (by decide) rfl ?_
  intro p e s m args below meth c s₁ B hml hv
  obtain ⟨rfl, hP, hK⟩ := hv
  have C : CX p s m ([.ref (G.2.2 0), .int v1, .int v2] : List Value).toArray meth c cX11_give 3 (wsU yX11_give cX11_give 3 (some .int)) RX11 (some .int) G := ⟨B.exec, B.bytes, hml, findClass_of_methodNamed B.named, atoms_spec (ws := (wsU yX11_give cX11_give 3 (some .int))) B.pre, B.returns, B.notSynchronized, hK, hG⟩
  obtain ⟨hx, hb, -, hown, hts, hr, hlocks, -, -⟩ := id C
  have hS : va_S (AW G) s.heap s.heap [] := va_S.rf
  have hl := lv_entry [.ref (G.2.2 0), .int v1, .int v2] (n := 3) (Nat.le_of_ble_eq_true rfl)
  rw [lg_entry_eq]
  generalize (lg_sl [.ref (G.2.2 0), .int v1, .int v2] ++ List.replicate (3 - (lg_sl [.ref (G.2.2 0), .int v1, .int v2]).length) Slot.unset).toArray = ls at hl ⊢
  have hl : lv_has ls 3 [(0, .ref (G.2.2 0)), (1, .int v1), (2, .int v2)] := hl
  unfold fn_X11_give at h
  refine lv_aload_n hx hb dX11_give_0 rfl (lv_at hl 0 rfl) ?_
  refine ge_11_2 hx hb hts (inU inW_X11) hown hK hP k_0 (hts _ (List.mem_cons_of_mem _ lw_705)) dX11_give_1 ?_
  refine lv_iload_n hx hb dX11_give_4 rfl (lv_at hl 2 rfl) ?_
  obtain ⟨r2, z3, h1, h⟩ := bd_s h
  refine x_Vi (Rz := (r2, z3)) (As := [.int v2]) (rest := []) ⟨hx, hb, hml, hown, hts⟩ hK hP hS (kd_lt k_2 (by decide)) (cell_7 k_2) rfl (m_X7_isGuest hG  k_2 h1) (cwV 1 hts (gV lw_962 lw_963 lw_964 lw_110 lw_965) rfl rfl rfl (by decide +kernel) (rmd_ok (by decide) (by decide))) rfl hl.1 rfl (Nat.le_of_ble_eq_true rfl) dX11_give_5 ⟨Nat.le_refl _, Nat.le_refl _⟩ (fun H locs hP hS => ?_)
  refine lv_if_eq (tgt := 35) hx hb dX11_give_8 (by decide) (fun c4 => ?_) (fun c4 => ?_)
  · rw [if_pos c4] at h
    refine lv_iconst (v := (-1)) hx hb dX11_give_35 (by decide) ?_
    exact x_iret hx hb hr hlocks hK hP hS h dX11_give_36
  · rw [if_neg c4] at h
    refine lv_aload_n hx hb dX11_give_11 rfl (lv_at hl 0 rfl) ?_
    refine ge_11_5 hx hb hts (inU inW_X11) hown hK hP k_0 (hts _ (List.mem_cons_of_mem _ lw_708)) dX11_give_12 ?_
    refine lv_iload_n hx hb dX11_give_15 rfl (lv_at hl 1 rfl) ?_
    obtain ⟨r6, z7, h5, h⟩ := bd_s h
    refine x_Vi (Rz := (r6, z7)) (As := [.int v1]) (rest := []) ⟨hx, hb, hml, hown, hts⟩ hK hP hS (kd_lt k_34 (by decide)) (cell_1 k_34) rfl (m_X1_isFree hG  k_34 h5) (cwV 1 hts (gV lw_1081 lw_1010 lw_1011 lw_117 lw_1012) rfl rfl rfl (by decide +kernel) (rmd_ok (by decide) (by decide))) rfl hl.1 rfl (Nat.le_of_ble_eq_true rfl) dX11_give_16 ⟨Nat.le_refl _, Nat.le_refl _⟩ (fun H locs hP hS => ?_)
    refine lv_if_eq (tgt := 35) hx hb dX11_give_19 (by decide) (fun c8 => ?_) (fun c8 => ?_)
    · rw [if_pos c8] at h
      refine lv_iconst (v := (-1)) hx hb dX11_give_35 (by decide) ?_
      exact x_iret hx hb hr hlocks hK hP hS h dX11_give_36
    · rw [if_neg c8] at h
      refine lv_aload_n hx hb dX11_give_22 rfl (lv_at hl 0 rfl) ?_
      refine ge_11_5 hx hb hts (inU inW_X11) hown hK hP k_0 (hts _ (List.mem_cons_of_mem _ lw_708)) dX11_give_23 ?_
      refine ge_1_1 hx hb hts (inU inW_X1) hown hK hP k_34 (hts _ (List.mem_cons_of_mem _ lw_421)) dX11_give_26 ?_
      refine lv_iload_n hx hb dX11_give_29 rfl (lv_at hl 2 rfl) ?_
      obtain ⟨g9, h⟩ := gd_s h
      refine xl_14 hx hb hK hP k_60 l_60 (ix_in g9) dX11_give_30 ?_
      refine lv_iconst (v := (-1)) hx hb dX11_give_31 (by decide) ?_
      refine lv_icmp_eq (tgt := 37) hx hb dX11_give_32 (by decide) (fun c10 => ?_) (fun c10 => ?_)
      · rw [if_pos c10] at h
        refine lv_aload_n hx hb dX11_give_37 rfl (lv_at hl 0 rfl) ?_
        refine ge_11_8 hx hb hts (inU inW_X11) hown hK hP k_0 (hts _ (List.mem_cons_of_mem _ lw_711)) dX11_give_38 ?_
        refine lv_iconst (v := 1) hx hb dX11_give_41 (by decide) ?_
        refine lv_iload_n hx hb dX11_give_42 rfl (lv_at hl 1 rfl) ?_
        refine lv_iload_n hx hb dX11_give_43 rfl (lv_at hl 2 rfl) ?_
        refine lv_iconst (v := 0) hx hb dX11_give_44 (by decide) ?_
        obtain ⟨z12, h11, h⟩ := bv_s h
        refine x_Vv (Rz := z12) (As := [.int 1, .int v1, .int v2, .int 0]) (rest := []) ⟨hx, hb, hml, hown, hts⟩ hK hP hS (kd_lt k_146 (by decide)) (cell_0 k_146) rfl (m_X0_perform hG   h11) (cwV 4 hts (gV lw_1034 lw_1035 lw_1036 lw_120 lw_1037) rfl rfl rfl (by decide +kernel) (rmd_ok (by decide) (by decide))) rfl hl.1 rfl (Nat.le_of_ble_eq_true rfl) dX11_give_45 ⟨Nat.le_refl _, Nat.le_refl _⟩ (fun H locs hP hS => ?_)
        refine lv_aload_n hx hb dX11_give_48 rfl (lv_at hl 0 rfl) ?_
        refine ge_11_5 hx hb hts (inU inW_X11) hown hK hP k_0 (hts _ (List.mem_cons_of_mem _ lw_708)) dX11_give_49 ?_
        obtain ⟨r14, z15, h13, h⟩ := bd_s h
        refine x_Vi (Rz := (r14, z15)) (As := []) (rest := []) ⟨hx, hb, hml, hown, hts⟩ hK hP hS (kd_lt k_34 (by decide)) (cell_1 k_34) rfl (m_X1_platesFilled hG  k_34 h13) (cwV 0 hts (gV lw_1082 lw_1083 lw_1084 lw_117 lw_1085) rfl rfl rfl (by decide +kernel) (rmd_ok (by decide) (by decide))) rfl hl.1 rfl (Nat.le_of_ble_eq_true rfl) dX11_give_52 ⟨Nat.le_refl _, Nat.le_refl _⟩ (fun H locs hP hS => ?_)
        exact x_iret hx hb hr hlocks hK hP hS h dX11_give_55
      · rw [if_neg c10] at h
        refine lv_iconst (v := (-1)) hx hb dX11_give_35 (by decide) ?_
        exact x_iret hx hb hr hlocks hK hP hS h dX11_give_36
def fn_X11_back (v1 : Int32) (z : St) : Option (Int32 × St) := bd (fn_X7_isGuest  2 v1 z) (fun r2 z3 => (if r2 = 0 then some ((-1), z3) else gd (ix v1 6) ((if (z3.1 60 (Int32.toNatClampNeg v1)) = (-1) then some ((-1), z3) else gd (ix v1 6) (nm (z3.1 60 (Int32.toNatClampNeg v1)) (fun v2_8 => bv (fn_X0_perform  2 v2_8 v1 0 z3) (fun z10 => some (v2_8, z10))))))))
set_option maxHeartbeats 4000000 in
set_option maxRecDepth 100000 in
theorem m_X11_back {l : Launch} {G : wG} (hG : Ok G) {v1 : Int32} {z : St} {Rz : Int32 × St}  (h : fn_X11_back  v1 z = some Rz) : Met l yX11_back (wsU yX11_back cX11_back 3 (some .int)) (rmd 8) (va_Pc [.ref (G.2.2 0), .int v1] (Pre G z)) (va_Qi (fun r u => (r, u) = Rz) (Pre G) (AW G)) 0 0 (AW G) := by
  refine Met.ofW (cc := cX11_back) (maxL := 3) (ret := (some .int)) (by decide) rfl ?_
  intro p e s m args below meth c s₁ B hml hv
  obtain ⟨rfl, hP, hK⟩ := hv
  have C : CX p s m ([.ref (G.2.2 0), .int v1] : List Value).toArray meth c cX11_back 3 (wsU yX11_back cX11_back 3 (some .int)) RX11 (some .int) G := ⟨B.exec, B.bytes, hml, findClass_of_methodNamed B.named, atoms_spec (ws := (wsU yX11_back cX11_back 3 (some .int))) B.pre, B.returns, B.notSynchronized, hK, hG⟩
  obtain ⟨hx, hb, -, hown, hts, hr, hlocks, -, -⟩ := id C
  have hS : va_S (AW G) s.heap s.heap [] := va_S.rf
  have hl := lv_entry [.ref (G.2.2 0), .int v1] (n := 3) (Nat.le_of_ble_eq_true rfl)
  rw [lg_entry_eq]
  generalize (lg_sl [.ref (G.2.2 0), .int v1] ++ List.replicate (3 - (lg_sl [.ref (G.2.2 0), .int v1]).length) Slot.unset).toArray = ls at hl ⊢
  have hl : lv_has ls 3 [(0, .ref (G.2.2 0)), (1, .int v1)] := hl
  unfold fn_X11_back at h
  refine lv_aload_n hx hb dX11_back_0 rfl (lv_at hl 0 rfl) ?_
  refine ge_11_2 hx hb hts (inU inW_X11) hown hK hP k_0 (hts _ (List.mem_cons_of_mem _ lw_705)) dX11_back_1 ?_
  refine lv_iload_n hx hb dX11_back_4 rfl (lv_at hl 1 rfl) ?_
  obtain ⟨r2, z3, h1, h⟩ := bd_s h
  refine x_Vi (Rz := (r2, z3)) (As := [.int v1]) (rest := []) ⟨hx, hb, hml, hown, hts⟩ hK hP hS (kd_lt k_2 (by decide)) (cell_7 k_2) rfl (m_X7_isGuest hG  k_2 h1) (cwV 1 hts (gV lw_962 lw_963 lw_964 lw_110 lw_965) rfl rfl rfl (by decide +kernel) (rmd_ok (by decide) (by decide))) rfl hl.1 rfl (Nat.le_of_ble_eq_true rfl) dX11_back_5 ⟨Nat.le_refl _, Nat.le_refl _⟩ (fun H locs hP hS => ?_)
  refine lv_if_eq (tgt := 24) hx hb dX11_back_8 (by decide) (fun c4 => ?_) (fun c4 => ?_)
  · rw [if_pos c4] at h
    refine lv_iconst (v := (-1)) hx hb dX11_back_24 (by decide) ?_
    exact x_iret hx hb hr hlocks hK hP hS h dX11_back_25
  · rw [if_neg c4] at h
    refine lv_aload_n hx hb dX11_back_11 rfl (lv_at hl 0 rfl) ?_
    refine ge_11_5 hx hb hts (inU inW_X11) hown hK hP k_0 (hts _ (List.mem_cons_of_mem _ lw_708)) dX11_back_12 ?_
    refine ge_1_1 hx hb hts (inU inW_X1) hown hK hP k_34 (hts _ (List.mem_cons_of_mem _ lw_421)) dX11_back_15 ?_
    refine lv_iload_n hx hb dX11_back_18 rfl (lv_at hl 1 rfl) ?_
    obtain ⟨g5, h⟩ := gd_s h
    refine xl_14 hx hb hK hP k_60 l_60 (ix_in g5) dX11_back_19 ?_
    refine lv_iconst (v := (-1)) hx hb dX11_back_20 (by decide) ?_
    refine lv_icmp_ne (tgt := 26) hx hb dX11_back_21 (by decide) (fun c6 => ?_) (fun c6 => ?_)
    · rw [if_neg c6] at h
      refine lv_aload_n hx hb dX11_back_26 rfl (lv_at hl 0 rfl) ?_
      refine ge_11_5 hx hb hts (inU inW_X11) hown hK hP k_0 (hts _ (List.mem_cons_of_mem _ lw_708)) dX11_back_27 ?_
      refine ge_1_1 hx hb hts (inU inW_X1) hown hK hP k_34 (hts _ (List.mem_cons_of_mem _ lw_421)) dX11_back_30 ?_
      refine lv_iload_n hx hb dX11_back_33 rfl (lv_at hl 1 rfl) ?_
      obtain ⟨g7, h⟩ := gd_s h
      refine xl_14 hx hb hK hP k_60 l_60 (ix_in g7) dX11_back_34 ?_
      obtain ⟨v2_8, e_v2_8, h⟩ := nm_s h
      refine x_top e_v2_8 ?_
      refine lv_istore_n (lv' := [(2, .int v2_8), (0, .ref (G.2.2 0)), (1, .int v1)]) hx hb dX11_back_35 rfl hl (by decide) rfl (fun ls hl => ?_)
      refine lv_aload_n hx hb dX11_back_36 rfl (lv_at hl 1 rfl) ?_
      refine ge_11_8 hx hb hts (inU inW_X11) hown hK hP k_0 (hts _ (List.mem_cons_of_mem _ lw_711)) dX11_back_37 ?_
      refine lv_iconst (v := 2) hx hb dX11_back_40 (by decide) ?_
      refine lv_iload_n hx hb dX11_back_41 rfl (lv_at hl 0 rfl) ?_
      refine lv_iload_n hx hb dX11_back_42 rfl (lv_at hl 2 rfl) ?_
      refine lv_iconst (v := 0) hx hb dX11_back_43 (by decide) ?_
      obtain ⟨z10, h9, h⟩ := bv_s h
      refine x_Vv (Rz := z10) (As := [.int 2, .int v2_8, .int v1, .int 0]) (rest := []) ⟨hx, hb, hml, hown, hts⟩ hK hP hS (kd_lt k_146 (by decide)) (cell_0 k_146) rfl (m_X0_perform hG   h9) (cwV 4 hts (gV lw_1034 lw_1035 lw_1036 lw_120 lw_1037) rfl rfl rfl (by decide +kernel) (rmd_ok (by decide) (by decide))) rfl hl.1 rfl (Nat.le_of_ble_eq_true rfl) dX11_back_44 ⟨Nat.le_refl _, Nat.le_refl _⟩ (fun H locs hP hS => ?_)
      refine lv_iload_n hx hb dX11_back_47 rfl (lv_at hl 0 rfl) ?_
      exact x_iret hx hb hr hlocks hK hP hS h dX11_back_48
    · rw [if_pos c6] at h
      refine lv_iconst (v := (-1)) hx hb dX11_back_24 (by decide) ?_
      exact x_iret hx hb hr hlocks hK hP hS h dX11_back_25
def fn_X11_areTwoGuests (v1 : Int32) (v2 : Int32) (z : St) : Option (Int32 × St) := bd (fn_X7_isGuest  2 v1 z) (fun r2 z3 => (if r2 = 0 then some (0, z3) else bd (fn_X7_isGuest  2 v2 z3) (fun r6 z7 => (if r6 = 0 then some (0, z7) else (if v1 = v2 then some (0, z7) else some (1, z7))))))
set_option maxHeartbeats 4000000 in
set_option maxRecDepth 100000 in
theorem m_X11_areTwoGuests {l : Launch} {G : wG} (hG : Ok G) {v1 : Int32} {v2 : Int32} {z : St} {Rz : Int32 × St}  (h : fn_X11_areTwoGuests  v1 v2 z = some Rz) : Met l yX11_areTwoGuests (wsU yX11_areTwoGuests cX11_areTwoGuests 3 (some .boolean)) (rmd 2) (va_Pc [.ref (G.2.2 0), .int v1, .int v2] (Pre G z)) (va_Qi (fun r u => (r, u) = Rz) (Pre G) (AW G)) 0 0 (AW G) := by
  refine Met.ofW (cc := cX11_areTwoGuests) (maxL := 3) (ret := (some .boolean)) (by decide) rfl ?_
  intro p e s m args below meth c s₁ B hml hv
  obtain ⟨rfl, hP, hK⟩ := hv
  have C : CX p s m ([.ref (G.2.2 0), .int v1, .int v2] : List Value).toArray meth c cX11_areTwoGuests 3 (wsU yX11_areTwoGuests cX11_areTwoGuests 3 (some .boolean)) RX11 (some .boolean) G := ⟨B.exec, B.bytes, hml, findClass_of_methodNamed B.named, atoms_spec (ws := (wsU yX11_areTwoGuests cX11_areTwoGuests 3 (some .boolean))) B.pre, B.returns, B.notSynchronized, hK, hG⟩
  obtain ⟨hx, hb, -, hown, hts, hr, hlocks, -, -⟩ := id C
  have hS : va_S (AW G) s.heap s.heap [] := va_S.rf
  have hl := lv_entry [.ref (G.2.2 0), .int v1, .int v2] (n := 3) (Nat.le_of_ble_eq_true rfl)
  rw [lg_entry_eq]
  generalize (lg_sl [.ref (G.2.2 0), .int v1, .int v2] ++ List.replicate (3 - (lg_sl [.ref (G.2.2 0), .int v1, .int v2]).length) Slot.unset).toArray = ls at hl ⊢
  have hl : lv_has ls 3 [(0, .ref (G.2.2 0)), (1, .int v1), (2, .int v2)] := hl
  unfold fn_X11_areTwoGuests at h
  refine lv_aload_n hx hb dX11_areTwoGuests_0 rfl (lv_at hl 0 rfl) ?_
  refine ge_11_2 hx hb hts (inU inW_X11) hown hK hP k_0 (hts _ (List.mem_cons_of_mem _ lw_705)) dX11_areTwoGuests_1 ?_
  refine lv_iload_n hx hb dX11_areTwoGuests_4 rfl (lv_at hl 1 rfl) ?_
  obtain ⟨r2, z3, h1, h⟩ := bd_s h
  refine x_Vi (Rz := (r2, z3)) (As := [.int v1]) (rest := []) ⟨hx, hb, hml, hown, hts⟩ hK hP hS (kd_lt k_2 (by decide)) (cell_7 k_2) rfl (m_X7_isGuest hG  k_2 h1) (cwV 1 hts (gV lw_962 lw_963 lw_964 lw_110 lw_965) rfl rfl rfl (by decide +kernel) (rmd_ok (by decide) (by decide))) rfl hl.1 rfl (Nat.le_of_ble_eq_true rfl) dX11_areTwoGuests_5 ⟨Nat.le_refl _, Nat.le_refl _⟩ (fun H locs hP hS => ?_)
  refine lv_if_eq (tgt := 31) hx hb dX11_areTwoGuests_8 (by decide) (fun c4 => ?_) (fun c4 => ?_)
  · rw [if_pos c4] at h
    refine lv_iconst (v := 0) hx hb dX11_areTwoGuests_31 (by decide) ?_
    exact x_zret hx hb hr hlocks hK hP hS rfl h dX11_areTwoGuests_32
  · rw [if_neg c4] at h
    refine lv_aload_n hx hb dX11_areTwoGuests_11 rfl (lv_at hl 0 rfl) ?_
    refine ge_11_2 hx hb hts (inU inW_X11) hown hK hP k_0 (hts _ (List.mem_cons_of_mem _ lw_705)) dX11_areTwoGuests_12 ?_
    refine lv_iload_n hx hb dX11_areTwoGuests_15 rfl (lv_at hl 2 rfl) ?_
    obtain ⟨r6, z7, h5, h⟩ := bd_s h
    refine x_Vi (Rz := (r6, z7)) (As := [.int v2]) (rest := []) ⟨hx, hb, hml, hown, hts⟩ hK hP hS (kd_lt k_2 (by decide)) (cell_7 k_2) rfl (m_X7_isGuest hG  k_2 h5) (cwV 1 hts (gV lw_962 lw_963 lw_964 lw_110 lw_965) rfl rfl rfl (by decide +kernel) (rmd_ok (by decide) (by decide))) rfl hl.1 rfl (Nat.le_of_ble_eq_true rfl) dX11_areTwoGuests_16 ⟨Nat.le_refl _, Nat.le_refl _⟩ (fun H locs hP hS => ?_)
    refine lv_if_eq (tgt := 31) hx hb dX11_areTwoGuests_19 (by decide) (fun c8 => ?_) (fun c8 => ?_)
    · rw [if_pos c8] at h
      refine lv_iconst (v := 0) hx hb dX11_areTwoGuests_31 (by decide) ?_
      exact x_zret hx hb hr hlocks hK hP hS rfl h dX11_areTwoGuests_32
    · rw [if_neg c8] at h
      refine lv_iload_n hx hb dX11_areTwoGuests_22 rfl (lv_at hl 1 rfl) ?_
      refine lv_iload_n hx hb dX11_areTwoGuests_23 rfl (lv_at hl 2 rfl) ?_
      refine lv_icmp_eq (tgt := 31) hx hb dX11_areTwoGuests_24 (by decide) (fun c9 => ?_) (fun c9 => ?_)
      · rw [if_pos c9] at h
        refine lv_iconst (v := 0) hx hb dX11_areTwoGuests_31 (by decide) ?_
        exact x_zret hx hb hr hlocks hK hP hS rfl h dX11_areTwoGuests_32
      · rw [if_neg c9] at h
        refine lv_iconst (v := 1) hx hb dX11_areTwoGuests_27 (by decide) ?_
        refine lv_goto (tgt := 32) hx hb dX11_areTwoGuests_28 (by decide) ?_
        exact x_zret hx hb hr hlocks hK hP hS rfl h dX11_areTwoGuests_32
def fn_X11_exchange (v1 : Int32) (v2 : Int32) (z : St) : Option (Int32 × St) := bd (fn_X11_areTwoGuests  v1 v2 z) (fun r2 z3 => (if r2 = 0 then some ((-1), z3) else gd (ix v1 6) ((if (z3.1 60 (Int32.toNatClampNeg v1)) = (-1) then some ((-1), z3) else gd (ix v2 6) ((if (z3.1 60 (Int32.toNatClampNeg v2)) = (-1) then some ((-1), z3) else bv (fn_X0_perform  3 v1 v2 0 z3) (fun z10 => gd (ix v1 6) (some ((z10.1 60 (Int32.toNatClampNeg v1)), z10)))))))))
set_option maxHeartbeats 4000000 in
set_option maxRecDepth 100000 in
theorem m_X11_exchange {l : Launch} {G : wG} (hG : Ok G) {v1 : Int32} {v2 : Int32} {z : St} {Rz : Int32 × St}  (h : fn_X11_exchange  v1 v2 z = some Rz) : Met l yX11_exchange (wsU yX11_exchange cX11_exchange 3 (some .int)) (rmd 8) (va_Pc [.ref (G.2.2 0), .int v1, .int v2] (Pre G z)) (va_Qi (fun r u => (r, u) = Rz) (Pre G) (AW G)) 0 0 (AW G) := by
  refine Met.ofW (cc := cX11_exchange) (maxL := 3) (ret := (some .int)) (by decide) rfl ?_
  intro p e s m args below meth c s₁ B hml hv
  obtain ⟨rfl, hP, hK⟩ := hv
  have C : CX p s m ([.ref (G.2.2 0), .int v1, .int v2] : List Value).toArray meth c cX11_exchange 3 (wsU yX11_exchange cX11_exchange 3 (some .int)) RX11 (some .int) G := ⟨B.exec, B.bytes, hml, findClass_of_methodNamed B.named, atoms_spec (ws := (wsU yX11_exchange cX11_exchange 3 (some .int))) B.pre, B.returns, B.notSynchronized, hK, hG⟩
  obtain ⟨hx, hb, -, hown, hts, hr, hlocks, -, -⟩ := id C
  have hS : va_S (AW G) s.heap s.heap [] := va_S.rf
  have hl := lv_entry [.ref (G.2.2 0), .int v1, .int v2] (n := 3) (Nat.le_of_ble_eq_true rfl)
  rw [lg_entry_eq]
  generalize (lg_sl [.ref (G.2.2 0), .int v1, .int v2] ++ List.replicate (3 - (lg_sl [.ref (G.2.2 0), .int v1, .int v2]).length) Slot.unset).toArray = ls at hl ⊢
  have hl : lv_has ls 3 [(0, .ref (G.2.2 0)), (1, .int v1), (2, .int v2)] := hl
  unfold fn_X11_exchange at h
  refine lv_aload_n hx hb dX11_exchange_0 rfl (lv_at hl 0 rfl) ?_
  refine lv_iload_n hx hb dX11_exchange_1 rfl (lv_at hl 1 rfl) ?_
  refine lv_iload_n hx hb dX11_exchange_2 rfl (lv_at hl 2 rfl) ?_
  obtain ⟨r2, z3, h1, h⟩ := bd_s h
  refine x_Vi (Rz := (r2, z3)) (As := [.int v1, .int v2]) (rest := []) ⟨hx, hb, hml, hown, hts⟩ hK hP hS (kd_lt k_0 (by decide)) (cell_11 k_0) rfl (m_X11_areTwoGuests hG   h1) (cwV 2 hts (gV lw_1094 lw_1096 lw_30 lw_109 lw_1097) rfl rfl rfl (by decide +kernel) (rmd_ok (by decide) (by decide))) rfl hl.1 rfl (Nat.le_of_ble_eq_true rfl) dX11_exchange_3 ⟨Nat.le_refl _, Nat.le_refl _⟩ (fun H locs hP hS => ?_)
  refine lv_if_ne (tgt := 11) hx hb dX11_exchange_6 (by decide) (fun c4 => ?_) (fun c4 => ?_)
  · rw [if_neg c4] at h
    refine lv_aload_n hx hb dX11_exchange_11 rfl (lv_at hl 0 rfl) ?_
    refine ge_11_5 hx hb hts (inU inW_X11) hown hK hP k_0 (hts _ (List.mem_cons_of_mem _ lw_708)) dX11_exchange_12 ?_
    refine ge_1_1 hx hb hts (inU inW_X1) hown hK hP k_34 (hts _ (List.mem_cons_of_mem _ lw_421)) dX11_exchange_15 ?_
    refine lv_iload_n hx hb dX11_exchange_18 rfl (lv_at hl 1 rfl) ?_
    obtain ⟨g5, h⟩ := gd_s h
    refine xl_14 hx hb hK hP k_60 l_60 (ix_in g5) dX11_exchange_19 ?_
    refine lv_iconst (v := (-1)) hx hb dX11_exchange_20 (by decide) ?_
    refine lv_icmp_eq (tgt := 37) hx hb dX11_exchange_21 (by decide) (fun c6 => ?_) (fun c6 => ?_)
    · rw [if_pos c6] at h
      refine lv_iconst (v := (-1)) hx hb dX11_exchange_37 (by decide) ?_
      exact x_iret hx hb hr hlocks hK hP hS h dX11_exchange_38
    · rw [if_neg c6] at h
      refine lv_aload_n hx hb dX11_exchange_24 rfl (lv_at hl 0 rfl) ?_
      refine ge_11_5 hx hb hts (inU inW_X11) hown hK hP k_0 (hts _ (List.mem_cons_of_mem _ lw_708)) dX11_exchange_25 ?_
      refine ge_1_1 hx hb hts (inU inW_X1) hown hK hP k_34 (hts _ (List.mem_cons_of_mem _ lw_421)) dX11_exchange_28 ?_
      refine lv_iload_n hx hb dX11_exchange_31 rfl (lv_at hl 2 rfl) ?_
      obtain ⟨g7, h⟩ := gd_s h
      refine xl_14 hx hb hK hP k_60 l_60 (ix_in g7) dX11_exchange_32 ?_
      refine lv_iconst (v := (-1)) hx hb dX11_exchange_33 (by decide) ?_
      refine lv_icmp_ne (tgt := 39) hx hb dX11_exchange_34 (by decide) (fun c8 => ?_) (fun c8 => ?_)
      · rw [if_neg c8] at h
        refine lv_aload_n hx hb dX11_exchange_39 rfl (lv_at hl 0 rfl) ?_
        refine ge_11_8 hx hb hts (inU inW_X11) hown hK hP k_0 (hts _ (List.mem_cons_of_mem _ lw_711)) dX11_exchange_40 ?_
        refine lv_iconst (v := 3) hx hb dX11_exchange_43 (by decide) ?_
        refine lv_iload_n hx hb dX11_exchange_44 rfl (lv_at hl 1 rfl) ?_
        refine lv_iload_n hx hb dX11_exchange_45 rfl (lv_at hl 2 rfl) ?_
        refine lv_iconst (v := 0) hx hb dX11_exchange_46 (by decide) ?_
        obtain ⟨z10, h9, h⟩ := bv_s h
        refine x_Vv (Rz := z10) (As := [.int 3, .int v1, .int v2, .int 0]) (rest := []) ⟨hx, hb, hml, hown, hts⟩ hK hP hS (kd_lt k_146 (by decide)) (cell_0 k_146) rfl (m_X0_perform hG   h9) (cwV 4 hts (gV lw_1034 lw_1035 lw_1036 lw_120 lw_1037) rfl rfl rfl (by decide +kernel) (rmd_ok (by decide) (by decide))) rfl hl.1 rfl (Nat.le_of_ble_eq_true rfl) dX11_exchange_47 ⟨Nat.le_refl _, Nat.le_refl _⟩ (fun H locs hP hS => ?_)
        refine lv_aload_n hx hb dX11_exchange_50 rfl (lv_at hl 0 rfl) ?_
        refine ge_11_5 hx hb hts (inU inW_X11) hown hK hP k_0 (hts _ (List.mem_cons_of_mem _ lw_708)) dX11_exchange_51 ?_
        refine ge_1_1 hx hb hts (inU inW_X1) hown hK hP k_34 (hts _ (List.mem_cons_of_mem _ lw_421)) dX11_exchange_54 ?_
        refine lv_iload_n hx hb dX11_exchange_57 rfl (lv_at hl 1 rfl) ?_
        obtain ⟨g11, h⟩ := gd_s h
        refine xl_14 hx hb hK hP k_60 l_60 (ix_in g11) dX11_exchange_58 ?_
        exact x_iret hx hb hr hlocks hK hP hS h dX11_exchange_59
      · rw [if_pos c8] at h
        refine lv_iconst (v := (-1)) hx hb dX11_exchange_37 (by decide) ?_
        exact x_iret hx hb hr hlocks hK hP hS h dX11_exchange_38
  · rw [if_pos c4] at h
    refine lv_iconst (v := (-1)) hx hb dX11_exchange_9 (by decide) ?_
    exact x_iret hx hb hr hlocks hK hP hS h dX11_exchange_10
def fn_X11_undo  (z : St) : Option (Int32 × St) := bd (fn_X0_takeBack   z) (fun r2 z3 => gd (zok r2) (some (r2, z3)))
set_option maxHeartbeats 4000000 in
set_option maxRecDepth 100000 in
theorem m_X11_undo {l : Launch} {G : wG} (hG : Ok G)  {z : St} {Rz : Int32 × St}  (h : fn_X11_undo   z = some Rz) : Met l yX11_undo (wsU yX11_undo cX11_undo 1 (some .boolean)) (rmd 6) (va_Pc [.ref (G.2.2 0)] (Pre G z)) (va_Qi (fun r u => (r, u) = Rz) (Pre G) (AW G)) 0 0 (AW G) := by
  refine Met.ofW (cc := cX11_undo) (maxL := 1) (ret := (some .boolean)) (by decide) rfl ?_
  intro p e s m args below meth c s₁ B hml hv
  obtain ⟨rfl, hP, hK⟩ := hv
  have C : CX p s m ([.ref (G.2.2 0)] : List Value).toArray meth c cX11_undo 1 (wsU yX11_undo cX11_undo 1 (some .boolean)) RX11 (some .boolean) G := ⟨B.exec, B.bytes, hml, findClass_of_methodNamed B.named, atoms_spec (ws := (wsU yX11_undo cX11_undo 1 (some .boolean))) B.pre, B.returns, B.notSynchronized, hK, hG⟩
  obtain ⟨hx, hb, -, hown, hts, hr, hlocks, -, -⟩ := id C
  have hS : va_S (AW G) s.heap s.heap [] := va_S.rf
  have hl := lv_entry [.ref (G.2.2 0)] (n := 1) (Nat.le_of_ble_eq_true rfl)
  rw [lg_entry_eq]
  generalize (lg_sl [.ref (G.2.2 0)] ++ List.replicate (1 - (lg_sl [.ref (G.2.2 0)]).length) Slot.unset).toArray = ls at hl ⊢
  have hl : lv_has ls 1 [(0, .ref (G.2.2 0))] := hl
  unfold fn_X11_undo at h
  refine lv_aload_n hx hb dX11_undo_0 rfl (lv_at hl 0 rfl) ?_
  refine ge_11_8 hx hb hts (inU inW_X11) hown hK hP k_0 (hts _ (List.mem_cons_of_mem _ lw_711)) dX11_undo_1 ?_
  obtain ⟨r2, z3, h1, h⟩ := bd_s h
  refine x_Vi (Rz := (r2, z3)) (As := []) (rest := []) ⟨hx, hb, hml, hown, hts⟩ hK hP hS (kd_lt k_146 (by decide)) (cell_0 k_146) rfl (m_X0_takeBack hG   h1) (cwV 0 hts (gV lw_1102 lw_1103 lw_1104 lw_120 lw_1105) rfl rfl rfl (by decide +kernel) (rmd_ok (by decide) (by decide))) rfl hl.1 rfl (Nat.le_of_ble_eq_true rfl) dX11_undo_4 ⟨Nat.le_refl _, Nat.le_refl _⟩ (fun H locs hP hS => ?_)
  obtain ⟨g4, h⟩ := gd_s h
  exact x_zret hx hb hr hlocks hK hP hS g4 h dX11_undo_7
def fn_X11_redo  (z : St) : Option (Int32 × St) := bd (fn_X0_doAgain   z) (fun r2 z3 => gd (zok r2) (some (r2, z3)))
set_option maxHeartbeats 4000000 in
set_option maxRecDepth 100000 in
theorem m_X11_redo {l : Launch} {G : wG} (hG : Ok G)  {z : St} {Rz : Int32 × St}  (h : fn_X11_redo   z = some Rz) : Met l yX11_redo (wsU yX11_redo cX11_redo 1 (some .boolean)) (rmd 8) (va_Pc [.ref (G.2.2 0)] (Pre G z)) (va_Qi (fun r u => (r, u) = Rz) (Pre G) (AW G)) 0 0 (AW G) := by
  refine Met.ofW (cc := cX11_redo) (maxL := 1) (ret := (some .boolean)) (by decide) rfl ?_
  intro p e s m args below meth c s₁ B hml hv
  obtain ⟨rfl, hP, hK⟩ := hv
  have C : CX p s m ([.ref (G.2.2 0)] : List Value).toArray meth c cX11_redo 1 (wsU yX11_redo cX11_redo 1 (some .boolean)) RX11 (some .boolean) G := ⟨B.exec, B.bytes, hml, findClass_of_methodNamed B.named, atoms_spec (ws := (wsU yX11_redo cX11_redo 1 (some .boolean))) B.pre, B.returns, B.notSynchronized, hK, hG⟩
  obtain ⟨hx, hb, -, hown, hts, hr, hlocks, -, -⟩ := id C
  have hS : va_S (AW G) s.heap s.heap [] := va_S.rf
  have hl := lv_entry [.ref (G.2.2 0)] (n := 1) (Nat.le_of_ble_eq_true rfl)
  rw [lg_entry_eq]
  generalize (lg_sl [.ref (G.2.2 0)] ++ List.replicate (1 - (lg_sl [.ref (G.2.2 0)]).length) Slot.unset).toArray = ls at hl ⊢
  have hl : lv_has ls 1 [(0, .ref (G.2.2 0))] := hl
  unfold fn_X11_redo at h
  refine lv_aload_n hx hb dX11_redo_0 rfl (lv_at hl 0 rfl) ?_
  refine ge_11_8 hx hb hts (inU inW_X11) hown hK hP k_0 (hts _ (List.mem_cons_of_mem _ lw_711)) dX11_redo_1 ?_
  obtain ⟨r2, z3, h1, h⟩ := bd_s h
  refine x_Vi (Rz := (r2, z3)) (As := []) (rest := []) ⟨hx, hb, hml, hown, hts⟩ hK hP hS (kd_lt k_146 (by decide)) (cell_0 k_146) rfl (m_X0_doAgain hG   h1) (cwV 0 hts (gV lw_1122 lw_1123 lw_1124 lw_120 lw_1125) rfl rfl rfl (by decide +kernel) (rmd_ok (by decide) (by decide))) rfl hl.1 rfl (Nat.le_of_ble_eq_true rfl) dX11_redo_4 ⟨Nat.le_refl _, Nat.le_refl _⟩ (fun H locs hP hS => ?_)
  obtain ⟨g4, h⟩ := gd_s h
  exact x_zret hx hb hr hlocks hK hP hS g4 h dX11_redo_7
def fn_X11_feeds (v1 : Int32) (z : St) : Option (Int32 × St) := bd (fn_X7_isGuest  2 v1 z) (fun r2 z3 => (if r2 = 0 then some ((-1), z3) else bd (fn_X8_feeders  v1 z3) (fun r6 z7 => some (r6, z7))))
set_option maxHeartbeats 4000000 in
set_option maxRecDepth 100000 in
theorem m_X11_feeds {l : Launch} {G : wG} (hG : Ok G) {v1 : Int32} {z : St} {Rz : Int32 × St}  (h : fn_X11_feeds  v1 z = some Rz) : Met l yX11_feeds (wsU yX11_feeds cX11_feeds 2 (some .int)) (rmd 4) (va_Pc [.ref (G.2.2 0), .int v1] (Pre G z)) (va_Qi (fun r u => (r, u) = Rz) (Pre G) (AW G)) 0 0 (AW G) := by
  refine Met.ofW (cc := cX11_feeds) (maxL := 2) (ret := (some .int)) (by decide) rfl ?_
  intro p e s m args below meth c s₁ B hml hv
  obtain ⟨rfl, hP, hK⟩ := hv
  have C : CX p s m ([.ref (G.2.2 0), .int v1] : List Value).toArray meth c cX11_feeds 2 (wsU yX11_feeds cX11_feeds 2 (some .int)) RX11 (some .int) G := ⟨B.exec, B.bytes, hml, findClass_of_methodNamed B.named, atoms_spec (ws := (wsU yX11_feeds cX11_feeds 2 (some .int))) B.pre, B.returns, B.notSynchronized, hK, hG⟩
  obtain ⟨hx, hb, -, hown, hts, hr, hlocks, -, -⟩ := id C
  have hS : va_S (AW G) s.heap s.heap [] := va_S.rf
  have hl := lv_entry [.ref (G.2.2 0), .int v1] (n := 2) (Nat.le_of_ble_eq_true rfl)
  rw [lg_entry_eq]
  generalize (lg_sl [.ref (G.2.2 0), .int v1] ++ List.replicate (2 - (lg_sl [.ref (G.2.2 0), .int v1]).length) Slot.unset).toArray = ls at hl ⊢
  have hl : lv_has ls 2 [(0, .ref (G.2.2 0)), (1, .int v1)] := hl
  unfold fn_X11_feeds at h
  refine lv_aload_n hx hb dX11_feeds_0 rfl (lv_at hl 0 rfl) ?_
  refine ge_11_2 hx hb hts (inU inW_X11) hown hK hP k_0 (hts _ (List.mem_cons_of_mem _ lw_705)) dX11_feeds_1 ?_
  refine lv_iload_n hx hb dX11_feeds_4 rfl (lv_at hl 1 rfl) ?_
  obtain ⟨r2, z3, h1, h⟩ := bd_s h
  refine x_Vi (Rz := (r2, z3)) (As := [.int v1]) (rest := []) ⟨hx, hb, hml, hown, hts⟩ hK hP hS (kd_lt k_2 (by decide)) (cell_7 k_2) rfl (m_X7_isGuest hG  k_2 h1) (cwV 1 hts (gV lw_962 lw_963 lw_964 lw_110 lw_965) rfl rfl rfl (by decide +kernel) (rmd_ok (by decide) (by decide))) rfl hl.1 rfl (Nat.le_of_ble_eq_true rfl) dX11_feeds_5 ⟨Nat.le_refl _, Nat.le_refl _⟩ (fun H locs hP hS => ?_)
  refine lv_if_ne (tgt := 13) hx hb dX11_feeds_8 (by decide) (fun c4 => ?_) (fun c4 => ?_)
  · rw [if_neg c4] at h
    refine lv_aload_n hx hb dX11_feeds_13 rfl (lv_at hl 0 rfl) ?_
    refine ge_11_9 hx hb hts (inU inW_X11) hown hK hP k_0 (hts _ (List.mem_cons_of_mem _ lw_712)) dX11_feeds_14 ?_
    refine lv_iload_n hx hb dX11_feeds_17 rfl (lv_at hl 1 rfl) ?_
    obtain ⟨r6, z7, h5, h⟩ := bd_s h
    refine x_Vi (Rz := (r6, z7)) (As := [.int v1]) (rest := []) ⟨hx, hb, hml, hown, hts⟩ hK hP hS (kd_lt k_153 (by decide)) (cell_8 k_153) rfl (m_X8_feeders hG   h5) (cwV 1 hts (gV lw_1130 lw_1131 lw_1132 lw_121 lw_1133) rfl rfl rfl (by decide +kernel) (rmd_ok (by decide) (by decide))) rfl hl.1 rfl (Nat.le_of_ble_eq_true rfl) dX11_feeds_18 ⟨Nat.le_refl _, Nat.le_refl _⟩ (fun H locs hP hS => ?_)
    exact x_iret hx hb hr hlocks hK hP hS h dX11_feeds_21
  · rw [if_pos c4] at h
    refine lv_iconst (v := (-1)) hx hb dX11_feeds_11 (by decide) ?_
    exact x_iret hx hb hr hlocks hK hP hS h dX11_feeds_12
def fn_X11_served  (z : St) : Option (Int32 × St) := bd (fn_X8_servedIf  0 z) (fun r2 z3 => some (r2, z3))
set_option maxHeartbeats 4000000 in
set_option maxRecDepth 100000 in
theorem m_X11_served {l : Launch} {G : wG} (hG : Ok G)  {z : St} {Rz : Int32 × St}  (h : fn_X11_served   z = some Rz) : Met l yX11_served (wsU yX11_served cX11_served 1 (some .int)) (rmd 5) (va_Pc [.ref (G.2.2 0)] (Pre G z)) (va_Qi (fun r u => (r, u) = Rz) (Pre G) (AW G)) 0 0 (AW G) := by
  refine Met.ofW (cc := cX11_served) (maxL := 1) (ret := (some .int)) (by decide) rfl ?_
  intro p e s m args below meth c s₁ B hml hv
  obtain ⟨rfl, hP, hK⟩ := hv
  have C : CX p s m ([.ref (G.2.2 0)] : List Value).toArray meth c cX11_served 1 (wsU yX11_served cX11_served 1 (some .int)) RX11 (some .int) G := ⟨B.exec, B.bytes, hml, findClass_of_methodNamed B.named, atoms_spec (ws := (wsU yX11_served cX11_served 1 (some .int))) B.pre, B.returns, B.notSynchronized, hK, hG⟩
  obtain ⟨hx, hb, -, hown, hts, hr, hlocks, -, -⟩ := id C
  have hS : va_S (AW G) s.heap s.heap [] := va_S.rf
  have hl := lv_entry [.ref (G.2.2 0)] (n := 1) (Nat.le_of_ble_eq_true rfl)
  rw [lg_entry_eq]
  generalize (lg_sl [.ref (G.2.2 0)] ++ List.replicate (1 - (lg_sl [.ref (G.2.2 0)]).length) Slot.unset).toArray = ls at hl ⊢
  have hl : lv_has ls 1 [(0, .ref (G.2.2 0))] := hl
  unfold fn_X11_served at h
  refine lv_aload_n hx hb dX11_served_0 rfl (lv_at hl 0 rfl) ?_
  refine ge_11_9 hx hb hts (inU inW_X11) hown hK hP k_0 (hts _ (List.mem_cons_of_mem _ lw_712)) dX11_served_1 ?_
  refine lv_iconst (v := 0) hx hb dX11_served_4 (by decide) ?_
  obtain ⟨r2, z3, h1, h⟩ := bd_s h
  refine x_Vi (Rz := (r2, z3)) (As := [.int 0]) (rest := []) ⟨hx, hb, hml, hown, hts⟩ hK hP hS (kd_lt k_153 (by decide)) (cell_8 k_153) rfl (m_X8_servedIf hG   h1) (cwV 1 hts (gV lw_1141 lw_1142 lw_1143 lw_121 lw_1144) rfl rfl rfl (by decide +kernel) (rmd_ok (by decide) (by decide))) rfl hl.1 rfl (Nat.le_of_ble_eq_true rfl) dX11_served_5 ⟨Nat.le_refl _, Nat.le_refl _⟩ (fun H locs hP hS => ?_)
  exact x_iret hx hb hr hlocks hK hP hS h dX11_served_8
def fn_X11_next (v1 : Int32) (z : St) : Option (Int32 × St) := bd (fn_X8_findCut   z) (fun r2 z3 => (if r2 = 0 then some ((-1), z3) else (if v1 = 0 then some ((z3.1 153 5), z3) else (if v1 = 1 then some ((z3.1 153 6), z3) else (if v1 = 2 then some ((z3.1 153 7), z3) else (if v1 = 3 then some ((z3.1 153 8), z3) else (some ((-1), z3))))))))
set_option maxHeartbeats 4000000 in
set_option maxRecDepth 100000 in
theorem m_X11_next {l : Launch} {G : wG} (hG : Ok G) {v1 : Int32} {z : St} {Rz : Int32 × St}  (h : fn_X11_next  v1 z = some Rz) : Met l yX11_next (wsU yX11_next cX11_next 2 (some .int)) (rmd 5) (va_Pc [.ref (G.2.2 0), .int v1] (Pre G z)) (va_Qi (fun r u => (r, u) = Rz) (Pre G) (AW G)) 0 0 (AW G) := by
  refine Met.ofW (cc := cX11_next) (maxL := 2) (ret := (some .int)) (by decide) rfl ?_
  intro p e s m args below meth c s₁ B hml hv
  obtain ⟨rfl, hP, hK⟩ := hv
  have C : CX p s m ([.ref (G.2.2 0), .int v1] : List Value).toArray meth c cX11_next 2 (wsU yX11_next cX11_next 2 (some .int)) RX11 (some .int) G := ⟨B.exec, B.bytes, hml, findClass_of_methodNamed B.named, atoms_spec (ws := (wsU yX11_next cX11_next 2 (some .int))) B.pre, B.returns, B.notSynchronized, hK, hG⟩
  obtain ⟨hx, hb, -, hown, hts, hr, hlocks, -, -⟩ := id C
  have hS : va_S (AW G) s.heap s.heap [] := va_S.rf
  have hl := lv_entry [.ref (G.2.2 0), .int v1] (n := 2) (Nat.le_of_ble_eq_true rfl)
  rw [lg_entry_eq]
  generalize (lg_sl [.ref (G.2.2 0), .int v1] ++ List.replicate (2 - (lg_sl [.ref (G.2.2 0), .int v1]).length) Slot.unset).toArray = ls at hl ⊢
  have hl : lv_has ls 2 [(0, .ref (G.2.2 0)), (1, .int v1)] := hl
  unfold fn_X11_next at h
  refine lv_aload_n hx hb dX11_next_0 rfl (lv_at hl 0 rfl) ?_
  refine ge_11_9 hx hb hts (inU inW_X11) hown hK hP k_0 (hts _ (List.mem_cons_of_mem _ lw_712)) dX11_next_1 ?_
  obtain ⟨r2, z3, h1, h⟩ := bd_s h
  refine x_Vi (Rz := (r2, z3)) (As := []) (rest := []) ⟨hx, hb, hml, hown, hts⟩ hK hP hS (kd_lt k_153 (by decide)) (cell_8 k_153) rfl (m_X8_findCut hG   h1) (cwV 0 hts (gV lw_1166 lw_1167 lw_1168 lw_121 lw_1169) rfl rfl rfl (by decide +kernel) (rmd_ok (by decide) (by decide))) rfl hl.1 rfl (Nat.le_of_ble_eq_true rfl) dX11_next_4 ⟨Nat.le_refl _, Nat.le_refl _⟩ (fun H locs hP hS => ?_)
  refine lv_if_ne (tgt := 12) hx hb dX11_next_7 (by decide) (fun c4 => ?_) (fun c4 => ?_)
  · rw [if_neg c4] at h
    refine lv_iload_n hx hb dX11_next_12 rfl (lv_at hl 1 rfl) ?_
    by_cases c5 : v1 = 0
    · rw [if_pos c5] at h
      refine lv_tableIn (off := 31) (tgt := 44) hx hb dX11_next_13 (by rw [c5]; decide) (by rw [c5]; decide) (by rw [c5]; rfl) (by decide) ?_
      refine lv_aload_n hx hb dX11_next_44 rfl (lv_at hl 0 rfl) ?_
      refine ge_11_9 hx hb hts (inU inW_X11) hown hK hP k_0 (hts _ (List.mem_cons_of_mem _ lw_712)) dX11_next_45 ?_
      refine ge_8_5 hx hb hts (inU inW_X8) hown hK hP k_153 (hts _ (List.mem_cons_of_mem _ lw_533)) dX11_next_48 ?_
      exact x_iret hx hb hr hlocks hK hP hS h dX11_next_51
    rw [if_neg c5] at h
    by_cases c6 : v1 = 1
    · rw [if_pos c6] at h
      refine lv_tableIn (off := 39) (tgt := 52) hx hb dX11_next_13 (by rw [c6]; decide) (by rw [c6]; decide) (by rw [c6]; rfl) (by decide) ?_
      refine lv_aload_n hx hb dX11_next_52 rfl (lv_at hl 0 rfl) ?_
      refine ge_11_9 hx hb hts (inU inW_X11) hown hK hP k_0 (hts _ (List.mem_cons_of_mem _ lw_712)) dX11_next_53 ?_
      refine ge_8_6 hx hb hts (inU inW_X8) hown hK hP k_153 (hts _ (List.mem_cons_of_mem _ lw_535)) dX11_next_56 ?_
      exact x_iret hx hb hr hlocks hK hP hS h dX11_next_59
    rw [if_neg c6] at h
    by_cases c7 : v1 = 2
    · rw [if_pos c7] at h
      refine lv_tableIn (off := 47) (tgt := 60) hx hb dX11_next_13 (by rw [c7]; decide) (by rw [c7]; decide) (by rw [c7]; rfl) (by decide) ?_
      refine lv_aload_n hx hb dX11_next_60 rfl (lv_at hl 0 rfl) ?_
      refine ge_11_9 hx hb hts (inU inW_X11) hown hK hP k_0 (hts _ (List.mem_cons_of_mem _ lw_712)) dX11_next_61 ?_
      refine ge_8_7 hx hb hts (inU inW_X8) hown hK hP k_153 (hts _ (List.mem_cons_of_mem _ lw_537)) dX11_next_64 ?_
      exact x_iret hx hb hr hlocks hK hP hS h dX11_next_67
    rw [if_neg c7] at h
    by_cases c8 : v1 = 3
    · rw [if_pos c8] at h
      refine lv_tableIn (off := 55) (tgt := 68) hx hb dX11_next_13 (by rw [c8]; decide) (by rw [c8]; decide) (by rw [c8]; rfl) (by decide) ?_
      refine lv_aload_n hx hb dX11_next_68 rfl (lv_at hl 0 rfl) ?_
      refine ge_11_9 hx hb hts (inU inW_X11) hown hK hP k_0 (hts _ (List.mem_cons_of_mem _ lw_712)) dX11_next_69 ?_
      refine ge_8_8 hx hb hts (inU inW_X8) hown hK hP k_153 (hts _ (List.mem_cons_of_mem _ lw_539)) dX11_next_72 ?_
      exact x_iret hx hb hr hlocks hK hP hS h dX11_next_75
    rw [if_neg c8] at h
    have n9 : (v1 : Int32).toInt < 0 ∨ 3 < (v1 : Int32).toInt := by
      have c5_n := lv_neT (a := 0) c5 (by decide)
      have c6_n := lv_neT (a := 1) c6 (by decide)
      have c7_n := lv_neT (a := 2) c7 (by decide)
      have c8_n := lv_neT (a := 3) c8 (by decide)
      omega
    refine lv_tableOut (tgt := 76) hx hb dX11_next_13 n9 (by decide) ?_
    refine lv_iconst (v := (-1)) hx hb dX11_next_76 (by decide) ?_
    exact x_iret hx hb hr hlocks hK hP hS h dX11_next_77
  · rw [if_pos c4] at h
    refine lv_iconst (v := (-1)) hx hb dX11_next_10 (by decide) ?_
    exact x_iret hx hb hr hlocks hK hP hS h dX11_next_11
def fn_X11_room (v1 : Int32) (z : St) : Option (Int32 × St) := bd (fn_X7_isGuest  2 v1 z) (fun r2 z3 => (if r2 = 0 then some ((-1), z3) else gd (ix v1 6) ((if (z3.1 60 (Int32.toNatClampNeg v1)) = (-1) then bd (fn_X8_roomOf  v1 z3) (fun r8 z9 => some (r8, z9)) else some ((-1), z3)))))
set_option maxHeartbeats 4000000 in
set_option maxRecDepth 100000 in
theorem m_X11_room {l : Launch} {G : wG} (hG : Ok G) {v1 : Int32} {z : St} {Rz : Int32 × St}  (h : fn_X11_room  v1 z = some Rz) : Met l yX11_room (wsU yX11_room cX11_room 2 (some .int)) (rmd 6) (va_Pc [.ref (G.2.2 0), .int v1] (Pre G z)) (va_Qi (fun r u => (r, u) = Rz) (Pre G) (AW G)) 0 0 (AW G) := by
  refine Met.ofW (cc := cX11_room) (maxL := 2) (ret := (some .int)) (by decide) rfl ?_
  intro p e s m args below meth c s₁ B hml hv
  obtain ⟨rfl, hP, hK⟩ := hv
  have C : CX p s m ([.ref (G.2.2 0), .int v1] : List Value).toArray meth c cX11_room 2 (wsU yX11_room cX11_room 2 (some .int)) RX11 (some .int) G := ⟨B.exec, B.bytes, hml, findClass_of_methodNamed B.named, atoms_spec (ws := (wsU yX11_room cX11_room 2 (some .int))) B.pre, B.returns, B.notSynchronized, hK, hG⟩
  obtain ⟨hx, hb, -, hown, hts, hr, hlocks, -, -⟩ := id C
  have hS : va_S (AW G) s.heap s.heap [] := va_S.rf
  have hl := lv_entry [.ref (G.2.2 0), .int v1] (n := 2) (Nat.le_of_ble_eq_true rfl)
  rw [lg_entry_eq]
  generalize (lg_sl [.ref (G.2.2 0), .int v1] ++ List.replicate (2 - (lg_sl [.ref (G.2.2 0), .int v1]).length) Slot.unset).toArray = ls at hl ⊢
  have hl : lv_has ls 2 [(0, .ref (G.2.2 0)), (1, .int v1)] := hl
  unfold fn_X11_room at h
  refine lv_aload_n hx hb dX11_room_0 rfl (lv_at hl 0 rfl) ?_
  refine ge_11_2 hx hb hts (inU inW_X11) hown hK hP k_0 (hts _ (List.mem_cons_of_mem _ lw_705)) dX11_room_1 ?_
  refine lv_iload_n hx hb dX11_room_4 rfl (lv_at hl 1 rfl) ?_
  obtain ⟨r2, z3, h1, h⟩ := bd_s h
  refine x_Vi (Rz := (r2, z3)) (As := [.int v1]) (rest := []) ⟨hx, hb, hml, hown, hts⟩ hK hP hS (kd_lt k_2 (by decide)) (cell_7 k_2) rfl (m_X7_isGuest hG  k_2 h1) (cwV 1 hts (gV lw_962 lw_963 lw_964 lw_110 lw_965) rfl rfl rfl (by decide +kernel) (rmd_ok (by decide) (by decide))) rfl hl.1 rfl (Nat.le_of_ble_eq_true rfl) dX11_room_5 ⟨Nat.le_refl _, Nat.le_refl _⟩ (fun H locs hP hS => ?_)
  refine lv_if_eq (tgt := 24) hx hb dX11_room_8 (by decide) (fun c4 => ?_) (fun c4 => ?_)
  · rw [if_pos c4] at h
    refine lv_iconst (v := (-1)) hx hb dX11_room_24 (by decide) ?_
    exact x_iret hx hb hr hlocks hK hP hS h dX11_room_25
  · rw [if_neg c4] at h
    refine lv_aload_n hx hb dX11_room_11 rfl (lv_at hl 0 rfl) ?_
    refine ge_11_5 hx hb hts (inU inW_X11) hown hK hP k_0 (hts _ (List.mem_cons_of_mem _ lw_708)) dX11_room_12 ?_
    refine ge_1_1 hx hb hts (inU inW_X1) hown hK hP k_34 (hts _ (List.mem_cons_of_mem _ lw_421)) dX11_room_15 ?_
    refine lv_iload_n hx hb dX11_room_18 rfl (lv_at hl 1 rfl) ?_
    obtain ⟨g5, h⟩ := gd_s h
    refine xl_14 hx hb hK hP k_60 l_60 (ix_in g5) dX11_room_19 ?_
    refine lv_iconst (v := (-1)) hx hb dX11_room_20 (by decide) ?_
    refine lv_icmp_eq (tgt := 26) hx hb dX11_room_21 (by decide) (fun c6 => ?_) (fun c6 => ?_)
    · rw [if_pos c6] at h
      refine lv_aload_n hx hb dX11_room_26 rfl (lv_at hl 0 rfl) ?_
      refine ge_11_9 hx hb hts (inU inW_X11) hown hK hP k_0 (hts _ (List.mem_cons_of_mem _ lw_712)) dX11_room_27 ?_
      refine lv_iload_n hx hb dX11_room_30 rfl (lv_at hl 1 rfl) ?_
      obtain ⟨r8, z9, h7, h⟩ := bd_s h
      refine x_Vi (Rz := (r8, z9)) (As := [.int v1]) (rest := []) ⟨hx, hb, hml, hown, hts⟩ hK hP hS (kd_lt k_153 (by decide)) (cell_8 k_153) rfl (m_X8_roomOf hG   h7) (cwV 1 hts (gV lw_1180 lw_1181 lw_1182 lw_121 lw_1183) rfl rfl rfl (by decide +kernel) (rmd_ok (by decide) (by decide))) rfl hl.1 rfl (Nat.le_of_ble_eq_true rfl) dX11_room_31 ⟨Nat.le_refl _, Nat.le_refl _⟩ (fun H locs hP hS => ?_)
      exact x_iret hx hb hr hlocks hK hP hS h dX11_room_34
    · rw [if_neg c6] at h
      refine lv_iconst (v := (-1)) hx hb dX11_room_24 (by decide) ?_
      exact x_iret hx hb hr hlocks hK hP hS h dX11_room_25
def fn_X11_hungry_45 (k4 : Int32 → Int32 → St → Option (Int32 × St)) (v1 : Int32) (v2 : Int32) (z : St) : Option (Int32 × St) := k4 v1 (v2 + 1) z
set_option maxHeartbeats 4000000 in
set_option maxRecDepth 100000 in
theorem pf_X11_hungry_45 {p : Program} {l : Launch} {e : Env} {s : State} {m : MethodId} {args : Array Value} {below : List Frame} {meth : Method} {c : Code} {G : wG} (C : CX p s m args meth c cX11_hungry 3 (wsU yX11_hungry cX11_hungry 3 (some .int)) RX11 (some .int) G) {Rz : Int32 × St} {k4 : Int32 → Int32 → St → Option (Int32 × St)} (hk_4 : ∀ (v1 : Int32) (v2 : Int32) (z : St)  (H : Heap) (locs : List Loc) (ls : Array Slot), WP G z H → va_S (AW G) s.heap H locs → lv_has ls 3 [(0, .ref (G.2.2 0)), (1, .int v1), (2, .int v2)] → k4 v1 v2 z = some Rz → W p l e (rmd 4) s m args below meth c H locs 0 0 (QI below args s G Rz) (F0 m 4 ls [])) (v1 : Int32) (v2 : Int32) (z : St)  {H : Heap} {locs : List Loc} {ls : Array Slot} (hP : WP G z H) (hS : va_S (AW G) s.heap H locs) (hl : lv_has ls 3 [(0, .ref (G.2.2 0)), (1, .int v1), (2, .int v2)]) (h : fn_X11_hungry_45  k4 v1 v2 z = some Rz) : W p l e (rmd 4) s m args below meth c H locs 0 0 (QI below args s G Rz) (F0 m 45 ls []) := by
  obtain ⟨hx, hb, hml, hown, hts, hr, hlocks, hK, hG⟩ := id C
  unfold fn_X11_hungry_45 at h
  refine lv_iinc (v := (v2 + 1)) (lv' := [(2, .int (v2 + 1)), (0, .ref (G.2.2 0)), (1, .int v1)]) hx hb dX11_hungry_45 hl (k := 2) rfl rfl (by decide) rfl (fun ls hl => ?_)
  refine lv_goto (tgt := 4) hx hb dX11_hungry_48 (by decide) ?_
  exact hk_4 v1 (v2 + 1) z  _ _ _ hP hS (lv_sub hl [1, 2, 0] rfl) h
def fn_X11_hungry_4 : Nat → Int32 → Int32 → St → Option (Int32 × St)
  | 0, _, _, _ => none
  | n + 1, v1, v2, z => (if (z.1 2 5) ≤ v2 then some (v1, z) else gd (ix v2 6) ((if (z.1 60 (Int32.toNatClampNeg v2)) = (-1) then bd (fn_X8_feeders  v2 z) (fun r5 z6 => (if r5 = 0 then nm (v1 ||| (1 <<< (v2 &&& 31))) (fun v1_8 => fn_X11_hungry_45  (fn_X11_hungry_4   n) v1_8 v2 z6) else fn_X11_hungry_45  (fn_X11_hungry_4   n) v1 v2 z6)) else fn_X11_hungry_45  (fn_X11_hungry_4   n) v1 v2 z)))
set_option maxHeartbeats 4000000 in
set_option maxRecDepth 100000 in
theorem pf_X11_hungry_4 {p : Program} {l : Launch} {e : Env} {s : State} {m : MethodId} {args : Array Value} {below : List Frame} {meth : Method} {c : Code} {G : wG} (C : CX p s m args meth c cX11_hungry 3 (wsU yX11_hungry cX11_hungry 3 (some .int)) RX11 (some .int) G) {Rz : Int32 × St} : ∀ (n : Nat) (v1 : Int32) (v2 : Int32) (z : St)  (H : Heap) (locs : List Loc) (ls : Array Slot), WP G z H → va_S (AW G) s.heap H locs → lv_has ls 3 [(0, .ref (G.2.2 0)), (1, .int v1), (2, .int v2)] → fn_X11_hungry_4   n v1 v2 z = some Rz → W p l e (rmd 4) s m args below meth c H locs 0 0 (QI below args s G Rz) (F0 m 4 ls []) := by
  obtain ⟨hx, hb, hml, hown, hts, hr, hlocks, hK, hG⟩ := id C
  intro n
  induction n with
  | zero => intro v1 v2 z  H locs ls hP hS hl h; cases h
  | succ n ih =>
    intro v1 v2 z  H locs ls hP hS hl h
    rw [fn_X11_hungry_4] at h
    refine lv_iload_n hx hb dX11_hungry_4 rfl (lv_at hl 2 rfl) ?_
    refine lv_aload_n hx hb dX11_hungry_5 rfl (lv_at hl 0 rfl) ?_
    refine ge_11_2 hx hb hts (inU inW_X11) hown hK hP k_0 (hts _ (List.mem_cons_of_mem _ lw_705)) dX11_hungry_6 ?_
    refine ge_7_5 hx hb hts (inU inW_X7) hown hK hP k_2 (hts _ (List.mem_cons_of_mem _ lw_199)) dX11_hungry_9 ?_
    refine lv_icmp_ge (tgt := 51) hx hb dX11_hungry_12 (by decide) (fun c1 => ?_) (fun c1 => ?_)
    · rw [if_pos c1] at h
      refine lv_iload_n hx hb dX11_hungry_51 rfl (lv_at hl 1 rfl) ?_
      exact x_iret hx hb hr hlocks hK hP hS h dX11_hungry_52
    · rw [if_neg c1] at h
      refine lv_aload_n hx hb dX11_hungry_15 rfl (lv_at hl 0 rfl) ?_
      refine ge_11_5 hx hb hts (inU inW_X11) hown hK hP k_0 (hts _ (List.mem_cons_of_mem _ lw_708)) dX11_hungry_16 ?_
      refine ge_1_1 hx hb hts (inU inW_X1) hown hK hP k_34 (hts _ (List.mem_cons_of_mem _ lw_421)) dX11_hungry_19 ?_
      refine lv_iload_n hx hb dX11_hungry_22 rfl (lv_at hl 2 rfl) ?_
      obtain ⟨g2, h⟩ := gd_s h
      refine xl_14 hx hb hK hP k_60 l_60 (ix_in g2) dX11_hungry_23 ?_
      refine lv_iconst (v := (-1)) hx hb dX11_hungry_24 (by decide) ?_
      refine lv_icmp_ne (tgt := 45) hx hb dX11_hungry_25 (by decide) (fun c3 => ?_) (fun c3 => ?_)
      · rw [if_neg c3] at h
        exact pf_X11_hungry_45 C  ih v1 v2 z  hP hS (lv_sub hl [0, 1, 2] rfl) h
      · rw [if_pos c3] at h
        refine lv_aload_n hx hb dX11_hungry_28 rfl (lv_at hl 0 rfl) ?_
        refine ge_11_9 hx hb hts (inU inW_X11) hown hK hP k_0 (hts _ (List.mem_cons_of_mem _ lw_712)) dX11_hungry_29 ?_
        refine lv_iload_n hx hb dX11_hungry_32 rfl (lv_at hl 2 rfl) ?_
        obtain ⟨r5, z6, h4, h⟩ := bd_s h
        refine x_Vi (Rz := (r5, z6)) (As := [.int v2]) (rest := []) ⟨hx, hb, hml, hown, hts⟩ hK hP hS (kd_lt k_153 (by decide)) (cell_8 k_153) rfl (m_X8_feeders hG   h4) (cwV 1 hts (gV lw_1130 lw_1131 lw_1132 lw_121 lw_1133) rfl rfl rfl (by decide +kernel) (rmd_ok (by decide) (by decide))) rfl hl.1 rfl (Nat.le_of_ble_eq_true rfl) dX11_hungry_33 ⟨Nat.le_refl _, Nat.le_refl _⟩ (fun H locs hP hS => ?_)
        refine lv_if_ne (tgt := 45) hx hb dX11_hungry_36 (by decide) (fun c7 => ?_) (fun c7 => ?_)
        · rw [if_neg c7] at h
          exact pf_X11_hungry_45 C  ih v1 v2 z6  hP hS (lv_sub hl [0, 1, 2] rfl) h
        · rw [if_pos c7] at h
          refine lv_iload_n hx hb dX11_hungry_39 rfl (lv_at hl 1 rfl) ?_
          refine lv_iconst (v := 1) hx hb dX11_hungry_40 (by decide) ?_
          refine lv_iload_n hx hb dX11_hungry_41 rfl (lv_at hl 2 rfl) ?_
          refine lv_ishl hx hb dX11_hungry_42 ?_
          refine lv_ior hx hb dX11_hungry_43 ?_
          obtain ⟨v1_8, e_v1_8, h⟩ := nm_s h
          refine x_top e_v1_8 ?_
          refine lv_istore_n (lv' := [(1, .int v1_8), (0, .ref (G.2.2 0)), (2, .int v2)]) hx hb dX11_hungry_44 rfl hl (by decide) rfl (fun ls hl => ?_)
          exact pf_X11_hungry_45 C  ih v1_8 v2 z6  hP hS (lv_sub hl [1, 0, 2] rfl) h
def fn_X11_hungry  (z : St) : Option (Int32 × St) := fn_X11_hungry_4   fu 0 0 z
set_option maxHeartbeats 4000000 in
set_option maxRecDepth 100000 in
theorem m_X11_hungry {l : Launch} {G : wG} (hG : Ok G)  {z : St} {Rz : Int32 × St}  (h : fn_X11_hungry   z = some Rz) : Met l yX11_hungry (wsU yX11_hungry cX11_hungry 3 (some .int)) (rmd 4) (va_Pc [.ref (G.2.2 0)] (Pre G z)) (va_Qi (fun r u => (r, u) = Rz) (Pre G) (AW G)) 0 0 (AW G) := by
  refine Met.ofW (cc := cX11_hungry) (maxL := 3) (ret := (some .int)) (by decide) rfl ?_
  intro p e s m args below meth c s₁ B hml hv
  obtain ⟨rfl, hP, hK⟩ := hv
  have C : CX p s m ([.ref (G.2.2 0)] : List Value).toArray meth c cX11_hungry 3 (wsU yX11_hungry cX11_hungry 3 (some .int)) RX11 (some .int) G := ⟨B.exec, B.bytes, hml, findClass_of_methodNamed B.named, atoms_spec (ws := (wsU yX11_hungry cX11_hungry 3 (some .int))) B.pre, B.returns, B.notSynchronized, hK, hG⟩
  obtain ⟨hx, hb, -, hown, hts, hr, hlocks, -, -⟩ := id C
  have hS : va_S (AW G) s.heap s.heap [] := va_S.rf
  have hl := lv_entry [.ref (G.2.2 0)] (n := 3) (Nat.le_of_ble_eq_true rfl)
  rw [lg_entry_eq]
  generalize (lg_sl [.ref (G.2.2 0)] ++ List.replicate (3 - (lg_sl [.ref (G.2.2 0)]).length) Slot.unset).toArray = ls at hl ⊢
  have hl : lv_has ls 3 [(0, .ref (G.2.2 0))] := hl
  unfold fn_X11_hungry at h
  refine lv_iconst (v := 0) hx hb dX11_hungry_0 (by decide) ?_
  refine lv_istore_n (lv' := [(1, .int 0), (0, .ref (G.2.2 0))]) hx hb dX11_hungry_1 rfl hl (by decide) rfl (fun ls hl => ?_)
  refine lv_iconst (v := 0) hx hb dX11_hungry_2 (by decide) ?_
  refine lv_istore_n (lv' := [(2, .int 0), (1, .int 0), (0, .ref (G.2.2 0))]) hx hb dX11_hungry_3 rfl hl (by decide) rfl (fun ls hl => ?_)
  exact pf_X11_hungry_4 C   fu 0 0 z  _ _ _ hP hS (lv_sub hl [2, 1, 0] rfl) h
def fn_X11_law (v1 : Int32) (z : St) : Option (Int32 × St) := (if v1 < (-99) then some ((-1), z) else (if v1 ≤ 99 then bd (fn_X8_servedIf  v1 z) (fun r4 z5 => some (r4, z5)) else some ((-1), z)))
set_option maxHeartbeats 4000000 in
set_option maxRecDepth 100000 in
theorem m_X11_law {l : Launch} {G : wG} (hG : Ok G) {v1 : Int32} {z : St} {Rz : Int32 × St}  (h : fn_X11_law  v1 z = some Rz) : Met l yX11_law (wsU yX11_law cX11_law 2 (some .int)) (rmd 5) (va_Pc [.ref (G.2.2 0), .int v1] (Pre G z)) (va_Qi (fun r u => (r, u) = Rz) (Pre G) (AW G)) 0 0 (AW G) := by
  refine Met.ofW (cc := cX11_law) (maxL := 2) (ret := (some .int)) (by decide) rfl ?_
  intro p e s m args below meth c s₁ B hml hv
  obtain ⟨rfl, hP, hK⟩ := hv
  have C : CX p s m ([.ref (G.2.2 0), .int v1] : List Value).toArray meth c cX11_law 2 (wsU yX11_law cX11_law 2 (some .int)) RX11 (some .int) G := ⟨B.exec, B.bytes, hml, findClass_of_methodNamed B.named, atoms_spec (ws := (wsU yX11_law cX11_law 2 (some .int))) B.pre, B.returns, B.notSynchronized, hK, hG⟩
  obtain ⟨hx, hb, -, hown, hts, hr, hlocks, -, -⟩ := id C
  have hS : va_S (AW G) s.heap s.heap [] := va_S.rf
  have hl := lv_entry [.ref (G.2.2 0), .int v1] (n := 2) (Nat.le_of_ble_eq_true rfl)
  rw [lg_entry_eq]
  generalize (lg_sl [.ref (G.2.2 0), .int v1] ++ List.replicate (2 - (lg_sl [.ref (G.2.2 0), .int v1]).length) Slot.unset).toArray = ls at hl ⊢
  have hl : lv_has ls 2 [(0, .ref (G.2.2 0)), (1, .int v1)] := hl
  unfold fn_X11_law at h
  refine lv_iload_n hx hb dX11_law_0 rfl (lv_at hl 1 rfl) ?_
  refine lv_bipush (v := (-99)) hx hb dX11_law_1 (by decide) ?_
  refine lv_icmp_lt (tgt := 12) hx hb dX11_law_3 (by decide) (fun c1 => ?_) (fun c1 => ?_)
  · rw [if_pos c1] at h
    refine lv_iconst (v := (-1)) hx hb dX11_law_12 (by decide) ?_
    exact x_iret hx hb hr hlocks hK hP hS h dX11_law_13
  · rw [if_neg c1] at h
    refine lv_iload_n hx hb dX11_law_6 rfl (lv_at hl 1 rfl) ?_
    refine lv_bipush (v := 99) hx hb dX11_law_7 (by decide) ?_
    refine lv_icmp_le (tgt := 14) hx hb dX11_law_9 (by decide) (fun c2 => ?_) (fun c2 => ?_)
    · rw [if_pos c2] at h
      refine lv_aload_n hx hb dX11_law_14 rfl (lv_at hl 0 rfl) ?_
      refine ge_11_9 hx hb hts (inU inW_X11) hown hK hP k_0 (hts _ (List.mem_cons_of_mem _ lw_712)) dX11_law_15 ?_
      refine lv_iload_n hx hb dX11_law_18 rfl (lv_at hl 1 rfl) ?_
      obtain ⟨r4, z5, h3, h⟩ := bd_s h
      refine x_Vi (Rz := (r4, z5)) (As := [.int v1]) (rest := []) ⟨hx, hb, hml, hown, hts⟩ hK hP hS (kd_lt k_153 (by decide)) (cell_8 k_153) rfl (m_X8_servedIf hG   h3) (cwV 1 hts (gV lw_1141 lw_1142 lw_1143 lw_121 lw_1144) rfl rfl rfl (by decide +kernel) (rmd_ok (by decide) (by decide))) rfl hl.1 rfl (Nat.le_of_ble_eq_true rfl) dX11_law_19 ⟨Nat.le_refl _, Nat.le_refl _⟩ (fun H locs hP hS => ?_)
      exact x_iret hx hb hr hlocks hK hP hS h dX11_law_22
    · rw [if_neg c2] at h
      refine lv_iconst (v := (-1)) hx hb dX11_law_12 (by decide) ?_
      exact x_iret hx hb hr hlocks hK hP hS h dX11_law_13
def fn_X11_envies (v1 : Int32) (z : St) : Option (Int32 × St) := bd (fn_X7_isGuest  2 v1 z) (fun r2 z3 => (if r2 = 0 then some ((-1), z3) else bd (fn_X10_enviedBy  v1 z3) (fun r6 z7 => some (r6, z7))))
set_option maxHeartbeats 4000000 in
set_option maxRecDepth 100000 in
theorem m_X11_envies {l : Launch} {G : wG} (hG : Ok G) {v1 : Int32} {z : St} {Rz : Int32 × St}  (h : fn_X11_envies  v1 z = some Rz) : Met l yX11_envies (wsU yX11_envies cX11_envies 2 (some .int)) (rmd 7) (va_Pc [.ref (G.2.2 0), .int v1] (Pre G z)) (va_Qi (fun r u => (r, u) = Rz) (Pre G) (AW G)) 0 0 (AW G) := by
  refine Met.ofW (cc := cX11_envies) (maxL := 2) (ret := (some .int)) (by decide) rfl ?_
  intro p e s m args below meth c s₁ B hml hv
  obtain ⟨rfl, hP, hK⟩ := hv
  have C : CX p s m ([.ref (G.2.2 0), .int v1] : List Value).toArray meth c cX11_envies 2 (wsU yX11_envies cX11_envies 2 (some .int)) RX11 (some .int) G := ⟨B.exec, B.bytes, hml, findClass_of_methodNamed B.named, atoms_spec (ws := (wsU yX11_envies cX11_envies 2 (some .int))) B.pre, B.returns, B.notSynchronized, hK, hG⟩
  obtain ⟨hx, hb, -, hown, hts, hr, hlocks, -, -⟩ := id C
  have hS : va_S (AW G) s.heap s.heap [] := va_S.rf
  have hl := lv_entry [.ref (G.2.2 0), .int v1] (n := 2) (Nat.le_of_ble_eq_true rfl)
  rw [lg_entry_eq]
  generalize (lg_sl [.ref (G.2.2 0), .int v1] ++ List.replicate (2 - (lg_sl [.ref (G.2.2 0), .int v1]).length) Slot.unset).toArray = ls at hl ⊢
  have hl : lv_has ls 2 [(0, .ref (G.2.2 0)), (1, .int v1)] := hl
  unfold fn_X11_envies at h
  refine lv_aload_n hx hb dX11_envies_0 rfl (lv_at hl 0 rfl) ?_
  refine ge_11_2 hx hb hts (inU inW_X11) hown hK hP k_0 (hts _ (List.mem_cons_of_mem _ lw_705)) dX11_envies_1 ?_
  refine lv_iload_n hx hb dX11_envies_4 rfl (lv_at hl 1 rfl) ?_
  obtain ⟨r2, z3, h1, h⟩ := bd_s h
  refine x_Vi (Rz := (r2, z3)) (As := [.int v1]) (rest := []) ⟨hx, hb, hml, hown, hts⟩ hK hP hS (kd_lt k_2 (by decide)) (cell_7 k_2) rfl (m_X7_isGuest hG  k_2 h1) (cwV 1 hts (gV lw_962 lw_963 lw_964 lw_110 lw_965) rfl rfl rfl (by decide +kernel) (rmd_ok (by decide) (by decide))) rfl hl.1 rfl (Nat.le_of_ble_eq_true rfl) dX11_envies_5 ⟨Nat.le_refl _, Nat.le_refl _⟩ (fun H locs hP hS => ?_)
  refine lv_if_ne (tgt := 13) hx hb dX11_envies_8 (by decide) (fun c4 => ?_) (fun c4 => ?_)
  · rw [if_neg c4] at h
    refine lv_aload_n hx hb dX11_envies_13 rfl (lv_at hl 0 rfl) ?_
    refine ge_11_7 hx hb hts (inU inW_X11) hown hK hP k_0 (hts _ (List.mem_cons_of_mem _ lw_710)) dX11_envies_14 ?_
    refine lv_iload_n hx hb dX11_envies_17 rfl (lv_at hl 1 rfl) ?_
    obtain ⟨r6, z7, h5, h⟩ := bd_s h
    refine x_Vi (Rz := (r6, z7)) (As := [.int v1]) (rest := []) ⟨hx, hb, hml, hown, hts⟩ hK hP hS (kd_lt k_143 (by decide)) (cell_10 k_143) rfl (m_X10_enviedBy hG   h5) (cwV 1 hts (gV lw_1197 lw_1198 lw_1199 lw_119 lw_1200) rfl rfl rfl (by decide +kernel) (rmd_ok (by decide) (by decide))) rfl hl.1 rfl (Nat.le_of_ble_eq_true rfl) dX11_envies_18 ⟨Nat.le_refl _, Nat.le_refl _⟩ (fun H locs hP hS => ?_)
    exact x_iret hx hb hr hlocks hK hP hS h dX11_envies_21
  · rw [if_pos c4] at h
    refine lv_iconst (v := (-1)) hx hb dX11_envies_11 (by decide) ?_
    exact x_iret hx hb hr hlocks hK hP hS h dX11_envies_12
def fn_X11_quarrel_4 : Nat → Int32 → Int32 → St → Option (Int32 × St)
  | 0, _, _, _ => none
  | n + 1, v1, v2, z => (if (z.1 2 5) ≤ v2 then some (v1, z) else bd (fn_X10_enviedBy  v2 z) (fun r3 z4 => bd (fn_J6_bitCount_0f7a4  r3 z4) (fun r6 z7 => nm (v1 + r6) (fun v1_8 => fn_X11_quarrel_4   n v1_8 (v2 + 1) z7))))
set_option maxHeartbeats 4000000 in
set_option maxRecDepth 100000 in
theorem pf_X11_quarrel_4 {p : Program} {l : Launch} {e : Env} {s : State} {m : MethodId} {args : Array Value} {below : List Frame} {meth : Method} {c : Code} {G : wG} (C : CX p s m args meth c cX11_quarrel 3 (wsU yX11_quarrel cX11_quarrel 3 (some .int)) RX11 (some .int) G) {Rz : Int32 × St} : ∀ (n : Nat) (v1 : Int32) (v2 : Int32) (z : St)  (H : Heap) (locs : List Loc) (ls : Array Slot), WP G z H → va_S (AW G) s.heap H locs → lv_has ls 3 [(0, .ref (G.2.2 0)), (1, .int v1), (2, .int v2)] → fn_X11_quarrel_4   n v1 v2 z = some Rz → W p l e (rmd 7) s m args below meth c H locs 0 0 (QI below args s G Rz) (F0 m 4 ls []) := by
  obtain ⟨hx, hb, hml, hown, hts, hr, hlocks, hK, hG⟩ := id C
  intro n
  induction n with
  | zero => intro v1 v2 z  H locs ls hP hS hl h; cases h
  | succ n ih =>
    intro v1 v2 z  H locs ls hP hS hl h
    rw [fn_X11_quarrel_4] at h
    refine lv_iload_n hx hb dX11_quarrel_4 rfl (lv_at hl 2 rfl) ?_
    refine lv_aload_n hx hb dX11_quarrel_5 rfl (lv_at hl 0 rfl) ?_
    refine ge_11_2 hx hb hts (inU inW_X11) hown hK hP k_0 (hts _ (List.mem_cons_of_mem _ lw_705)) dX11_quarrel_6 ?_
    refine ge_7_5 hx hb hts (inU inW_X7) hown hK hP k_2 (hts _ (List.mem_cons_of_mem _ lw_199)) dX11_quarrel_9 ?_
    refine lv_icmp_ge (tgt := 35) hx hb dX11_quarrel_12 (by decide) (fun c1 => ?_) (fun c1 => ?_)
    · rw [if_pos c1] at h
      refine lv_iload_n hx hb dX11_quarrel_35 rfl (lv_at hl 1 rfl) ?_
      exact x_iret hx hb hr hlocks hK hP hS h dX11_quarrel_36
    · rw [if_neg c1] at h
      refine lv_iload_n hx hb dX11_quarrel_15 rfl (lv_at hl 1 rfl) ?_
      refine lv_aload_n hx hb dX11_quarrel_16 rfl (lv_at hl 0 rfl) ?_
      refine ge_11_7 hx hb hts (inU inW_X11) hown hK hP k_0 (hts _ (List.mem_cons_of_mem _ lw_710)) dX11_quarrel_17 ?_
      refine lv_iload_n hx hb dX11_quarrel_20 rfl (lv_at hl 2 rfl) ?_
      obtain ⟨r3, z4, h2, h⟩ := bd_s h
      refine x_Vi (Rz := (r3, z4)) (As := [.int v2]) (rest := [.int v1]) ⟨hx, hb, hml, hown, hts⟩ hK hP hS (kd_lt k_143 (by decide)) (cell_10 k_143) rfl (m_X10_enviedBy hG   h2) (cwV 1 hts (gV lw_1197 lw_1198 lw_1199 lw_119 lw_1200) rfl rfl rfl (by decide +kernel) (rmd_ok (by decide) (by decide))) rfl hl.1 rfl (Nat.le_of_ble_eq_true rfl) dX11_quarrel_21 ⟨Nat.le_refl _, Nat.le_refl _⟩ (fun H locs hP hS => ?_)
      obtain ⟨r6, z7, h5, h⟩ := bd_s h
      refine x_Si (Rz := (r6, z7)) (As := [.int r3]) (rest := [.int v1]) ⟨hx, hb, hml, hown, hts⟩ hK hP hS (m_J6_bitCount_0f7a4 hG   h5) (va_cwS 1 hts (gS lw_1206 lw_1207 lw_127 lw_1208) rfl rfl rfl (by decide +kernel) (rmd_ok (by decide) (by decide))) rfl hl.1 rfl (Nat.le_of_ble_eq_true rfl) dX11_quarrel_24 ⟨Nat.le_refl _, Nat.le_refl _⟩ (fun H locs hP hS => ?_)
      refine lv_iadd hx hb dX11_quarrel_27 ?_
      obtain ⟨v1_8, e_v1_8, h⟩ := nm_s h
      refine x_top e_v1_8 ?_
      refine lv_istore_n (lv' := [(1, .int v1_8), (0, .ref (G.2.2 0)), (2, .int v2)]) hx hb dX11_quarrel_28 rfl hl (by decide) rfl (fun ls hl => ?_)
      refine lv_iinc (v := (v2 + 1)) (lv' := [(2, .int (v2 + 1)), (1, .int v1_8), (0, .ref (G.2.2 0))]) hx hb dX11_quarrel_29 hl (k := 2) rfl rfl (by decide) rfl (fun ls hl => ?_)
      refine lv_goto (tgt := 4) hx hb dX11_quarrel_32 (by decide) ?_
      exact ih v1_8 (v2 + 1) z7  _ _ _ hP hS (lv_sub hl [2, 1, 0] rfl) h
def fn_X11_quarrel  (z : St) : Option (Int32 × St) := fn_X11_quarrel_4   fu 0 0 z
set_option maxHeartbeats 4000000 in
set_option maxRecDepth 100000 in
theorem m_X11_quarrel {l : Launch} {G : wG} (hG : Ok G)  {z : St} {Rz : Int32 × St}  (h : fn_X11_quarrel   z = some Rz) : Met l yX11_quarrel (wsU yX11_quarrel cX11_quarrel 3 (some .int)) (rmd 7) (va_Pc [.ref (G.2.2 0)] (Pre G z)) (va_Qi (fun r u => (r, u) = Rz) (Pre G) (AW G)) 0 0 (AW G) := by
  refine Met.ofW (cc := cX11_quarrel) (maxL := 3) (ret := (some .int)) (by decide) rfl ?_
  intro p e s m args below meth c s₁ B hml hv
  obtain ⟨rfl, hP, hK⟩ := hv
  have C : CX p s m ([.ref (G.2.2 0)] : List Value).toArray meth c cX11_quarrel 3 (wsU yX11_quarrel cX11_quarrel 3 (some .int)) RX11 (some .int) G := ⟨B.exec, B.bytes, hml, findClass_of_methodNamed B.named, atoms_spec (ws := (wsU yX11_quarrel cX11_quarrel 3 (some .int))) B.pre, B.returns, B.notSynchronized, hK, hG⟩
  obtain ⟨hx, hb, -, hown, hts, hr, hlocks, -, -⟩ := id C
  have hS : va_S (AW G) s.heap s.heap [] := va_S.rf
  have hl := lv_entry [.ref (G.2.2 0)] (n := 3) (Nat.le_of_ble_eq_true rfl)
  rw [lg_entry_eq]
  generalize (lg_sl [.ref (G.2.2 0)] ++ List.replicate (3 - (lg_sl [.ref (G.2.2 0)]).length) Slot.unset).toArray = ls at hl ⊢
  have hl : lv_has ls 3 [(0, .ref (G.2.2 0))] := hl
  unfold fn_X11_quarrel at h
  refine lv_iconst (v := 0) hx hb dX11_quarrel_0 (by decide) ?_
  refine lv_istore_n (lv' := [(1, .int 0), (0, .ref (G.2.2 0))]) hx hb dX11_quarrel_1 rfl hl (by decide) rfl (fun ls hl => ?_)
  refine lv_iconst (v := 0) hx hb dX11_quarrel_2 (by decide) ?_
  refine lv_istore_n (lv' := [(2, .int 0), (1, .int 0), (0, .ref (G.2.2 0))]) hx hb dX11_quarrel_3 rfl hl (by decide) rfl (fun ls hl => ?_)
  exact pf_X11_quarrel_4 C   fu 0 0 z  _ _ _ hP hS (lv_sub hl [2, 1, 0] rfl) h
def fn_X11_calm (v1 : Int32) (z : St) : Option (Int32 × St) := bd (fn_X10_findCalm   z) (fun r2 z3 => (if r2 = 0 then some ((-1), z3) else (if v1 = 0 then some ((z3.1 143 4), z3) else (if v1 = 1 then some ((z3.1 143 5), z3) else (if v1 = 2 then some ((z3.1 143 6), z3) else (some ((-1), z3)))))))
set_option maxHeartbeats 4000000 in
set_option maxRecDepth 100000 in
theorem m_X11_calm {l : Launch} {G : wG} (hG : Ok G) {v1 : Int32} {z : St} {Rz : Int32 × St}  (h : fn_X11_calm  v1 z = some Rz) : Met l yX11_calm (wsU yX11_calm cX11_calm 2 (some .int)) (rmd 7) (va_Pc [.ref (G.2.2 0), .int v1] (Pre G z)) (va_Qi (fun r u => (r, u) = Rz) (Pre G) (AW G)) 0 0 (AW G) := by
  refine Met.ofW (cc := cX11_calm) (maxL := 2) (ret := (some .int)) (by decide) rfl ?_
  intro p e s m args below meth c s₁ B hml hv
  obtain ⟨rfl, hP, hK⟩ := hv
  have C : CX p s m ([.ref (G.2.2 0), .int v1] : List Value).toArray meth c cX11_calm 2 (wsU yX11_calm cX11_calm 2 (some .int)) RX11 (some .int) G := ⟨B.exec, B.bytes, hml, findClass_of_methodNamed B.named, atoms_spec (ws := (wsU yX11_calm cX11_calm 2 (some .int))) B.pre, B.returns, B.notSynchronized, hK, hG⟩
  obtain ⟨hx, hb, -, hown, hts, hr, hlocks, -, -⟩ := id C
  have hS : va_S (AW G) s.heap s.heap [] := va_S.rf
  have hl := lv_entry [.ref (G.2.2 0), .int v1] (n := 2) (Nat.le_of_ble_eq_true rfl)
  rw [lg_entry_eq]
  generalize (lg_sl [.ref (G.2.2 0), .int v1] ++ List.replicate (2 - (lg_sl [.ref (G.2.2 0), .int v1]).length) Slot.unset).toArray = ls at hl ⊢
  have hl : lv_has ls 2 [(0, .ref (G.2.2 0)), (1, .int v1)] := hl
  unfold fn_X11_calm at h
  refine lv_aload_n hx hb dX11_calm_0 rfl (lv_at hl 0 rfl) ?_
  refine ge_11_7 hx hb hts (inU inW_X11) hown hK hP k_0 (hts _ (List.mem_cons_of_mem _ lw_710)) dX11_calm_1 ?_
  obtain ⟨r2, z3, h1, h⟩ := bd_s h
  refine x_Vi (Rz := (r2, z3)) (As := []) (rest := []) ⟨hx, hb, hml, hown, hts⟩ hK hP hS (kd_lt k_143 (by decide)) (cell_10 k_143) rfl (m_X10_findCalm hG   h1) (cwV 0 hts (gV lw_1216 lw_1217 lw_1218 lw_119 lw_1219) rfl rfl rfl (by decide +kernel) (rmd_ok (by decide) (by decide))) rfl hl.1 rfl (Nat.le_of_ble_eq_true rfl) dX11_calm_4 ⟨Nat.le_refl _, Nat.le_refl _⟩ (fun H locs hP hS => ?_)
  refine lv_if_ne (tgt := 12) hx hb dX11_calm_7 (by decide) (fun c4 => ?_) (fun c4 => ?_)
  · rw [if_neg c4] at h
    refine lv_iload_n hx hb dX11_calm_12 rfl (lv_at hl 1 rfl) ?_
    by_cases c5 : v1 = 0
    · rw [if_pos c5] at h
      refine lv_tableIn (off := 27) (tgt := 40) hx hb dX11_calm_13 (by rw [c5]; decide) (by rw [c5]; decide) (by rw [c5]; rfl) (by decide) ?_
      refine lv_aload_n hx hb dX11_calm_40 rfl (lv_at hl 0 rfl) ?_
      refine ge_11_7 hx hb hts (inU inW_X11) hown hK hP k_0 (hts _ (List.mem_cons_of_mem _ lw_710)) dX11_calm_41 ?_
      refine ge_10_4 hx hb hts (inU inW_X10) hown hK hP k_143 (hts _ (List.mem_cons_of_mem _ lw_459)) dX11_calm_44 ?_
      exact x_iret hx hb hr hlocks hK hP hS h dX11_calm_47
    rw [if_neg c5] at h
    by_cases c6 : v1 = 1
    · rw [if_pos c6] at h
      refine lv_tableIn (off := 35) (tgt := 48) hx hb dX11_calm_13 (by rw [c6]; decide) (by rw [c6]; decide) (by rw [c6]; rfl) (by decide) ?_
      refine lv_aload_n hx hb dX11_calm_48 rfl (lv_at hl 0 rfl) ?_
      refine ge_11_7 hx hb hts (inU inW_X11) hown hK hP k_0 (hts _ (List.mem_cons_of_mem _ lw_710)) dX11_calm_49 ?_
      refine ge_10_5 hx hb hts (inU inW_X10) hown hK hP k_143 (hts _ (List.mem_cons_of_mem _ lw_461)) dX11_calm_52 ?_
      exact x_iret hx hb hr hlocks hK hP hS h dX11_calm_55
    rw [if_neg c6] at h
    by_cases c7 : v1 = 2
    · rw [if_pos c7] at h
      refine lv_tableIn (off := 43) (tgt := 56) hx hb dX11_calm_13 (by rw [c7]; decide) (by rw [c7]; decide) (by rw [c7]; rfl) (by decide) ?_
      refine lv_aload_n hx hb dX11_calm_56 rfl (lv_at hl 0 rfl) ?_
      refine ge_11_7 hx hb hts (inU inW_X11) hown hK hP k_0 (hts _ (List.mem_cons_of_mem _ lw_710)) dX11_calm_57 ?_
      refine ge_10_6 hx hb hts (inU inW_X10) hown hK hP k_143 (hts _ (List.mem_cons_of_mem _ lw_463)) dX11_calm_60 ?_
      exact x_iret hx hb hr hlocks hK hP hS h dX11_calm_63
    rw [if_neg c7] at h
    have n8 : (v1 : Int32).toInt < 0 ∨ 2 < (v1 : Int32).toInt := by
      have c5_n := lv_neT (a := 0) c5 (by decide)
      have c6_n := lv_neT (a := 1) c6 (by decide)
      have c7_n := lv_neT (a := 2) c7 (by decide)
      omega
    refine lv_tableOut (tgt := 64) hx hb dX11_calm_13 n8 (by decide) ?_
    refine lv_iconst (v := (-1)) hx hb dX11_calm_64 (by decide) ?_
    exact x_iret hx hb hr hlocks hK hP hS h dX11_calm_65
  · rw [if_pos c4] at h
    refine lv_iconst (v := (-1)) hx hb dX11_calm_10 (by decide) ?_
    exact x_iret hx hb hr hlocks hK hP hS h dX11_calm_11
