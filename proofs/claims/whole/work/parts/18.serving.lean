def fn_X8_feeders_71 (k15 : Int32 → Int32 → Int32 → St → Option (Int32 × St)) (v1 : Int32) (v2 : Int32) (v3 : Int32) (z : St) : Option (Int32 × St) := k15 v1 v2 (v3 + 1) z
set_option maxHeartbeats 4000000 in
set_option maxRecDepth 100000 in
theorem pf_X8_feeders_71 {p : Program} {l : Launch} {e : Env} {s : State} {m : MethodId} {args : Array Value} {below : List Frame} {meth : Method} {c : Code} {G : wG} (C : CX p s m args meth c cX8_feeders 4 (wsU yX8_feeders cX8_feeders 4 (some .int)) RX8 (some .int) G) {Rz : Int32 × St} {k15 : Int32 → Int32 → Int32 → St → Option (Int32 × St)} (hk_15 : ∀ (v1 : Int32) (v2 : Int32) (v3 : Int32) (z : St)  (H : Heap) (locs : List Loc) (ls : Array Slot), WP G z H → va_S (AW G) s.heap H locs → lv_has ls 4 [(0, .ref (G.2.2 153)), (1, .int v1), (2, .int v2), (3, .int v3)] → k15 v1 v2 v3 z = some Rz → W p l e (rmd 3) s m args below meth c H locs 0 0 (QI below args s G Rz) (F0 m 15 ls [])) (v1 : Int32) (v2 : Int32) (v3 : Int32) (z : St)  {H : Heap} {locs : List Loc} {ls : Array Slot} (hP : WP G z H) (hS : va_S (AW G) s.heap H locs) (hl : lv_has ls 4 [(0, .ref (G.2.2 153)), (1, .int v1), (2, .int v2), (3, .int v3)]) (h : fn_X8_feeders_71  k15 v1 v2 v3 z = some Rz) : W p l e (rmd 3) s m args below meth c H locs 0 0 (QI below args s G Rz) (F0 m 71 ls []) := by
  obtain ⟨hx, hb, hml, hown, hts, hr, hlocks, hK, hG⟩ := id C
  unfold fn_X8_feeders_71 at h
  refine lv_iinc (v := (v3 + 1)) (lv' := [(3, .int (v3 + 1)), (0, .ref (G.2.2 153)), (1, .int v1), (2, .int v2)]) hx hb dX8_feeders_71 hl (k := 3) rfl rfl (by decide) rfl (fun ls hl => ?_)
  refine lv_goto (tgt := 15) hx hb dX8_feeders_74 (by decide) ?_
  exact hk_15 v1 v2 (v3 + 1) z  _ _ _ hP hS (lv_sub hl [1, 2, 3, 0] rfl) h
def fn_X8_feeders_15 : Nat → Int32 → Int32 → Int32 → St → Option (Int32 × St)
  | 0, _, _, _, _ => none
  | n + 1, v1, v2, v3, z => (if (z.1 34 2) ≤ v3 then some (v2, z) else bd (fn_X1_isFree  34 v3 z) (fun r3 z4 => (if r3 = 0 then fn_X8_feeders_71  (fn_X8_feeders_15   n) v1 v2 v3 z4 else gd (ix v3 24) (bd (fn_X7_areaOf  2 (35 + 1 + (Int32.toNatClampNeg v3)) z4) (fun r8 z9 => gd (ix v1 6) ((if r8 < (z9.1 8 (Int32.toNatClampNeg v1)) then fn_X8_feeders_71  (fn_X8_feeders_15   n) v1 v2 v3 z9 else nm (v2 ||| (1 <<< (v3 &&& 31))) (fun v2_12 => fn_X8_feeders_71  (fn_X8_feeders_15   n) v1 v2_12 v3 z9))))))))
set_option maxHeartbeats 4000000 in
set_option maxRecDepth 100000 in
theorem pf_X8_feeders_15 {p : Program} {l : Launch} {e : Env} {s : State} {m : MethodId} {args : Array Value} {below : List Frame} {meth : Method} {c : Code} {G : wG} (C : CX p s m args meth c cX8_feeders 4 (wsU yX8_feeders cX8_feeders 4 (some .int)) RX8 (some .int) G) {Rz : Int32 × St} : ∀ (n : Nat) (v1 : Int32) (v2 : Int32) (v3 : Int32) (z : St)  (H : Heap) (locs : List Loc) (ls : Array Slot), WP G z H → va_S (AW G) s.heap H locs → lv_has ls 4 [(0, .ref (G.2.2 153)), (1, .int v1), (2, .int v2), (3, .int v3)] → fn_X8_feeders_15   n v1 v2 v3 z = some Rz → W p l e (rmd 3) s m args below meth c H locs 0 0 (QI below args s G Rz) (F0 m 15 ls []) := by
  obtain ⟨hx, hb, hml, hown, hts, hr, hlocks, hK, hG⟩ := id C
  intro n
  induction n with
  | zero => intro v1 v2 v3 z  H locs ls hP hS hl h; cases h
  | succ n ih =>
    intro v1 v2 v3 z  H locs ls hP hS hl h
    rw [fn_X8_feeders_15] at h
    refine lv_iload_n hx hb dX8_feeders_15 rfl (lv_at hl 3 rfl) ?_
    refine lv_aload_n hx hb dX8_feeders_16 rfl (lv_at hl 0 rfl) ?_
    refine ge_8_1 hx hb hts (inU inW_X8) hown hK hP k_153 (hts _ (List.mem_cons_of_mem _ lw_528)) dX8_feeders_17 ?_
    refine ge_1_2 hx hb hts (inU inW_X1) hown hK hP k_34 (hts _ (List.mem_cons_of_mem _ lw_422)) dX8_feeders_20 ?_
    refine lv_icmp_ge (tgt := 77) hx hb dX8_feeders_23 (by decide) (fun c1 => ?_) (fun c1 => ?_)
    · rw [if_pos c1] at h
      refine lv_iload_n hx hb dX8_feeders_77 rfl (lv_at hl 2 rfl) ?_
      exact x_iret hx hb hr hlocks hK hP hS h dX8_feeders_78
    · rw [if_neg c1] at h
      refine lv_aload_n hx hb dX8_feeders_26 rfl (lv_at hl 0 rfl) ?_
      refine ge_8_1 hx hb hts (inU inW_X8) hown hK hP k_153 (hts _ (List.mem_cons_of_mem _ lw_528)) dX8_feeders_27 ?_
      refine lv_iload_n hx hb dX8_feeders_30 rfl (lv_at hl 3 rfl) ?_
      obtain ⟨r3, z4, h2, h⟩ := bd_s h
      refine x_Vi (Rz := (r3, z4)) (As := [.int v3]) (rest := []) ⟨hx, hb, hml, hown, hts⟩ hK hP hS (kd_lt k_34 (by decide)) (cell_1 k_34) rfl (m_X1_isFree hG  k_34 h2) (cwV 1 hts (gV lw_1135 lw_1010 lw_1011 lw_117 lw_1012) rfl rfl rfl (by decide +kernel) (rmd_ok (by decide) (by decide))) rfl hl.1 rfl (Nat.le_of_ble_eq_true rfl) dX8_feeders_31 ⟨Nat.le_refl _, Nat.le_refl _⟩ (fun H locs hP hS => ?_)
      refine lv_if_eq (tgt := 71) hx hb dX8_feeders_34 (by decide) (fun c5 => ?_) (fun c5 => ?_)
      · rw [if_pos c5] at h
        exact pf_X8_feeders_71 C  ih v1 v2 v3 z4  hP hS (lv_sub hl [0, 1, 2, 3] rfl) h
      · rw [if_neg c5] at h
        refine lv_aload_n hx hb dX8_feeders_37 rfl (lv_at hl 0 rfl) ?_
        refine ge_8_0 hx hb hts (inU inW_X8) hown hK hP k_153 (hts _ (List.mem_cons_of_mem _ lw_527)) dX8_feeders_38 ?_
        refine lv_aload_n hx hb dX8_feeders_41 rfl (lv_at hl 0 rfl) ?_
        refine ge_8_1 hx hb hts (inU inW_X8) hown hK hP k_153 (hts _ (List.mem_cons_of_mem _ lw_528)) dX8_feeders_42 ?_
        refine ge_1_0 hx hb hts (inU inW_X1) hown hK hP k_34 (hts _ (List.mem_cons_of_mem _ lw_414)) dX8_feeders_45 ?_
        refine lv_iload_n hx hb dX8_feeders_48 rfl (lv_at hl 3 rfl) ?_
        obtain ⟨g6, h⟩ := gd_s h
        refine xl_18 hx hb hK hP k_35 l_35 (ix_in g6) dX8_feeders_49 ?_
        obtain ⟨r8, z9, h7, h⟩ := bd_s h
        refine x_Vi (Rz := (r8, z9)) (As := [.ref (G.2.2 (35 + 1 + (Int32.toNatClampNeg v3)))]) (rest := []) ⟨hx, hb, hml, hown, hts⟩ hK hP hS (kd_lt k_2 (by decide)) (cell_7 k_2) rfl (m_X7_areaOf hG  k_2 (ke_18 k_35 (ix_lt g6)) h7) (cwV 1 hts (gV lw_1136 lw_947 lw_948 lw_110 lw_949) rfl rfl rfl (by decide +kernel) (rmd_ok (by decide) (by decide))) rfl hl.1 rfl (Nat.le_of_ble_eq_true rfl) dX8_feeders_50 ⟨Nat.le_refl _, Nat.le_refl _⟩ (fun H locs hP hS => ?_)
        refine lv_aload_n hx hb dX8_feeders_53 rfl (lv_at hl 0 rfl) ?_
        refine ge_8_0 hx hb hts (inU inW_X8) hown hK hP k_153 (hts _ (List.mem_cons_of_mem _ lw_527)) dX8_feeders_54 ?_
        refine ge_7_7 hx hb hts (inU inW_X7) hown hK hP k_2 (hts _ (List.mem_cons_of_mem _ lw_203)) dX8_feeders_57 ?_
        refine lv_iload_n hx hb dX8_feeders_60 rfl (lv_at hl 1 rfl) ?_
        obtain ⟨g10, h⟩ := gd_s h
        refine xl_14 hx hb hK hP k_8 l_8 (ix_in g10) dX8_feeders_61 ?_
        refine lv_icmp_lt (tgt := 71) hx hb dX8_feeders_62 (by decide) (fun c11 => ?_) (fun c11 => ?_)
        · rw [if_pos c11] at h
          exact pf_X8_feeders_71 C  ih v1 v2 v3 z9  hP hS (lv_sub hl [0, 1, 2, 3] rfl) h
        · rw [if_neg c11] at h
          refine lv_iload_n hx hb dX8_feeders_65 rfl (lv_at hl 2 rfl) ?_
          refine lv_iconst (v := 1) hx hb dX8_feeders_66 (by decide) ?_
          refine lv_iload_n hx hb dX8_feeders_67 rfl (lv_at hl 3 rfl) ?_
          refine lv_ishl hx hb dX8_feeders_68 ?_
          refine lv_ior hx hb dX8_feeders_69 ?_
          obtain ⟨v2_12, e_v2_12, h⟩ := nm_s h
          refine x_top e_v2_12 ?_
          refine lv_istore_n (lv' := [(2, .int v2_12), (0, .ref (G.2.2 153)), (1, .int v1), (3, .int v3)]) hx hb dX8_feeders_70 rfl hl (by decide) rfl (fun ls hl => ?_)
          exact pf_X8_feeders_71 C  ih v1 v2_12 v3 z9  hP hS (lv_sub hl [1, 2, 0, 3] rfl) h
def fn_X8_feeders (v1 : Int32) (z : St) : Option (Int32 × St) := bd (fn_X7_isGuest  2 v1 z) (fun r2 z3 => (if r2 = 0 then some (0, z3) else fn_X8_feeders_15   fu v1 0 0 z3))
set_option maxHeartbeats 4000000 in
set_option maxRecDepth 100000 in
theorem m_X8_feeders {l : Launch} {G : wG} (hG : Ok G) {v1 : Int32} {z : St} {Rz : Int32 × St}  (h : fn_X8_feeders  v1 z = some Rz) : Met l yX8_feeders (wsU yX8_feeders cX8_feeders 4 (some .int)) (rmd 3) (va_Pc [.ref (G.2.2 153), .int v1] (Pre G z)) (va_Qi (fun r u => (r, u) = Rz) (Pre G) (AW G)) 0 0 (AW G) := by
  refine Met.ofW (cc := cX8_feeders) (maxL := 4) (ret := (some .int)) (by decide) rfl ?_
  intro p e s m args below meth c s₁ B hml hv
  obtain ⟨rfl, hP, hK⟩ := hv
  have C : CX p s m ([.ref (G.2.2 153), .int v1] : List Value).toArray meth c cX8_feeders 4 (wsU yX8_feeders cX8_feeders 4 (some .int)) RX8 (some .int) G := ⟨B.exec, B.bytes, hml, findClass_of_methodNamed B.named, atoms_spec (ws := (wsU yX8_feeders cX8_feeders 4 (some .int))) B.pre, B.returns, B.notSynchronized, hK, hG⟩
  obtain ⟨hx, hb, -, hown, hts, hr, hlocks, -, -⟩ := id C
  have hS : va_S (AW G) s.heap s.heap [] := va_S.rf
  have hl := lv_entry [.ref (G.2.2 153), .int v1] (n := 4) (Nat.le_of_ble_eq_true rfl)
  rw [lg_entry_eq]
  generalize (lg_sl [.ref (G.2.2 153), .int v1] ++ List.replicate (4 - (lg_sl [.ref (G.2.2 153), .int v1]).length) Slot.unset).toArray = ls at hl ⊢
  have hl : lv_has ls 4 [(0, .ref (G.2.2 153)), (1, .int v1)] := hl
  unfold fn_X8_feeders at h
  refine lv_iconst (v := 0) hx hb dX8_feeders_0 (by decide) ?_
  refine lv_istore_n (lv' := [(2, .int 0), (0, .ref (G.2.2 153)), (1, .int v1)]) hx hb dX8_feeders_1 rfl hl (by decide) rfl (fun ls hl => ?_)
  refine lv_aload_n hx hb dX8_feeders_2 rfl (lv_at hl 1 rfl) ?_
  refine ge_8_0 hx hb hts (inU inW_X8) hown hK hP k_153 (hts _ (List.mem_cons_of_mem _ lw_527)) dX8_feeders_3 ?_
  refine lv_iload_n hx hb dX8_feeders_6 rfl (lv_at hl 2 rfl) ?_
  obtain ⟨r2, z3, h1, h⟩ := bd_s h
  refine x_Vi (Rz := (r2, z3)) (As := [.int v1]) (rest := []) ⟨hx, hb, hml, hown, hts⟩ hK hP hS (kd_lt k_2 (by decide)) (cell_7 k_2) rfl (m_X7_isGuest hG  k_2 h1) (cwV 1 hts (gV lw_1134 lw_963 lw_964 lw_110 lw_965) rfl rfl rfl (by decide +kernel) (rmd_ok (by decide) (by decide))) rfl hl.1 rfl (Nat.le_of_ble_eq_true rfl) dX8_feeders_7 ⟨Nat.le_refl _, Nat.le_refl _⟩ (fun H locs hP hS => ?_)
  refine lv_if_eq (tgt := 77) hx hb dX8_feeders_10 (by decide) (fun c4 => ?_) (fun c4 => ?_)
  · rw [if_pos c4] at h
    refine lv_iload_n hx hb dX8_feeders_77 rfl (lv_at hl 0 rfl) ?_
    exact x_iret hx hb hr hlocks hK hP hS h dX8_feeders_78
  · rw [if_neg c4] at h
    refine lv_iconst (v := 0) hx hb dX8_feeders_13 (by decide) ?_
    refine lv_istore_n (lv' := [(3, .int 0), (2, .int 0), (0, .ref (G.2.2 153)), (1, .int v1)]) hx hb dX8_feeders_14 rfl hl (by decide) rfl (fun ls hl => ?_)
    exact pf_X8_feeders_15 C   fu v1 0 0 z3  _ _ _ hP hS (lv_sub hl [2, 3, 1, 0] rfl) h
def fn_X8_matched_25 (k4 : Int32 → Int32 → St → Option (Int32 × St)) (v1 : Int32) (v2 : Int32) (z : St) : Option (Int32 × St) := k4 v1 (v2 + 1) z
set_option maxHeartbeats 4000000 in
set_option maxRecDepth 100000 in
theorem pf_X8_matched_25 {p : Program} {l : Launch} {e : Env} {s : State} {m : MethodId} {args : Array Value} {below : List Frame} {meth : Method} {c : Code} {G : wG} (C : CX p s m args meth c cX8_matched 3 (wsU yX8_matched cX8_matched 3 (some .int)) RX8 (some .int) G) {Rz : Int32 × St} {k4 : Int32 → Int32 → St → Option (Int32 × St)} (hk_4 : ∀ (v1 : Int32) (v2 : Int32) (z : St)  (H : Heap) (locs : List Loc) (ls : Array Slot), WP G z H → va_S (AW G) s.heap H locs → lv_has ls 3 [(0, .ref (G.2.2 153)), (1, .int v1), (2, .int v2)] → k4 v1 v2 z = some Rz → W p l e (rmd 1) s m args below meth c H locs 0 0 (QI below args s G Rz) (F0 m 4 ls [])) (v1 : Int32) (v2 : Int32) (z : St)  {H : Heap} {locs : List Loc} {ls : Array Slot} (hP : WP G z H) (hS : va_S (AW G) s.heap H locs) (hl : lv_has ls 3 [(0, .ref (G.2.2 153)), (1, .int v1), (2, .int v2)]) (h : fn_X8_matched_25  k4 v1 v2 z = some Rz) : W p l e (rmd 1) s m args below meth c H locs 0 0 (QI below args s G Rz) (F0 m 25 ls []) := by
  obtain ⟨hx, hb, hml, hown, hts, hr, hlocks, hK, hG⟩ := id C
  unfold fn_X8_matched_25 at h
  refine lv_iinc (v := (v2 + 1)) (lv' := [(2, .int (v2 + 1)), (0, .ref (G.2.2 153)), (1, .int v1)]) hx hb dX8_matched_25 hl (k := 2) rfl rfl (by decide) rfl (fun ls hl => ?_)
  refine lv_goto (tgt := 4) hx hb dX8_matched_28 (by decide) ?_
  exact hk_4 v1 (v2 + 1) z  _ _ _ hP hS (lv_sub hl [1, 2, 0] rfl) h
def fn_X8_matched_4 : Nat → Int32 → Int32 → St → Option (Int32 × St)
  | 0, _, _, _ => none
  | n + 1, v1, v2, z => (if (z.1 153 4) ≤ v2 then some (v1, z) else gd (ix v2 6) ((if (z.1 155 (Int32.toNatClampNeg v2)) ≤ v1 then fn_X8_matched_25  (fn_X8_matched_4   n) v1 v2 z else fn_X8_matched_25  (fn_X8_matched_4   n) (v1 + 1) v2 z)))
set_option maxHeartbeats 4000000 in
set_option maxRecDepth 100000 in
theorem pf_X8_matched_4 {p : Program} {l : Launch} {e : Env} {s : State} {m : MethodId} {args : Array Value} {below : List Frame} {meth : Method} {c : Code} {G : wG} (C : CX p s m args meth c cX8_matched 3 (wsU yX8_matched cX8_matched 3 (some .int)) RX8 (some .int) G) {Rz : Int32 × St} : ∀ (n : Nat) (v1 : Int32) (v2 : Int32) (z : St)  (H : Heap) (locs : List Loc) (ls : Array Slot), WP G z H → va_S (AW G) s.heap H locs → lv_has ls 3 [(0, .ref (G.2.2 153)), (1, .int v1), (2, .int v2)] → fn_X8_matched_4   n v1 v2 z = some Rz → W p l e (rmd 1) s m args below meth c H locs 0 0 (QI below args s G Rz) (F0 m 4 ls []) := by
  obtain ⟨hx, hb, hml, hown, hts, hr, hlocks, hK, hG⟩ := id C
  intro n
  induction n with
  | zero => intro v1 v2 z  H locs ls hP hS hl h; cases h
  | succ n ih =>
    intro v1 v2 z  H locs ls hP hS hl h
    rw [fn_X8_matched_4] at h
    refine lv_iload_n hx hb dX8_matched_4 rfl (lv_at hl 2 rfl) ?_
    refine lv_aload_n hx hb dX8_matched_5 rfl (lv_at hl 0 rfl) ?_
    refine ge_8_4 hx hb hts (inU inW_X8) hown hK hP k_153 (hts _ (List.mem_cons_of_mem _ lw_531)) dX8_matched_6 ?_
    refine lv_icmp_ge (tgt := 31) hx hb dX8_matched_9 (by decide) (fun c1 => ?_) (fun c1 => ?_)
    · rw [if_pos c1] at h
      refine lv_iload_n hx hb dX8_matched_31 rfl (lv_at hl 1 rfl) ?_
      exact x_iret hx hb hr hlocks hK hP hS h dX8_matched_32
    · rw [if_neg c1] at h
      refine lv_aload_n hx hb dX8_matched_12 rfl (lv_at hl 0 rfl) ?_
      refine ge_8_3 hx hb hts (inU inW_X8) hown hK hP k_153 (hts _ (List.mem_cons_of_mem _ lw_530)) dX8_matched_13 ?_
      refine lv_iload_n hx hb dX8_matched_16 rfl (lv_at hl 2 rfl) ?_
      obtain ⟨g2, h⟩ := gd_s h
      refine xl_14 hx hb hK hP k_155 l_155 (ix_in g2) dX8_matched_17 ?_
      refine lv_iload_n hx hb dX8_matched_18 rfl (lv_at hl 1 rfl) ?_
      refine lv_icmp_le (tgt := 25) hx hb dX8_matched_19 (by decide) (fun c3 => ?_) (fun c3 => ?_)
      · rw [if_pos c3] at h
        exact pf_X8_matched_25 C  ih v1 v2 z  hP hS (lv_sub hl [0, 1, 2] rfl) h
      · rw [if_neg c3] at h
        refine lv_iinc (v := (v1 + 1)) (lv' := [(1, .int (v1 + 1)), (0, .ref (G.2.2 153)), (2, .int v2)]) hx hb dX8_matched_22 hl (k := 1) rfl rfl (by decide) rfl (fun ls hl => ?_)
        exact pf_X8_matched_25 C  ih (v1 + 1) v2 z  hP hS (lv_sub hl [1, 0, 2] rfl) h
def fn_X8_matched  (z : St) : Option (Int32 × St) := fn_X8_matched_4   fu 0 0 z
set_option maxHeartbeats 4000000 in
set_option maxRecDepth 100000 in
theorem m_X8_matched {l : Launch} {G : wG} (hG : Ok G)  {z : St} {Rz : Int32 × St}  (h : fn_X8_matched   z = some Rz) : Met l yX8_matched (wsU yX8_matched cX8_matched 3 (some .int)) (rmd 1) (va_Pc [.ref (G.2.2 153)] (Pre G z)) (va_Qi (fun r u => (r, u) = Rz) (Pre G) (AW G)) 0 0 (AW G) := by
  refine Met.ofW (cc := cX8_matched) (maxL := 3) (ret := (some .int)) (by decide) rfl ?_
  intro p e s m args below meth c s₁ B hml hv
  obtain ⟨rfl, hP, hK⟩ := hv
  have C : CX p s m ([.ref (G.2.2 153)] : List Value).toArray meth c cX8_matched 3 (wsU yX8_matched cX8_matched 3 (some .int)) RX8 (some .int) G := ⟨B.exec, B.bytes, hml, findClass_of_methodNamed B.named, atoms_spec (ws := (wsU yX8_matched cX8_matched 3 (some .int))) B.pre, B.returns, B.notSynchronized, hK, hG⟩
  obtain ⟨hx, hb, -, hown, hts, hr, hlocks, -, -⟩ := id C
  have hS : va_S (AW G) s.heap s.heap [] := va_S.rf
  have hl := lv_entry [.ref (G.2.2 153)] (n := 3) (Nat.le_of_ble_eq_true rfl)
  rw [lg_entry_eq]
  generalize (lg_sl [.ref (G.2.2 153)] ++ List.replicate (3 - (lg_sl [.ref (G.2.2 153)]).length) Slot.unset).toArray = ls at hl ⊢
  have hl : lv_has ls 3 [(0, .ref (G.2.2 153))] := hl
  unfold fn_X8_matched at h
  refine lv_iconst (v := 0) hx hb dX8_matched_0 (by decide) ?_
  refine lv_istore_n (lv' := [(1, .int 0), (0, .ref (G.2.2 153))]) hx hb dX8_matched_1 rfl hl (by decide) rfl (fun ls hl => ?_)
  refine lv_iconst (v := 0) hx hb dX8_matched_2 (by decide) ?_
  refine lv_istore_n (lv' := [(2, .int 0), (1, .int 0), (0, .ref (G.2.2 153))]) hx hb dX8_matched_3 rfl hl (by decide) rfl (fun ls hl => ?_)
  exact pf_X8_matched_4 C   fu 0 0 z  _ _ _ hP hS (lv_sub hl [2, 1, 0] rfl) h
def fn_X8_addWanted_51 (v1 : Int32) (v2 : Int32) (z : St) : Option (St) := gd (ix v2 6) (nm (sI z 154 (Int32.toNatClampNeg v2) v1) (fun z2 => nm (sI z2 153 4 ((z2.1 153 4) + 1)) (fun z3 => some z3)))
set_option maxHeartbeats 4000000 in
set_option maxRecDepth 100000 in
theorem pf_X8_addWanted_51 {p : Program} {l : Launch} {e : Env} {s : State} {m : MethodId} {args : Array Value} {below : List Frame} {meth : Method} {c : Code} {G : wG} (C : CX p s m args meth c cX8_addWanted 3 (wsU yX8_addWanted cX8_addWanted 3 none) RX8 none G) {Rz : St} (v1 : Int32) (v2 : Int32) (z : St)  {H : Heap} {locs : List Loc} {ls : Array Slot} (hP : WP G z H) (hS : va_S (AW G) s.heap H locs) (hl : lv_has ls 3 [(0, .ref (G.2.2 153)), (1, .int v1), (2, .int v2)]) (h : fn_X8_addWanted_51   v1 v2 z = some Rz) : W p l e (rmd 1) s m args below meth c H locs 0 0 (QV below args s G Rz) (F0 m 51 ls []) := by
  obtain ⟨hx, hb, hml, hown, hts, hr, hlocks, hK, hG⟩ := id C
  unfold fn_X8_addWanted_51 at h
  refine lv_aload_n hx hb dX8_addWanted_51 rfl (lv_at hl 0 rfl) ?_
  refine ge_8_2 hx hb hts (inU inW_X8) hown hK hP k_153 (hts _ (List.mem_cons_of_mem _ lw_529)) dX8_addWanted_52 ?_
  refine lv_iload_n hx hb dX8_addWanted_55 rfl (lv_at hl 2 rfl) ?_
  refine lv_iload_n hx hb dX8_addWanted_56 rfl (lv_at hl 1 rfl) ?_
  obtain ⟨g1, h⟩ := gd_s h
  obtain ⟨z2, e_z2, h⟩ := nm_s h
  refine xs_14 hx hb hK hG hP hS k_154 l_154 (ix_in g1) dX8_addWanted_57 (fun H locs hP hS => ?_)
  rw [← e_z2] at hP
  refine lv_aload_n hx hb dX8_addWanted_58 rfl (lv_at hl 0 rfl) ?_
  refine lv_dup hx hb dX8_addWanted_59 rfl ?_
  refine ge_8_4 hx hb hts (inU inW_X8) hown hK hP k_153 (hts _ (List.mem_cons_of_mem _ lw_531)) dX8_addWanted_60 ?_
  refine lv_iconst (v := 1) hx hb dX8_addWanted_63 (by decide) ?_
  refine lv_iadd hx hb dX8_addWanted_64 ?_
  obtain ⟨z3, e_z3, h⟩ := nm_s h
  refine pu_8_4 hx hb hts (inU inW_X8) hown hK hG hP hS k_153 (hts _ (List.mem_cons_of_mem _ lw_531)) dX8_addWanted_65 (fun H locs hP hS => ?_)
  rw [← e_z3] at hP
  exact x_vret hx hb hr hlocks hK hP hS h dX8_addWanted_68
def fn_X8_addWanted_15 : Nat → Int32 → Int32 → St → Option (St)
  | 0, _, _, _ => none
  | n + 1, v1, v2, z => (if v2 ≤ 0 then fn_X8_addWanted_51   v1 v2 z else gd (ix (v2 - 1) 6) ((if v1 ≤ (z.1 154 (Int32.toNatClampNeg (v2 - 1))) then fn_X8_addWanted_51   v1 v2 z else gd (ix (v2 - 1) 6) (gd (ix v2 6) (nm (sI z 154 (Int32.toNatClampNeg v2) (z.1 154 (Int32.toNatClampNeg (v2 - 1)))) (fun z6 => fn_X8_addWanted_15   n v1 (v2 + (-1)) z6))))))
set_option maxHeartbeats 4000000 in
set_option maxRecDepth 100000 in
theorem pf_X8_addWanted_15 {p : Program} {l : Launch} {e : Env} {s : State} {m : MethodId} {args : Array Value} {below : List Frame} {meth : Method} {c : Code} {G : wG} (C : CX p s m args meth c cX8_addWanted 3 (wsU yX8_addWanted cX8_addWanted 3 none) RX8 none G) {Rz : St} : ∀ (n : Nat) (v1 : Int32) (v2 : Int32) (z : St)  (H : Heap) (locs : List Loc) (ls : Array Slot), WP G z H → va_S (AW G) s.heap H locs → lv_has ls 3 [(0, .ref (G.2.2 153)), (1, .int v1), (2, .int v2)] → fn_X8_addWanted_15   n v1 v2 z = some Rz → W p l e (rmd 1) s m args below meth c H locs 0 0 (QV below args s G Rz) (F0 m 15 ls []) := by
  obtain ⟨hx, hb, hml, hown, hts, hr, hlocks, hK, hG⟩ := id C
  intro n
  induction n with
  | zero => intro v1 v2 z  H locs ls hP hS hl h; cases h
  | succ n ih =>
    intro v1 v2 z  H locs ls hP hS hl h
    rw [fn_X8_addWanted_15] at h
    refine lv_iload_n hx hb dX8_addWanted_15 rfl (lv_at hl 2 rfl) ?_
    refine lv_if_le (tgt := 51) hx hb dX8_addWanted_16 (by decide) (fun c1 => ?_) (fun c1 => ?_)
    · rw [if_pos c1] at h
      exact pf_X8_addWanted_51 C   v1 v2 z  hP hS (lv_sub hl [0, 1, 2] rfl) h
    · rw [if_neg c1] at h
      refine lv_aload_n hx hb dX8_addWanted_19 rfl (lv_at hl 0 rfl) ?_
      refine ge_8_2 hx hb hts (inU inW_X8) hown hK hP k_153 (hts _ (List.mem_cons_of_mem _ lw_529)) dX8_addWanted_20 ?_
      refine lv_iload_n hx hb dX8_addWanted_23 rfl (lv_at hl 2 rfl) ?_
      refine lv_iconst (v := 1) hx hb dX8_addWanted_24 (by decide) ?_
      refine lv_isub hx hb dX8_addWanted_25 ?_
      obtain ⟨g2, h⟩ := gd_s h
      refine xl_14 hx hb hK hP k_154 l_154 (ix_in g2) dX8_addWanted_26 ?_
      refine lv_iload_n hx hb dX8_addWanted_27 rfl (lv_at hl 1 rfl) ?_
      refine lv_icmp_ge (tgt := 51) hx hb dX8_addWanted_28 (by decide) (fun c3 => ?_) (fun c3 => ?_)
      · rw [if_pos c3] at h
        exact pf_X8_addWanted_51 C   v1 v2 z  hP hS (lv_sub hl [0, 1, 2] rfl) h
      · rw [if_neg c3] at h
        refine lv_aload_n hx hb dX8_addWanted_31 rfl (lv_at hl 0 rfl) ?_
        refine ge_8_2 hx hb hts (inU inW_X8) hown hK hP k_153 (hts _ (List.mem_cons_of_mem _ lw_529)) dX8_addWanted_32 ?_
        refine lv_iload_n hx hb dX8_addWanted_35 rfl (lv_at hl 2 rfl) ?_
        refine lv_aload_n hx hb dX8_addWanted_36 rfl (lv_at hl 0 rfl) ?_
        refine ge_8_2 hx hb hts (inU inW_X8) hown hK hP k_153 (hts _ (List.mem_cons_of_mem _ lw_529)) dX8_addWanted_37 ?_
        refine lv_iload_n hx hb dX8_addWanted_40 rfl (lv_at hl 2 rfl) ?_
        refine lv_iconst (v := 1) hx hb dX8_addWanted_41 (by decide) ?_
        refine lv_isub hx hb dX8_addWanted_42 ?_
        obtain ⟨g4, h⟩ := gd_s h
        refine xl_14 hx hb hK hP k_154 l_154 (ix_in g4) dX8_addWanted_43 ?_
        obtain ⟨g5, h⟩ := gd_s h
        obtain ⟨z6, e_z6, h⟩ := nm_s h
        refine xs_14 hx hb hK hG hP hS k_154 l_154 (ix_in g5) dX8_addWanted_44 (fun H locs hP hS => ?_)
        rw [← e_z6] at hP
        refine lv_iinc (v := (v2 + (-1))) (lv' := [(2, .int (v2 + (-1))), (0, .ref (G.2.2 153)), (1, .int v1)]) hx hb dX8_addWanted_45 hl (k := 2) rfl rfl (by decide) rfl (fun ls hl => ?_)
        refine lv_goto (tgt := 15) hx hb dX8_addWanted_48 (by decide) ?_
        exact ih v1 (v2 + (-1)) z6  _ _ _ hP hS (lv_sub hl [1, 2, 0] rfl) h
def fn_X8_addWanted (v1 : Int32) (z : St) : Option (St) := (if (z.1 153 4) < 6 then nm (z.1 153 4) (fun v2_2 => fn_X8_addWanted_15   fu v1 v2_2 z) else some z)
set_option maxHeartbeats 4000000 in
set_option maxRecDepth 100000 in
theorem m_X8_addWanted {l : Launch} {G : wG} (hG : Ok G) {v1 : Int32} {z : St} {Rz : St}  (h : fn_X8_addWanted  v1 z = some Rz) : Met l yX8_addWanted (wsU yX8_addWanted cX8_addWanted 3 none) (rmd 1) (va_Pc [.ref (G.2.2 153), .int v1] (Pre G z)) (va_Qv (fun u => u = Rz) (Pre G) (AW G)) 0 0 (AW G) := by
  refine Met.ofW (cc := cX8_addWanted) (maxL := 3) (ret := none) (by decide) rfl ?_
  intro p e s m args below meth c s₁ B hml hv
  obtain ⟨rfl, hP, hK⟩ := hv
  have C : CX p s m ([.ref (G.2.2 153), .int v1] : List Value).toArray meth c cX8_addWanted 3 (wsU yX8_addWanted cX8_addWanted 3 none) RX8 none G := ⟨B.exec, B.bytes, hml, findClass_of_methodNamed B.named, atoms_spec (ws := (wsU yX8_addWanted cX8_addWanted 3 none)) B.pre, B.returns, B.notSynchronized, hK, hG⟩
  obtain ⟨hx, hb, -, hown, hts, hr, hlocks, -, -⟩ := id C
  have hS : va_S (AW G) s.heap s.heap [] := va_S.rf
  have hl := lv_entry [.ref (G.2.2 153), .int v1] (n := 3) (Nat.le_of_ble_eq_true rfl)
  rw [lg_entry_eq]
  generalize (lg_sl [.ref (G.2.2 153), .int v1] ++ List.replicate (3 - (lg_sl [.ref (G.2.2 153), .int v1]).length) Slot.unset).toArray = ls at hl ⊢
  have hl : lv_has ls 3 [(0, .ref (G.2.2 153)), (1, .int v1)] := hl
  unfold fn_X8_addWanted at h
  refine lv_aload_n hx hb dX8_addWanted_0 rfl (lv_at hl 0 rfl) ?_
  refine ge_8_4 hx hb hts (inU inW_X8) hown hK hP k_153 (hts _ (List.mem_cons_of_mem _ lw_531)) dX8_addWanted_1 ?_
  refine lv_bipush (v := 6) hx hb dX8_addWanted_4 (by decide) ?_
  refine lv_icmp_lt (tgt := 10) hx hb dX8_addWanted_6 (by decide) (fun c1 => ?_) (fun c1 => ?_)
  · rw [if_pos c1] at h
    refine lv_aload_n hx hb dX8_addWanted_10 rfl (lv_at hl 0 rfl) ?_
    refine ge_8_4 hx hb hts (inU inW_X8) hown hK hP k_153 (hts _ (List.mem_cons_of_mem _ lw_531)) dX8_addWanted_11 ?_
    obtain ⟨v2_2, e_v2_2, h⟩ := nm_s h
    refine x_top e_v2_2 ?_
    refine lv_istore_n (lv' := [(2, .int v2_2), (0, .ref (G.2.2 153)), (1, .int v1)]) hx hb dX8_addWanted_14 rfl hl (by decide) rfl (fun ls hl => ?_)
    exact pf_X8_addWanted_15 C   fu v1 v2_2 z  _ _ _ hP hS (lv_sub hl [1, 2, 0] rfl) h
  · rw [if_neg c1] at h
    exact x_vret hx hb hr hlocks hK hP hS h dX8_addWanted_9
def fn_X8_count_30 (k2 : Int32 → Int32 → Int32 → St → Option (St)) (v1 : Int32) (v2 : Int32) (v3 : Int32) (z : St) : Option (St) := k2 v1 v2 (v3 + 1) z
set_option maxHeartbeats 4000000 in
set_option maxRecDepth 100000 in
theorem pf_X8_count_30 {p : Program} {l : Launch} {e : Env} {s : State} {m : MethodId} {args : Array Value} {below : List Frame} {meth : Method} {c : Code} {G : wG} (C : CX p s m args meth c cX8_count 4 (wsU yX8_count cX8_count 4 none) RX8 none G) {Rz : St} {k2 : Int32 → Int32 → Int32 → St → Option (St)} (hk_2 : ∀ (v1 : Int32) (v2 : Int32) (v3 : Int32) (z : St)  (H : Heap) (locs : List Loc) (ls : Array Slot), WP G z H → va_S (AW G) s.heap H locs → lv_has ls 4 [(0, .ref (G.2.2 153)), (1, .int v1), (2, .int v2), (3, .int v3)] → k2 v1 v2 v3 z = some Rz → W p l e (rmd 1) s m args below meth c H locs 0 0 (QV below args s G Rz) (F0 m 2 ls [])) (v1 : Int32) (v2 : Int32) (v3 : Int32) (z : St)  {H : Heap} {locs : List Loc} {ls : Array Slot} (hP : WP G z H) (hS : va_S (AW G) s.heap H locs) (hl : lv_has ls 4 [(0, .ref (G.2.2 153)), (1, .int v1), (2, .int v2), (3, .int v3)]) (h : fn_X8_count_30  k2 v1 v2 v3 z = some Rz) : W p l e (rmd 1) s m args below meth c H locs 0 0 (QV below args s G Rz) (F0 m 30 ls []) := by
  obtain ⟨hx, hb, hml, hown, hts, hr, hlocks, hK, hG⟩ := id C
  unfold fn_X8_count_30 at h
  refine lv_iinc (v := (v3 + 1)) (lv' := [(3, .int (v3 + 1)), (0, .ref (G.2.2 153)), (1, .int v1), (2, .int v2)]) hx hb dX8_count_30 hl (k := 3) rfl rfl (by decide) rfl (fun ls hl => ?_)
  refine lv_goto (tgt := 2) hx hb dX8_count_33 (by decide) ?_
  exact hk_2 v1 v2 (v3 + 1) z  _ _ _ hP hS (lv_sub hl [1, 2, 3, 0] rfl) h
def fn_X8_count_2 : Nat → Int32 → Int32 → Int32 → St → Option (St)
  | 0, _, _, _, _ => none
  | n + 1, v1, v2, v3, z => (if (z.1 153 4) ≤ v3 then some z else gd (ix v3 6) ((if v1 < (z.1 154 (Int32.toNatClampNeg v3)) then fn_X8_count_30  (fn_X8_count_2   n) v1 v2 v3 z else gd (ix v3 6) (gd (ix v3 6) (nm (sI z 155 (Int32.toNatClampNeg v3) ((z.1 155 (Int32.toNatClampNeg v3)) + v2)) (fun z6 => fn_X8_count_30  (fn_X8_count_2   n) v1 v2 v3 z6))))))
set_option maxHeartbeats 4000000 in
set_option maxRecDepth 100000 in
theorem pf_X8_count_2 {p : Program} {l : Launch} {e : Env} {s : State} {m : MethodId} {args : Array Value} {below : List Frame} {meth : Method} {c : Code} {G : wG} (C : CX p s m args meth c cX8_count 4 (wsU yX8_count cX8_count 4 none) RX8 none G) {Rz : St} : ∀ (n : Nat) (v1 : Int32) (v2 : Int32) (v3 : Int32) (z : St)  (H : Heap) (locs : List Loc) (ls : Array Slot), WP G z H → va_S (AW G) s.heap H locs → lv_has ls 4 [(0, .ref (G.2.2 153)), (1, .int v1), (2, .int v2), (3, .int v3)] → fn_X8_count_2   n v1 v2 v3 z = some Rz → W p l e (rmd 1) s m args below meth c H locs 0 0 (QV below args s G Rz) (F0 m 2 ls []) := by
  obtain ⟨hx, hb, hml, hown, hts, hr, hlocks, hK, hG⟩ := id C
  intro n
  induction n with
  | zero => intro v1 v2 v3 z  H locs ls hP hS hl h; cases h
  | succ n ih =>
    intro v1 v2 v3 z  H locs ls hP hS hl h
    rw [fn_X8_count_2] at h
    refine lv_iload_n hx hb dX8_count_2 rfl (lv_at hl 3 rfl) ?_
    refine lv_aload_n hx hb dX8_count_3 rfl (lv_at hl 0 rfl) ?_
    refine ge_8_4 hx hb hts (inU inW_X8) hown hK hP k_153 (hts _ (List.mem_cons_of_mem _ lw_531)) dX8_count_4 ?_
    refine lv_icmp_ge (tgt := 36) hx hb dX8_count_7 (by decide) (fun c1 => ?_) (fun c1 => ?_)
    · rw [if_pos c1] at h
      exact x_vret hx hb hr hlocks hK hP hS h dX8_count_36
    · rw [if_neg c1] at h
      refine lv_iload_n hx hb dX8_count_10 rfl (lv_at hl 1 rfl) ?_
      refine lv_aload_n hx hb dX8_count_11 rfl (lv_at hl 0 rfl) ?_
      refine ge_8_2 hx hb hts (inU inW_X8) hown hK hP k_153 (hts _ (List.mem_cons_of_mem _ lw_529)) dX8_count_12 ?_
      refine lv_iload_n hx hb dX8_count_15 rfl (lv_at hl 3 rfl) ?_
      obtain ⟨g2, h⟩ := gd_s h
      refine xl_14 hx hb hK hP k_154 l_154 (ix_in g2) dX8_count_16 ?_
      refine lv_icmp_lt (tgt := 30) hx hb dX8_count_17 (by decide) (fun c3 => ?_) (fun c3 => ?_)
      · rw [if_pos c3] at h
        exact pf_X8_count_30 C  ih v1 v2 v3 z  hP hS (lv_sub hl [0, 1, 2, 3] rfl) h
      · rw [if_neg c3] at h
        refine lv_aload_n hx hb dX8_count_20 rfl (lv_at hl 0 rfl) ?_
        refine ge_8_3 hx hb hts (inU inW_X8) hown hK hP k_153 (hts _ (List.mem_cons_of_mem _ lw_530)) dX8_count_21 ?_
        refine lv_iload_n hx hb dX8_count_24 rfl (lv_at hl 3 rfl) ?_
        refine lv_dup2_11 hx hb dX8_count_25 rfl rfl ?_
        obtain ⟨g4, h⟩ := gd_s h
        refine xl_14 hx hb hK hP k_155 l_155 (ix_in g4) dX8_count_26 ?_
        refine lv_iload_n hx hb dX8_count_27 rfl (lv_at hl 2 rfl) ?_
        refine lv_iadd hx hb dX8_count_28 ?_
        obtain ⟨g5, h⟩ := gd_s h
        obtain ⟨z6, e_z6, h⟩ := nm_s h
        refine xs_14 hx hb hK hG hP hS k_155 l_155 (ix_in g5) dX8_count_29 (fun H locs hP hS => ?_)
        rw [← e_z6] at hP
        exact pf_X8_count_30 C  ih v1 v2 v3 z6  hP hS (lv_sub hl [0, 1, 2, 3] rfl) h
def fn_X8_count (v1 : Int32) (v2 : Int32) (z : St) : Option (St) := fn_X8_count_2   fu v1 v2 0 z
set_option maxHeartbeats 4000000 in
set_option maxRecDepth 100000 in
theorem m_X8_count {l : Launch} {G : wG} (hG : Ok G) {v1 : Int32} {v2 : Int32} {z : St} {Rz : St}  (h : fn_X8_count  v1 v2 z = some Rz) : Met l yX8_count (wsU yX8_count cX8_count 4 none) (rmd 1) (va_Pc [.ref (G.2.2 153), .int v1, .int v2] (Pre G z)) (va_Qv (fun u => u = Rz) (Pre G) (AW G)) 0 0 (AW G) := by
  refine Met.ofW (cc := cX8_count) (maxL := 4) (ret := none) (by decide) rfl ?_
  intro p e s m args below meth c s₁ B hml hv
  obtain ⟨rfl, hP, hK⟩ := hv
  have C : CX p s m ([.ref (G.2.2 153), .int v1, .int v2] : List Value).toArray meth c cX8_count 4 (wsU yX8_count cX8_count 4 none) RX8 none G := ⟨B.exec, B.bytes, hml, findClass_of_methodNamed B.named, atoms_spec (ws := (wsU yX8_count cX8_count 4 none)) B.pre, B.returns, B.notSynchronized, hK, hG⟩
  obtain ⟨hx, hb, -, hown, hts, hr, hlocks, -, -⟩ := id C
  have hS : va_S (AW G) s.heap s.heap [] := va_S.rf
  have hl := lv_entry [.ref (G.2.2 153), .int v1, .int v2] (n := 4) (Nat.le_of_ble_eq_true rfl)
  rw [lg_entry_eq]
  generalize (lg_sl [.ref (G.2.2 153), .int v1, .int v2] ++ List.replicate (4 - (lg_sl [.ref (G.2.2 153), .int v1, .int v2]).length) Slot.unset).toArray = ls at hl ⊢
  have hl : lv_has ls 4 [(0, .ref (G.2.2 153)), (1, .int v1), (2, .int v2)] := hl
  unfold fn_X8_count at h
  refine lv_iconst (v := 0) hx hb dX8_count_0 (by decide) ?_
  refine lv_istore_n (lv' := [(3, .int 0), (0, .ref (G.2.2 153)), (1, .int v1), (2, .int v2)]) hx hb dX8_count_1 rfl hl (by decide) rfl (fun ls hl => ?_)
  exact pf_X8_count_2 C   fu v1 v2 0 z  _ _ _ hP hS (lv_sub hl [1, 2, 3, 0] rfl) h
def fn_X8_prepare_55 (k7 : Int32 → Int32 → Int32 → St → Option (St)) (v1 : Int32) (v2 : Int32) (v3 : Int32) (z : St) : Option (St) := k7 v1 v2 (v3 + 1) z
set_option maxHeartbeats 4000000 in
set_option maxRecDepth 100000 in
theorem pf_X8_prepare_55 {p : Program} {l : Launch} {e : Env} {s : State} {m : MethodId} {args : Array Value} {below : List Frame} {meth : Method} {c : Code} {G : wG} (C : CX p s m args meth c cX8_prepare 4 (wsU yX8_prepare cX8_prepare 4 none) RX8 none G) {Rz : St} {k7 : Int32 → Int32 → Int32 → St → Option (St)} (hk_7 : ∀ (v1 : Int32) (v2 : Int32) (v3 : Int32) (z : St)  (H : Heap) (locs : List Loc) (ls : Array Slot), WP G z H → va_S (AW G) s.heap H locs → lv_has ls 4 [(0, .ref (G.2.2 153)), (1, .int v1), (2, .int v2), (3, .int v3)] → k7 v1 v2 v3 z = some Rz → W p l e (rmd 3) s m args below meth c H locs 0 0 (QV below args s G Rz) (F0 m 7 ls [])) (v1 : Int32) (v2 : Int32) (v3 : Int32) (z : St)  {H : Heap} {locs : List Loc} {ls : Array Slot} (hP : WP G z H) (hS : va_S (AW G) s.heap H locs) (hl : lv_has ls 4 [(0, .ref (G.2.2 153)), (1, .int v1), (2, .int v2), (3, .int v3)]) (h : fn_X8_prepare_55  k7 v1 v2 v3 z = some Rz) : W p l e (rmd 3) s m args below meth c H locs 0 0 (QV below args s G Rz) (F0 m 55 ls []) := by
  obtain ⟨hx, hb, hml, hown, hts, hr, hlocks, hK, hG⟩ := id C
  unfold fn_X8_prepare_55 at h
  refine lv_iinc (v := (v3 + 1)) (lv' := [(3, .int (v3 + 1)), (0, .ref (G.2.2 153)), (1, .int v1), (2, .int v2)]) hx hb dX8_prepare_55 hl (k := 3) rfl rfl (by decide) rfl (fun ls hl => ?_)
  refine lv_goto (tgt := 7) hx hb dX8_prepare_58 (by decide) ?_
  exact hk_7 v1 v2 (v3 + 1) z  _ _ _ hP hS (lv_sub hl [1, 2, 3, 0] rfl) h
def fn_X8_prepare_129 (k86 : Int32 → St → Option (St)) (v3 : Int32) (z : St) : Option (St) := k86 (v3 + 1) z
set_option maxHeartbeats 4000000 in
set_option maxRecDepth 100000 in
theorem pf_X8_prepare_129 {p : Program} {l : Launch} {e : Env} {s : State} {m : MethodId} {args : Array Value} {below : List Frame} {meth : Method} {c : Code} {G : wG} (C : CX p s m args meth c cX8_prepare 4 (wsU yX8_prepare cX8_prepare 4 none) RX8 none G) {Rz : St} {k86 : Int32 → St → Option (St)} (hk_86 : ∀ (v3 : Int32) (z : St)  (H : Heap) (locs : List Loc) (ls : Array Slot), WP G z H → va_S (AW G) s.heap H locs → lv_has ls 4 [(0, .ref (G.2.2 153)), (3, .int v3)] → k86 v3 z = some Rz → W p l e (rmd 3) s m args below meth c H locs 0 0 (QV below args s G Rz) (F0 m 86 ls [])) (v3 : Int32) (z : St)  {H : Heap} {locs : List Loc} {ls : Array Slot} (hP : WP G z H) (hS : va_S (AW G) s.heap H locs) (hl : lv_has ls 4 [(0, .ref (G.2.2 153)), (3, .int v3)]) (h : fn_X8_prepare_129  k86 v3 z = some Rz) : W p l e (rmd 3) s m args below meth c H locs 0 0 (QV below args s G Rz) (F0 m 129 ls []) := by
  obtain ⟨hx, hb, hml, hown, hts, hr, hlocks, hK, hG⟩ := id C
  unfold fn_X8_prepare_129 at h
  refine lv_iinc (v := (v3 + 1)) (lv' := [(3, .int (v3 + 1)), (0, .ref (G.2.2 153))]) hx hb dX8_prepare_129 hl (k := 1) rfl rfl (by decide) rfl (fun ls hl => ?_)
  refine lv_goto (tgt := 86) hx hb dX8_prepare_132 (by decide) ?_
  exact hk_86 (v3 + 1) z  _ _ _ hP hS (lv_sub hl [1, 0] rfl) h
def fn_X8_prepare_86 : Nat → Int32 → St → Option (St)
  | 0, _, _ => none
  | n + 1, v3, z => (if (z.1 34 2) ≤ v3 then some z else bd (fn_X1_isFree  34 v3 z) (fun r3 z4 => (if r3 = 0 then fn_X8_prepare_129  (fn_X8_prepare_86   n) v3 z4 else gd (ix v3 24) (bd (fn_X7_areaOf  2 (35 + 1 + (Int32.toNatClampNeg v3)) z4) (fun r8 z9 => bv (fn_X8_count  r8 1 z9) (fun z11 => fn_X8_prepare_129  (fn_X8_prepare_86   n) v3 z11))))))
set_option maxHeartbeats 4000000 in
set_option maxRecDepth 100000 in
theorem pf_X8_prepare_86 {p : Program} {l : Launch} {e : Env} {s : State} {m : MethodId} {args : Array Value} {below : List Frame} {meth : Method} {c : Code} {G : wG} (C : CX p s m args meth c cX8_prepare 4 (wsU yX8_prepare cX8_prepare 4 none) RX8 none G) {Rz : St} : ∀ (n : Nat) (v3 : Int32) (z : St)  (H : Heap) (locs : List Loc) (ls : Array Slot), WP G z H → va_S (AW G) s.heap H locs → lv_has ls 4 [(0, .ref (G.2.2 153)), (3, .int v3)] → fn_X8_prepare_86   n v3 z = some Rz → W p l e (rmd 3) s m args below meth c H locs 0 0 (QV below args s G Rz) (F0 m 86 ls []) := by
  obtain ⟨hx, hb, hml, hown, hts, hr, hlocks, hK, hG⟩ := id C
  intro n
  induction n with
  | zero => intro v3 z  H locs ls hP hS hl h; cases h
  | succ n ih =>
    intro v3 z  H locs ls hP hS hl h
    rw [fn_X8_prepare_86] at h
    refine lv_iload_n hx hb dX8_prepare_86 rfl (lv_at hl 1 rfl) ?_
    refine lv_aload_n hx hb dX8_prepare_87 rfl (lv_at hl 0 rfl) ?_
    refine ge_8_1 hx hb hts (inU inW_X8) hown hK hP k_153 (hts _ (List.mem_cons_of_mem _ lw_528)) dX8_prepare_88 ?_
    refine ge_1_2 hx hb hts (inU inW_X1) hown hK hP k_34 (hts _ (List.mem_cons_of_mem _ lw_422)) dX8_prepare_91 ?_
    refine lv_icmp_ge (tgt := 135) hx hb dX8_prepare_94 (by decide) (fun c1 => ?_) (fun c1 => ?_)
    · rw [if_pos c1] at h
      exact x_vret hx hb hr hlocks hK hP hS h dX8_prepare_135
    · rw [if_neg c1] at h
      refine lv_aload_n hx hb dX8_prepare_97 rfl (lv_at hl 0 rfl) ?_
      refine ge_8_1 hx hb hts (inU inW_X8) hown hK hP k_153 (hts _ (List.mem_cons_of_mem _ lw_528)) dX8_prepare_98 ?_
      refine lv_iload_n hx hb dX8_prepare_101 rfl (lv_at hl 1 rfl) ?_
      obtain ⟨r3, z4, h2, h⟩ := bd_s h
      refine x_Vi (Rz := (r3, z4)) (As := [.int v3]) (rest := []) ⟨hx, hb, hml, hown, hts⟩ hK hP hS (kd_lt k_34 (by decide)) (cell_1 k_34) rfl (m_X1_isFree hG  k_34 h2) (cwV 1 hts (gV lw_1135 lw_1010 lw_1011 lw_117 lw_1012) rfl rfl rfl (by decide +kernel) (rmd_ok (by decide) (by decide))) rfl hl.1 rfl (Nat.le_of_ble_eq_true rfl) dX8_prepare_102 ⟨Nat.le_refl _, Nat.le_refl _⟩ (fun H locs hP hS => ?_)
      refine lv_if_eq (tgt := 129) hx hb dX8_prepare_105 (by decide) (fun c5 => ?_) (fun c5 => ?_)
      · rw [if_pos c5] at h
        exact pf_X8_prepare_129 C  ih v3 z4  hP hS (lv_sub hl [0, 1] rfl) h
      · rw [if_neg c5] at h
        refine lv_aload_n hx hb dX8_prepare_108 rfl (lv_at hl 0 rfl) ?_
        refine lv_aload_n hx hb dX8_prepare_109 rfl (lv_at hl 0 rfl) ?_
        refine ge_8_0 hx hb hts (inU inW_X8) hown hK hP k_153 (hts _ (List.mem_cons_of_mem _ lw_527)) dX8_prepare_110 ?_
        refine lv_aload_n hx hb dX8_prepare_113 rfl (lv_at hl 0 rfl) ?_
        refine ge_8_1 hx hb hts (inU inW_X8) hown hK hP k_153 (hts _ (List.mem_cons_of_mem _ lw_528)) dX8_prepare_114 ?_
        refine ge_1_0 hx hb hts (inU inW_X1) hown hK hP k_34 (hts _ (List.mem_cons_of_mem _ lw_414)) dX8_prepare_117 ?_
        refine lv_iload_n hx hb dX8_prepare_120 rfl (lv_at hl 1 rfl) ?_
        obtain ⟨g6, h⟩ := gd_s h
        refine xl_18 hx hb hK hP k_35 l_35 (ix_in g6) dX8_prepare_121 ?_
        obtain ⟨r8, z9, h7, h⟩ := bd_s h
        refine x_Vi (Rz := (r8, z9)) (As := [.ref (G.2.2 (35 + 1 + (Int32.toNatClampNeg v3)))]) (rest := [.ref (G.2.2 153)]) ⟨hx, hb, hml, hown, hts⟩ hK hP hS (kd_lt k_2 (by decide)) (cell_7 k_2) rfl (m_X7_areaOf hG  k_2 (ke_18 k_35 (ix_lt g6)) h7) (cwV 1 hts (gV lw_1136 lw_947 lw_948 lw_110 lw_949) rfl rfl rfl (by decide +kernel) (rmd_ok (by decide) (by decide))) rfl hl.1 rfl (Nat.le_of_ble_eq_true rfl) dX8_prepare_122 ⟨Nat.le_refl _, Nat.le_refl _⟩ (fun H locs hP hS => ?_)
        refine lv_iconst (v := 1) hx hb dX8_prepare_125 (by decide) ?_
        obtain ⟨z11, h10, h⟩ := bv_s h
        refine x_Vv (Rz := z11) (As := [.int r8, .int 1]) (rest := []) ⟨hx, hb, hml, hown, hts⟩ hK hP hS (kd_lt k_153 (by decide)) (cell_8 k_153) rfl (m_X8_count hG   h10) (cwV 2 hts (gV lw_1154 lw_1156 lw_34 lw_121 lw_1157) rfl rfl rfl (by decide +kernel) (rmd_ok (by decide) (by decide))) rfl hl.1 rfl (Nat.le_of_ble_eq_true rfl) dX8_prepare_126 ⟨Nat.le_refl _, Nat.le_refl _⟩ (fun H locs hP hS => ?_)
        exact pf_X8_prepare_129 C  ih v3 z11  hP hS (lv_sub hl [0, 1] rfl) h
def fn_X8_prepare_63 : Nat → Int32 → St → Option (St)
  | 0, _, _ => none
  | n + 1, v3, z => (if (z.1 153 4) ≤ v3 then fn_X8_prepare_86   fu 0 z else gd (ix v3 6) (nm (sI z 155 (Int32.toNatClampNeg v3) 0) (fun z3 => fn_X8_prepare_63   n (v3 + 1) z3)))
set_option maxHeartbeats 4000000 in
set_option maxRecDepth 100000 in
theorem pf_X8_prepare_63 {p : Program} {l : Launch} {e : Env} {s : State} {m : MethodId} {args : Array Value} {below : List Frame} {meth : Method} {c : Code} {G : wG} (C : CX p s m args meth c cX8_prepare 4 (wsU yX8_prepare cX8_prepare 4 none) RX8 none G) {Rz : St} : ∀ (n : Nat) (v3 : Int32) (z : St)  (H : Heap) (locs : List Loc) (ls : Array Slot), WP G z H → va_S (AW G) s.heap H locs → lv_has ls 4 [(0, .ref (G.2.2 153)), (3, .int v3)] → fn_X8_prepare_63   n v3 z = some Rz → W p l e (rmd 3) s m args below meth c H locs 0 0 (QV below args s G Rz) (F0 m 63 ls []) := by
  obtain ⟨hx, hb, hml, hown, hts, hr, hlocks, hK, hG⟩ := id C
  intro n
  induction n with
  | zero => intro v3 z  H locs ls hP hS hl h; cases h
  | succ n ih =>
    intro v3 z  H locs ls hP hS hl h
    rw [fn_X8_prepare_63] at h
    refine lv_iload_n hx hb dX8_prepare_63 rfl (lv_at hl 1 rfl) ?_
    refine lv_aload_n hx hb dX8_prepare_64 rfl (lv_at hl 0 rfl) ?_
    refine ge_8_4 hx hb hts (inU inW_X8) hown hK hP k_153 (hts _ (List.mem_cons_of_mem _ lw_531)) dX8_prepare_65 ?_
    refine lv_icmp_ge (tgt := 84) hx hb dX8_prepare_68 (by decide) (fun c1 => ?_) (fun c1 => ?_)
    · rw [if_pos c1] at h
      refine lv_iconst (v := 0) hx hb dX8_prepare_84 (by decide) ?_
      refine lv_istore_n (lv' := [(3, .int 0), (0, .ref (G.2.2 153))]) hx hb dX8_prepare_85 rfl hl (by decide) rfl (fun ls hl => ?_)
      exact pf_X8_prepare_86 C   fu 0 z  _ _ _ hP hS (lv_sub hl [1, 0] rfl) h
    · rw [if_neg c1] at h
      refine lv_aload_n hx hb dX8_prepare_71 rfl (lv_at hl 0 rfl) ?_
      refine ge_8_3 hx hb hts (inU inW_X8) hown hK hP k_153 (hts _ (List.mem_cons_of_mem _ lw_530)) dX8_prepare_72 ?_
      refine lv_iload_n hx hb dX8_prepare_75 rfl (lv_at hl 1 rfl) ?_
      refine lv_iconst (v := 0) hx hb dX8_prepare_76 (by decide) ?_
      obtain ⟨g2, h⟩ := gd_s h
      obtain ⟨z3, e_z3, h⟩ := nm_s h
      refine xs_14 hx hb hK hG hP hS k_155 l_155 (ix_in g2) dX8_prepare_77 (fun H locs hP hS => ?_)
      rw [← e_z3] at hP
      refine lv_iinc (v := (v3 + 1)) (lv' := [(3, .int (v3 + 1)), (0, .ref (G.2.2 153))]) hx hb dX8_prepare_78 hl (k := 1) rfl rfl (by decide) rfl (fun ls hl => ?_)
      refine lv_goto (tgt := 63) hx hb dX8_prepare_81 (by decide) ?_
      exact ih (v3 + 1) z3  _ _ _ hP hS (lv_sub hl [1, 0] rfl) h
def fn_X8_prepare_7 : Nat → Int32 → Int32 → Int32 → St → Option (St)
  | 0, _, _, _, _ => none
  | n + 1, v1, v2, v3, z => (if (z.1 2 5) ≤ v3 then fn_X8_prepare_63   fu 0 z else (if v3 = v2 then fn_X8_prepare_55  (fn_X8_prepare_7   n) v1 v2 v3 z else gd (ix v3 6) ((if (z.1 60 (Int32.toNatClampNeg v3)) = (-1) then gd (ix v3 6) (bv (fn_X8_addWanted  (if 0 < ((z.1 8 (Int32.toNatClampNeg v3)) + v1) then ((z.1 8 (Int32.toNatClampNeg v3)) + v1) else 0) z) (fun z7 => fn_X8_prepare_55  (fn_X8_prepare_7   n) v1 v2 v3 z7)) else fn_X8_prepare_55  (fn_X8_prepare_7   n) v1 v2 v3 z))))
set_option maxHeartbeats 4000000 in
set_option maxRecDepth 100000 in
theorem pf_X8_prepare_7 {p : Program} {l : Launch} {e : Env} {s : State} {m : MethodId} {args : Array Value} {below : List Frame} {meth : Method} {c : Code} {G : wG} (C : CX p s m args meth c cX8_prepare 4 (wsU yX8_prepare cX8_prepare 4 none) RX8 none G) {Rz : St} : ∀ (n : Nat) (v1 : Int32) (v2 : Int32) (v3 : Int32) (z : St)  (H : Heap) (locs : List Loc) (ls : Array Slot), WP G z H → va_S (AW G) s.heap H locs → lv_has ls 4 [(0, .ref (G.2.2 153)), (1, .int v1), (2, .int v2), (3, .int v3)] → fn_X8_prepare_7   n v1 v2 v3 z = some Rz → W p l e (rmd 3) s m args below meth c H locs 0 0 (QV below args s G Rz) (F0 m 7 ls []) := by
  obtain ⟨hx, hb, hml, hown, hts, hr, hlocks, hK, hG⟩ := id C
  intro n
  induction n with
  | zero => intro v1 v2 v3 z  H locs ls hP hS hl h; cases h
  | succ n ih =>
    intro v1 v2 v3 z  H locs ls hP hS hl h
    rw [fn_X8_prepare_7] at h
    refine lv_iload_n hx hb dX8_prepare_7 rfl (lv_at hl 3 rfl) ?_
    refine lv_aload_n hx hb dX8_prepare_8 rfl (lv_at hl 0 rfl) ?_
    refine ge_8_0 hx hb hts (inU inW_X8) hown hK hP k_153 (hts _ (List.mem_cons_of_mem _ lw_527)) dX8_prepare_9 ?_
    refine ge_7_5 hx hb hts (inU inW_X7) hown hK hP k_2 (hts _ (List.mem_cons_of_mem _ lw_196)) dX8_prepare_12 ?_
    refine lv_icmp_ge (tgt := 61) hx hb dX8_prepare_15 (by decide) (fun c1 => ?_) (fun c1 => ?_)
    · rw [if_pos c1] at h
      refine lv_iconst (v := 0) hx hb dX8_prepare_61 (by decide) ?_
      refine lv_istore_n (lv' := [(3, .int 0), (0, .ref (G.2.2 153)), (1, .int v1), (2, .int v2)]) hx hb dX8_prepare_62 rfl hl (by decide) rfl (fun ls hl => ?_)
      exact pf_X8_prepare_63 C   fu 0 z  _ _ _ hP hS (lv_sub hl [1, 0] rfl) h
    · rw [if_neg c1] at h
      refine lv_iload_n hx hb dX8_prepare_18 rfl (lv_at hl 3 rfl) ?_
      refine lv_iload_n hx hb dX8_prepare_19 rfl (lv_at hl 2 rfl) ?_
      refine lv_icmp_eq (tgt := 55) hx hb dX8_prepare_20 (by decide) (fun c2 => ?_) (fun c2 => ?_)
      · rw [if_pos c2] at h
        exact pf_X8_prepare_55 C  ih v1 v2 v3 z  hP hS (lv_sub hl [0, 1, 2, 3] rfl) h
      · rw [if_neg c2] at h
        refine lv_aload_n hx hb dX8_prepare_23 rfl (lv_at hl 0 rfl) ?_
        refine ge_8_1 hx hb hts (inU inW_X8) hown hK hP k_153 (hts _ (List.mem_cons_of_mem _ lw_528)) dX8_prepare_24 ?_
        refine ge_1_1 hx hb hts (inU inW_X1) hown hK hP k_34 (hts _ (List.mem_cons_of_mem _ lw_419)) dX8_prepare_27 ?_
        refine lv_iload_n hx hb dX8_prepare_30 rfl (lv_at hl 3 rfl) ?_
        obtain ⟨g3, h⟩ := gd_s h
        refine xl_14 hx hb hK hP k_60 l_60 (ix_in g3) dX8_prepare_31 ?_
        refine lv_iconst (v := (-1)) hx hb dX8_prepare_32 (by decide) ?_
        refine lv_icmp_ne (tgt := 55) hx hb dX8_prepare_33 (by decide) (fun c4 => ?_) (fun c4 => ?_)
        · rw [if_neg c4] at h
          exact pf_X8_prepare_55 C  ih v1 v2 v3 z  hP hS (lv_sub hl [0, 1, 2, 3] rfl) h
        · rw [if_pos c4] at h
          refine lv_aload_n hx hb dX8_prepare_36 rfl (lv_at hl 0 rfl) ?_
          refine lv_iconst (v := 0) hx hb dX8_prepare_37 (by decide) ?_
          refine lv_aload_n hx hb dX8_prepare_38 rfl (lv_at hl 0 rfl) ?_
          refine ge_8_0 hx hb hts (inU inW_X8) hown hK hP k_153 (hts _ (List.mem_cons_of_mem _ lw_527)) dX8_prepare_39 ?_
          refine ge_7_7 hx hb hts (inU inW_X7) hown hK hP k_2 (hts _ (List.mem_cons_of_mem _ lw_203)) dX8_prepare_42 ?_
          refine lv_iload_n hx hb dX8_prepare_45 rfl (lv_at hl 3 rfl) ?_
          obtain ⟨g5, h⟩ := gd_s h
          refine xl_14 hx hb hK hP k_8 l_8 (ix_in g5) dX8_prepare_46 ?_
          refine lv_iload_n hx hb dX8_prepare_47 rfl (lv_at hl 1 rfl) ?_
          refine lv_iadd hx hb dX8_prepare_48 ?_
          refine va_mmax hx hb (by rw [hml]; exact hl.1.symm) hown (hts _ (List.mem_cons_of_mem _ lw_1149)) (hts _ (List.mem_cons_of_mem _ lw_1028)) (hts _ (List.mem_cons_of_mem _ lw_126)) (hts _ (List.mem_cons_of_mem _ lw_1029)) (rmd_f (by decide)) (rmd_l (by decide) (Nat.le_of_ble_eq_true rfl)) (Nat.le_refl _) (Nat.le_refl _) dX8_prepare_49 ?_
          obtain ⟨z7, h6, h⟩ := bv_s h
          refine x_Vv (Rz := z7) (As := [.int (if 0 < ((z.1 8 (Int32.toNatClampNeg v3)) + v1) then ((z.1 8 (Int32.toNatClampNeg v3)) + v1) else 0)]) (rest := []) ⟨hx, hb, hml, hown, hts⟩ hK hP hS (kd_lt k_153 (by decide)) (cell_8 k_153) rfl (m_X8_addWanted hG   h6) (cwV 1 hts (gV lw_1150 lw_1152 lw_33 lw_121 lw_1153) rfl rfl rfl (by decide +kernel) (rmd_ok (by decide) (by decide))) rfl hl.1 rfl (Nat.le_of_ble_eq_true rfl) dX8_prepare_52 ⟨Nat.le_refl _, Nat.le_refl _⟩ (fun H locs hP hS => ?_)
          exact pf_X8_prepare_55 C  ih v1 v2 v3 z7  hP hS (lv_sub hl [0, 1, 2, 3] rfl) h
def fn_X8_prepare (v1 : Int32) (v2 : Int32) (z : St) : Option (St) := nm (sI z 153 4 0) (fun z1 => fn_X8_prepare_7   fu v1 v2 0 z1)
set_option maxHeartbeats 4000000 in
set_option maxRecDepth 100000 in
theorem m_X8_prepare {l : Launch} {G : wG} (hG : Ok G) {v1 : Int32} {v2 : Int32} {z : St} {Rz : St}  (h : fn_X8_prepare  v1 v2 z = some Rz) : Met l yX8_prepare (wsU yX8_prepare cX8_prepare 4 none) (rmd 3) (va_Pc [.ref (G.2.2 153), .int v1, .int v2] (Pre G z)) (va_Qv (fun u => u = Rz) (Pre G) (AW G)) 0 0 (AW G) := by
  refine Met.ofW (cc := cX8_prepare) (maxL := 4) (ret := none) (by decide) rfl ?_
  intro p e s m args below meth c s₁ B hml hv
  obtain ⟨rfl, hP, hK⟩ := hv
  have C : CX p s m ([.ref (G.2.2 153), .int v1, .int v2] : List Value).toArray meth c cX8_prepare 4 (wsU yX8_prepare cX8_prepare 4 none) RX8 none G := ⟨B.exec, B.bytes, hml, findClass_of_methodNamed B.named, atoms_spec (ws := (wsU yX8_prepare cX8_prepare 4 none)) B.pre, B.returns, B.notSynchronized, hK, hG⟩
  obtain ⟨hx, hb, -, hown, hts, hr, hlocks, -, -⟩ := id C
  have hS : va_S (AW G) s.heap s.heap [] := va_S.rf
  have hl := lv_entry [.ref (G.2.2 153), .int v1, .int v2] (n := 4) (Nat.le_of_ble_eq_true rfl)
  rw [lg_entry_eq]
  generalize (lg_sl [.ref (G.2.2 153), .int v1, .int v2] ++ List.replicate (4 - (lg_sl [.ref (G.2.2 153), .int v1, .int v2]).length) Slot.unset).toArray = ls at hl ⊢
  have hl : lv_has ls 4 [(0, .ref (G.2.2 153)), (1, .int v1), (2, .int v2)] := hl
  unfold fn_X8_prepare at h
  refine lv_aload_n hx hb dX8_prepare_0 rfl (lv_at hl 0 rfl) ?_
  refine lv_iconst (v := 0) hx hb dX8_prepare_1 (by decide) ?_
  obtain ⟨z1, e_z1, h⟩ := nm_s h
  refine pu_8_4 hx hb hts (inU inW_X8) hown hK hG hP hS k_153 (hts _ (List.mem_cons_of_mem _ lw_531)) dX8_prepare_2 (fun H locs hP hS => ?_)
  rw [← e_z1] at hP
  refine lv_iconst (v := 0) hx hb dX8_prepare_5 (by decide) ?_
  refine lv_istore_n (lv' := [(3, .int 0), (0, .ref (G.2.2 153)), (1, .int v1), (2, .int v2)]) hx hb dX8_prepare_6 rfl hl (by decide) rfl (fun ls hl => ?_)
  exact pf_X8_prepare_7 C   fu v1 v2 0 z1  _ _ _ hP hS (lv_sub hl [1, 2, 3, 0] rfl) h
def fn_X8_servedIf (v1 : Int32) (z : St) : Option (Int32 × St) := bv (fn_X8_prepare  v1 (-1) z) (fun z2 => bd (fn_X8_matched   z2) (fun r4 z5 => some (r4, z5)))
set_option maxHeartbeats 4000000 in
set_option maxRecDepth 100000 in
theorem m_X8_servedIf {l : Launch} {G : wG} (hG : Ok G) {v1 : Int32} {z : St} {Rz : Int32 × St}  (h : fn_X8_servedIf  v1 z = some Rz) : Met l yX8_servedIf (wsU yX8_servedIf cX8_servedIf 2 (some .int)) (rmd 4) (va_Pc [.ref (G.2.2 153), .int v1] (Pre G z)) (va_Qi (fun r u => (r, u) = Rz) (Pre G) (AW G)) 0 0 (AW G) := by
  refine Met.ofW (cc := cX8_servedIf) (maxL := 2) (ret := (some .int)) (by decide) rfl ?_
  intro p e s m args below meth c s₁ B hml hv
  obtain ⟨rfl, hP, hK⟩ := hv
  have C : CX p s m ([.ref (G.2.2 153), .int v1] : List Value).toArray meth c cX8_servedIf 2 (wsU yX8_servedIf cX8_servedIf 2 (some .int)) RX8 (some .int) G := ⟨B.exec, B.bytes, hml, findClass_of_methodNamed B.named, atoms_spec (ws := (wsU yX8_servedIf cX8_servedIf 2 (some .int))) B.pre, B.returns, B.notSynchronized, hK, hG⟩
  obtain ⟨hx, hb, -, hown, hts, hr, hlocks, -, -⟩ := id C
  have hS : va_S (AW G) s.heap s.heap [] := va_S.rf
  have hl := lv_entry [.ref (G.2.2 153), .int v1] (n := 2) (Nat.le_of_ble_eq_true rfl)
  rw [lg_entry_eq]
  generalize (lg_sl [.ref (G.2.2 153), .int v1] ++ List.replicate (2 - (lg_sl [.ref (G.2.2 153), .int v1]).length) Slot.unset).toArray = ls at hl ⊢
  have hl : lv_has ls 2 [(0, .ref (G.2.2 153)), (1, .int v1)] := hl
  unfold fn_X8_servedIf at h
  refine lv_aload_n hx hb dX8_servedIf_0 rfl (lv_at hl 0 rfl) ?_
  refine lv_iload_n hx hb dX8_servedIf_1 rfl (lv_at hl 1 rfl) ?_
  refine lv_iconst (v := (-1)) hx hb dX8_servedIf_2 (by decide) ?_
  obtain ⟨z2, h1, h⟩ := bv_s h
  refine x_Vv (Rz := z2) (As := [.int v1, .int (-1)]) (rest := []) ⟨hx, hb, hml, hown, hts⟩ hK hP hS (kd_lt k_153 (by decide)) (cell_8 k_153) rfl (m_X8_prepare hG   h1) (cwV 2 hts (gV lw_1145 lw_1147 lw_32 lw_121 lw_1148) rfl rfl rfl (by decide +kernel) (rmd_ok (by decide) (by decide))) rfl hl.1 rfl (Nat.le_of_ble_eq_true rfl) dX8_servedIf_3 ⟨Nat.le_refl _, Nat.le_refl _⟩ (fun H locs hP hS => ?_)
  refine lv_aload_n hx hb dX8_servedIf_6 rfl (lv_at hl 0 rfl) ?_
  obtain ⟨r4, z5, h3, h⟩ := bd_s h
  refine x_Vi (Rz := (r4, z5)) (As := []) (rest := []) ⟨hx, hb, hml, hown, hts⟩ hK hP hS (kd_lt k_153 (by decide)) (cell_8 k_153) rfl (m_X8_matched hG   h3) (cwV 0 hts (gV lw_1158 lw_1160 lw_35 lw_121 lw_1161) rfl rfl rfl (by decide +kernel) (rmd_ok (by decide) (by decide))) rfl hl.1 rfl (Nat.le_of_ble_eq_true rfl) dX8_servedIf_7 ⟨Nat.le_refl _, Nat.le_refl _⟩ (fun H locs hP hS => ?_)
  exact x_iret hx hb hr hlocks hK hP hS h dX8_servedIf_10
def fn_X8_tryCuts_127 (k31 : Int32 → Int32 → Int32 → Int32 → Int32 → Int32 → St → Option (St)) (v1 : Int32) (v2 : Int32) (v3 : Int32) (v4 : Int32) (v5 : Int32) (v6 : Int32) (z : St) : Option (St) := k31 v1 v2 v3 v4 v5 (v6 + 1) z
set_option maxHeartbeats 4000000 in
set_option maxRecDepth 100000 in
theorem pf_X8_tryCuts_127 {p : Program} {l : Launch} {e : Env} {s : State} {m : MethodId} {args : Array Value} {below : List Frame} {meth : Method} {c : Code} {G : wG} (C : CX p s m args meth c cX8_tryCuts 8 (wsU yX8_tryCuts cX8_tryCuts 8 none) RX8 none G) {Rz : St} {k31 : Int32 → Int32 → Int32 → Int32 → Int32 → Int32 → St → Option (St)} (hk_31 : ∀ (v1 : Int32) (v2 : Int32) (v3 : Int32) (v4 : Int32) (v5 : Int32) (v6 : Int32) (z : St)  (H : Heap) (locs : List Loc) (ls : Array Slot), WP G z H → va_S (AW G) s.heap H locs → lv_has ls 8 [(0, .ref (G.2.2 153)), (1, .int v1), (2, .int v2), (3, .int v3), (4, .int v4), (5, .int v5), (6, .int v6)] → k31 v1 v2 v3 v4 v5 v6 z = some Rz → W p l e (rmd 2) s m args below meth c H locs 0 0 (QV below args s G Rz) (F0 m 31 ls [])) (v1 : Int32) (v2 : Int32) (v3 : Int32) (v4 : Int32) (v5 : Int32) (v6 : Int32) (z : St)  {H : Heap} {locs : List Loc} {ls : Array Slot} (hP : WP G z H) (hS : va_S (AW G) s.heap H locs) (hl : lv_has ls 8 [(0, .ref (G.2.2 153)), (1, .int v1), (2, .int v2), (3, .int v3), (4, .int v4), (5, .int v5), (6, .int v6)]) (h : fn_X8_tryCuts_127  k31 v1 v2 v3 v4 v5 v6 z = some Rz) : W p l e (rmd 2) s m args below meth c H locs 0 0 (QV below args s G Rz) (F0 m 127 ls []) := by
  obtain ⟨hx, hb, hml, hown, hts, hr, hlocks, hK, hG⟩ := id C
  unfold fn_X8_tryCuts_127 at h
  refine lv_iinc (v := (v6 + 1)) (lv' := [(6, .int (v6 + 1)), (0, .ref (G.2.2 153)), (1, .int v1), (2, .int v2), (3, .int v3), (4, .int v4), (5, .int v5)]) hx hb dX8_tryCuts_127 hl (k := 6) rfl rfl (by decide) rfl (fun ls hl => ?_)
  refine lv_goto (tgt := 31) hx hb dX8_tryCuts_130 (by decide) ?_
  exact hk_31 v1 v2 v3 v4 v5 (v6 + 1) z  _ _ _ hP hS (lv_sub hl [1, 2, 3, 4, 5, 6, 0] rfl) h
def fn_X8_tryCuts_105 (k31 : Int32 → Int32 → Int32 → Int32 → Int32 → Int32 → St → Option (St)) (v1 : Int32) (v2 : Int32) (v3 : Int32) (v4 : Int32) (v5 : Int32) (v6 : Int32) (v7 : Int32) (z : St) : Option (St) := nm (sI z 153 5 v1) (fun z1 => nm (sI z1 153 6 v2) (fun z2 => nm (sI z2 153 7 v6) (fun z3 => nm (sI z3 153 8 v7) (fun z4 => fn_X8_tryCuts_127  k31 v1 v2 v3 v4 v5 v6 z4))))
set_option maxHeartbeats 4000000 in
set_option maxRecDepth 100000 in
theorem pf_X8_tryCuts_105 {p : Program} {l : Launch} {e : Env} {s : State} {m : MethodId} {args : Array Value} {below : List Frame} {meth : Method} {c : Code} {G : wG} (C : CX p s m args meth c cX8_tryCuts 8 (wsU yX8_tryCuts cX8_tryCuts 8 none) RX8 none G) {Rz : St} {k31 : Int32 → Int32 → Int32 → Int32 → Int32 → Int32 → St → Option (St)} (hk_31 : ∀ (v1 : Int32) (v2 : Int32) (v3 : Int32) (v4 : Int32) (v5 : Int32) (v6 : Int32) (z : St)  (H : Heap) (locs : List Loc) (ls : Array Slot), WP G z H → va_S (AW G) s.heap H locs → lv_has ls 8 [(0, .ref (G.2.2 153)), (1, .int v1), (2, .int v2), (3, .int v3), (4, .int v4), (5, .int v5), (6, .int v6)] → k31 v1 v2 v3 v4 v5 v6 z = some Rz → W p l e (rmd 2) s m args below meth c H locs 0 0 (QV below args s G Rz) (F0 m 31 ls [])) (v1 : Int32) (v2 : Int32) (v3 : Int32) (v4 : Int32) (v5 : Int32) (v6 : Int32) (v7 : Int32) (z : St)  {H : Heap} {locs : List Loc} {ls : Array Slot} (hP : WP G z H) (hS : va_S (AW G) s.heap H locs) (hl : lv_has ls 8 [(0, .ref (G.2.2 153)), (1, .int v1), (2, .int v2), (3, .int v3), (4, .int v4), (5, .int v5), (6, .int v6), (7, .int v7)]) (h : fn_X8_tryCuts_105  k31 v1 v2 v3 v4 v5 v6 v7 z = some Rz) : W p l e (rmd 2) s m args below meth c H locs 0 0 (QV below args s G Rz) (F0 m 105 ls []) := by
  obtain ⟨hx, hb, hml, hown, hts, hr, hlocks, hK, hG⟩ := id C
  unfold fn_X8_tryCuts_105 at h
  refine lv_aload_n hx hb dX8_tryCuts_105 rfl (lv_at hl 0 rfl) ?_
  refine lv_iload_n hx hb dX8_tryCuts_106 rfl (lv_at hl 1 rfl) ?_
  obtain ⟨z1, e_z1, h⟩ := nm_s h
  refine pu_8_5 hx hb hts (inU inW_X8) hown hK hG hP hS k_153 (hts _ (List.mem_cons_of_mem _ lw_532)) dX8_tryCuts_107 (fun H locs hP hS => ?_)
  rw [← e_z1] at hP
  refine lv_aload_n hx hb dX8_tryCuts_110 rfl (lv_at hl 0 rfl) ?_
  refine lv_iload_n hx hb dX8_tryCuts_111 rfl (lv_at hl 2 rfl) ?_
  obtain ⟨z2, e_z2, h⟩ := nm_s h
  refine pu_8_6 hx hb hts (inU inW_X8) hown hK hG hP hS k_153 (hts _ (List.mem_cons_of_mem _ lw_534)) dX8_tryCuts_112 (fun H locs hP hS => ?_)
  rw [← e_z2] at hP
  refine lv_aload_n hx hb dX8_tryCuts_115 rfl (lv_at hl 0 rfl) ?_
  refine lv_iload hx hb dX8_tryCuts_116 (lv_at hl 6 rfl) ?_
  obtain ⟨z3, e_z3, h⟩ := nm_s h
  refine pu_8_7 hx hb hts (inU inW_X8) hown hK hG hP hS k_153 (hts _ (List.mem_cons_of_mem _ lw_536)) dX8_tryCuts_118 (fun H locs hP hS => ?_)
  rw [← e_z3] at hP
  refine lv_aload_n hx hb dX8_tryCuts_121 rfl (lv_at hl 0 rfl) ?_
  refine lv_iload hx hb dX8_tryCuts_122 (lv_at hl 7 rfl) ?_
  obtain ⟨z4, e_z4, h⟩ := nm_s h
  refine pu_8_8 hx hb hts (inU inW_X8) hown hK hG hP hS k_153 (hts _ (List.mem_cons_of_mem _ lw_538)) dX8_tryCuts_124 (fun H locs hP hS => ?_)
  rw [← e_z4] at hP
  exact pf_X8_tryCuts_127 C  hk_31 v1 v2 v3 v4 v5 v6 z4  hP hS (lv_sub hl [0, 1, 2, 3, 4, 5, 6] rfl) h
def fn_X8_tryCuts_31 : Nat → Int32 → Int32 → Int32 → Int32 → Int32 → Int32 → St → Option (St)
  | 0, _, _, _, _, _, _, _ => none
  | n + 1, v1, v2, v3, v4, v5, v6, z => (if v4 ≤ v6 then some z else bv (fn_X8_count  (v5 * v6) 1 z) (fun z3 => bv (fn_X8_count  (v3 - (v5 * v6)) 1 z3) (fun z5 => bd (fn_X8_matched   z5) (fun r7 z8 => bv (fn_X8_count  (v5 * v6) (-1) z8) (fun z10 => bv (fn_X8_count  (v3 - (v5 * v6)) (-1) z10) (fun z12 => (if (z12.1 153 5) = (-1) then fn_X8_tryCuts_105  (fn_X8_tryCuts_31   n) v1 v2 v3 v4 v5 v6 r7 z12 else (if r7 ≤ (z12.1 153 8) then fn_X8_tryCuts_127  (fn_X8_tryCuts_31   n) v1 v2 v3 v4 v5 v6 z12 else fn_X8_tryCuts_105  (fn_X8_tryCuts_31   n) v1 v2 v3 v4 v5 v6 r7 z12))))))))
set_option maxHeartbeats 4000000 in
set_option maxRecDepth 100000 in
theorem pf_X8_tryCuts_31 {p : Program} {l : Launch} {e : Env} {s : State} {m : MethodId} {args : Array Value} {below : List Frame} {meth : Method} {c : Code} {G : wG} (C : CX p s m args meth c cX8_tryCuts 8 (wsU yX8_tryCuts cX8_tryCuts 8 none) RX8 none G) {Rz : St} : ∀ (n : Nat) (v1 : Int32) (v2 : Int32) (v3 : Int32) (v4 : Int32) (v5 : Int32) (v6 : Int32) (z : St)  (H : Heap) (locs : List Loc) (ls : Array Slot), WP G z H → va_S (AW G) s.heap H locs → lv_has ls 8 [(0, .ref (G.2.2 153)), (1, .int v1), (2, .int v2), (3, .int v3), (4, .int v4), (5, .int v5), (6, .int v6)] → fn_X8_tryCuts_31   n v1 v2 v3 v4 v5 v6 z = some Rz → W p l e (rmd 2) s m args below meth c H locs 0 0 (QV below args s G Rz) (F0 m 31 ls []) := by
  obtain ⟨hx, hb, hml, hown, hts, hr, hlocks, hK, hG⟩ := id C
  intro n
  induction n with
  | zero => intro v1 v2 v3 v4 v5 v6 z  H locs ls hP hS hl h; cases h
  | succ n ih =>
    intro v1 v2 v3 v4 v5 v6 z  H locs ls hP hS hl h
    rw [fn_X8_tryCuts_31] at h
    refine lv_iload hx hb dX8_tryCuts_31 (lv_at hl 6 rfl) ?_
    refine lv_iload hx hb dX8_tryCuts_33 (lv_at hl 4 rfl) ?_
    refine lv_icmp_ge (tgt := 133) hx hb dX8_tryCuts_35 (by decide) (fun c1 => ?_) (fun c1 => ?_)
    · rw [if_pos c1] at h
      exact x_vret hx hb hr hlocks hK hP hS h dX8_tryCuts_133
    · rw [if_neg c1] at h
      refine lv_aload_n hx hb dX8_tryCuts_38 rfl (lv_at hl 0 rfl) ?_
      refine lv_iload hx hb dX8_tryCuts_39 (lv_at hl 5 rfl) ?_
      refine lv_iload hx hb dX8_tryCuts_41 (lv_at hl 6 rfl) ?_
      refine lv_imul hx hb dX8_tryCuts_43 ?_
      refine lv_iconst (v := 1) hx hb dX8_tryCuts_44 (by decide) ?_
      obtain ⟨z3, h2, h⟩ := bv_s h
      refine x_Vv (Rz := z3) (As := [.int (v5 * v6), .int 1]) (rest := []) ⟨hx, hb, hml, hown, hts⟩ hK hP hS (kd_lt k_153 (by decide)) (cell_8 k_153) rfl (m_X8_count hG   h2) (cwV 2 hts (gV lw_1154 lw_1156 lw_34 lw_121 lw_1157) rfl rfl rfl (by decide +kernel) (rmd_ok (by decide) (by decide))) rfl hl.1 rfl (Nat.le_of_ble_eq_true rfl) dX8_tryCuts_45 ⟨Nat.le_refl _, Nat.le_refl _⟩ (fun H locs hP hS => ?_)
      refine lv_aload_n hx hb dX8_tryCuts_48 rfl (lv_at hl 0 rfl) ?_
      refine lv_iload_n hx hb dX8_tryCuts_49 rfl (lv_at hl 3 rfl) ?_
      refine lv_iload hx hb dX8_tryCuts_50 (lv_at hl 5 rfl) ?_
      refine lv_iload hx hb dX8_tryCuts_52 (lv_at hl 6 rfl) ?_
      refine lv_imul hx hb dX8_tryCuts_54 ?_
      refine lv_isub hx hb dX8_tryCuts_55 ?_
      refine lv_iconst (v := 1) hx hb dX8_tryCuts_56 (by decide) ?_
      obtain ⟨z5, h4, h⟩ := bv_s h
      refine x_Vv (Rz := z5) (As := [.int (v3 - (v5 * v6)), .int 1]) (rest := []) ⟨hx, hb, hml, hown, hts⟩ hK hP hS (kd_lt k_153 (by decide)) (cell_8 k_153) rfl (m_X8_count hG   h4) (cwV 2 hts (gV lw_1154 lw_1156 lw_34 lw_121 lw_1157) rfl rfl rfl (by decide +kernel) (rmd_ok (by decide) (by decide))) rfl hl.1 rfl (Nat.le_of_ble_eq_true rfl) dX8_tryCuts_57 ⟨Nat.le_refl _, Nat.le_refl _⟩ (fun H locs hP hS => ?_)
      refine lv_aload_n hx hb dX8_tryCuts_60 rfl (lv_at hl 0 rfl) ?_
      obtain ⟨r7, z8, h6, h⟩ := bd_s h
      refine x_Vi (Rz := (r7, z8)) (As := []) (rest := []) ⟨hx, hb, hml, hown, hts⟩ hK hP hS (kd_lt k_153 (by decide)) (cell_8 k_153) rfl (m_X8_matched hG   h6) (cwV 0 hts (gV lw_1158 lw_1160 lw_35 lw_121 lw_1161) rfl rfl rfl (by decide +kernel) (rmd_ok (by decide) (by decide))) rfl hl.1 rfl (Nat.le_of_ble_eq_true rfl) dX8_tryCuts_61 ⟨Nat.le_refl _, Nat.le_refl _⟩ (fun H locs hP hS => ?_)
      refine lv_istore (lv' := [(7, .int r7), (0, .ref (G.2.2 153)), (1, .int v1), (2, .int v2), (3, .int v3), (4, .int v4), (5, .int v5), (6, .int v6)]) hx hb dX8_tryCuts_64 hl (by decide) rfl (fun ls hl => ?_)
      refine lv_aload_n hx hb dX8_tryCuts_66 rfl (lv_at hl 1 rfl) ?_
      refine lv_iload hx hb dX8_tryCuts_67 (lv_at hl 6 rfl) ?_
      refine lv_iload hx hb dX8_tryCuts_69 (lv_at hl 7 rfl) ?_
      refine lv_imul hx hb dX8_tryCuts_71 ?_
      refine lv_iconst (v := (-1)) hx hb dX8_tryCuts_72 (by decide) ?_
      obtain ⟨z10, h9, h⟩ := bv_s h
      refine x_Vv (Rz := z10) (As := [.int (v5 * v6), .int (-1)]) (rest := []) ⟨hx, hb, hml, hown, hts⟩ hK hP hS (kd_lt k_153 (by decide)) (cell_8 k_153) rfl (m_X8_count hG   h9) (cwV 2 hts (gV lw_1154 lw_1156 lw_34 lw_121 lw_1157) rfl rfl rfl (by decide +kernel) (rmd_ok (by decide) (by decide))) rfl hl.1 rfl (Nat.le_of_ble_eq_true rfl) dX8_tryCuts_73 ⟨Nat.le_refl _, Nat.le_refl _⟩ (fun H locs hP hS => ?_)
      refine lv_aload_n hx hb dX8_tryCuts_76 rfl (lv_at hl 1 rfl) ?_
      refine lv_iload_n hx hb dX8_tryCuts_77 rfl (lv_at hl 4 rfl) ?_
      refine lv_iload hx hb dX8_tryCuts_78 (lv_at hl 6 rfl) ?_
      refine lv_iload hx hb dX8_tryCuts_80 (lv_at hl 7 rfl) ?_
      refine lv_imul hx hb dX8_tryCuts_82 ?_
      refine lv_isub hx hb dX8_tryCuts_83 ?_
      refine lv_iconst (v := (-1)) hx hb dX8_tryCuts_84 (by decide) ?_
      obtain ⟨z12, h11, h⟩ := bv_s h
      refine x_Vv (Rz := z12) (As := [.int (v3 - (v5 * v6)), .int (-1)]) (rest := []) ⟨hx, hb, hml, hown, hts⟩ hK hP hS (kd_lt k_153 (by decide)) (cell_8 k_153) rfl (m_X8_count hG   h11) (cwV 2 hts (gV lw_1154 lw_1156 lw_34 lw_121 lw_1157) rfl rfl rfl (by decide +kernel) (rmd_ok (by decide) (by decide))) rfl hl.1 rfl (Nat.le_of_ble_eq_true rfl) dX8_tryCuts_85 ⟨Nat.le_refl _, Nat.le_refl _⟩ (fun H locs hP hS => ?_)
      refine lv_aload_n hx hb dX8_tryCuts_88 rfl (lv_at hl 1 rfl) ?_
      refine ge_8_5 hx hb hts (inU inW_X8) hown hK hP k_153 (hts _ (List.mem_cons_of_mem _ lw_532)) dX8_tryCuts_89 ?_
      refine lv_iconst (v := (-1)) hx hb dX8_tryCuts_92 (by decide) ?_
      refine lv_icmp_eq (tgt := 105) hx hb dX8_tryCuts_93 (by decide) (fun c13 => ?_) (fun c13 => ?_)
      · rw [if_pos c13] at h
        exact pf_X8_tryCuts_105 C  ih v1 v2 v3 v4 v5 v6 r7 z12  hP hS (lv_sub hl [1, 2, 3, 4, 5, 6, 7, 0] rfl) h
      · rw [if_neg c13] at h
        refine lv_iload hx hb dX8_tryCuts_96 (lv_at hl 0 rfl) ?_
        refine lv_aload_n hx hb dX8_tryCuts_98 rfl (lv_at hl 1 rfl) ?_
        refine ge_8_8 hx hb hts (inU inW_X8) hown hK hP k_153 (hts _ (List.mem_cons_of_mem _ lw_538)) dX8_tryCuts_99 ?_
        refine lv_icmp_le (tgt := 127) hx hb dX8_tryCuts_102 (by decide) (fun c14 => ?_) (fun c14 => ?_)
        · rw [if_pos c14] at h
          exact pf_X8_tryCuts_127 C  ih v1 v2 v3 v4 v5 v6 z12  hP hS (lv_sub hl [1, 2, 3, 4, 5, 6, 7] rfl) h
        · rw [if_neg c14] at h
          exact pf_X8_tryCuts_105 C  ih v1 v2 v3 v4 v5 v6 r7 z12  hP hS (lv_sub hl [1, 2, 3, 4, 5, 6, 7, 0] rfl) h
def fn_X8_tryCuts (v1 : Int32) (v2 : Int32) (v3 : Int32) (z : St) : Option (St) := gd (ix v1 24) (bd (fn_X9_extent  (35 + 1 + (Int32.toNatClampNeg v1)) v2 z) (fun r3 z4 => (if 1 ≤ r3 then gd (r3 != 0) (nm (v3 / r3) (fun v5_7 => fn_X8_tryCuts_31   fu v1 v2 v3 r3 v5_7 1 z4)) else some z4)))
set_option maxHeartbeats 4000000 in
set_option maxRecDepth 100000 in
theorem m_X8_tryCuts {l : Launch} {G : wG} (hG : Ok G) {v1 : Int32} {v2 : Int32} {v3 : Int32} {z : St} {Rz : St}  (h : fn_X8_tryCuts  v1 v2 v3 z = some Rz) : Met l yX8_tryCuts (wsU yX8_tryCuts cX8_tryCuts 8 none) (rmd 2) (va_Pc [.ref (G.2.2 153), .int v1, .int v2, .int v3] (Pre G z)) (va_Qv (fun u => u = Rz) (Pre G) (AW G)) 0 0 (AW G) := by
  refine Met.ofW (cc := cX8_tryCuts) (maxL := 8) (ret := none) (by decide) rfl ?_
  intro p e s m args below meth c s₁ B hml hv
  obtain ⟨rfl, hP, hK⟩ := hv
  have C : CX p s m ([.ref (G.2.2 153), .int v1, .int v2, .int v3] : List Value).toArray meth c cX8_tryCuts 8 (wsU yX8_tryCuts cX8_tryCuts 8 none) RX8 none G := ⟨B.exec, B.bytes, hml, findClass_of_methodNamed B.named, atoms_spec (ws := (wsU yX8_tryCuts cX8_tryCuts 8 none)) B.pre, B.returns, B.notSynchronized, hK, hG⟩
  obtain ⟨hx, hb, -, hown, hts, hr, hlocks, -, -⟩ := id C
  have hS : va_S (AW G) s.heap s.heap [] := va_S.rf
  have hl := lv_entry [.ref (G.2.2 153), .int v1, .int v2, .int v3] (n := 8) (Nat.le_of_ble_eq_true rfl)
  rw [lg_entry_eq]
  generalize (lg_sl [.ref (G.2.2 153), .int v1, .int v2, .int v3] ++ List.replicate (8 - (lg_sl [.ref (G.2.2 153), .int v1, .int v2, .int v3]).length) Slot.unset).toArray = ls at hl ⊢
  have hl : lv_has ls 8 [(0, .ref (G.2.2 153)), (1, .int v1), (2, .int v2), (3, .int v3)] := hl
  unfold fn_X8_tryCuts at h
  refine lv_aload_n hx hb dX8_tryCuts_0 rfl (lv_at hl 0 rfl) ?_
  refine ge_8_1 hx hb hts (inU inW_X8) hown hK hP k_153 (hts _ (List.mem_cons_of_mem _ lw_528)) dX8_tryCuts_1 ?_
  refine ge_1_0 hx hb hts (inU inW_X1) hown hK hP k_34 (hts _ (List.mem_cons_of_mem _ lw_414)) dX8_tryCuts_4 ?_
  refine lv_iload_n hx hb dX8_tryCuts_7 rfl (lv_at hl 1 rfl) ?_
  obtain ⟨g1, h⟩ := gd_s h
  refine xl_18 hx hb hK hP k_35 l_35 (ix_in g1) dX8_tryCuts_8 ?_
  refine lv_iload_n hx hb dX8_tryCuts_9 rfl (lv_at hl 2 rfl) ?_
  obtain ⟨r3, z4, h2, h⟩ := bd_s h
  refine x_Vi (Rz := (r3, z4)) (As := [.int v2]) (rest := []) ⟨hx, hb, hml, hown, hts⟩ hK hP hS (kd_lt (ke_18 k_35 (ix_lt g1)) (by decide)) (cell_9 (ke_18 k_35 (ix_lt g1))) rfl (m_X9_extent hG  (ke_18 k_35 (ix_lt g1)) h2) (cwV 1 hts (gV lw_1175 lw_1015 lw_1016 lw_118 lw_1017) rfl rfl rfl (by decide +kernel) (rmd_ok (by decide) (by decide))) rfl hl.1 rfl (Nat.le_of_ble_eq_true rfl) dX8_tryCuts_10 ⟨Nat.le_refl _, Nat.le_refl _⟩ (fun H locs hP hS => ?_)
  refine lv_istore (lv' := [(4, .int r3), (0, .ref (G.2.2 153)), (1, .int v1), (2, .int v2), (3, .int v3)]) hx hb dX8_tryCuts_13 hl (by decide) rfl (fun ls hl => ?_)
  refine lv_iload hx hb dX8_tryCuts_15 (lv_at hl 0 rfl) ?_
  refine lv_iconst (v := 1) hx hb dX8_tryCuts_17 (by decide) ?_
  refine lv_icmp_ge (tgt := 22) hx hb dX8_tryCuts_18 (by decide) (fun c5 => ?_) (fun c5 => ?_)
  · rw [if_pos c5] at h
    refine lv_iload_n hx hb dX8_tryCuts_22 rfl (lv_at hl 4 rfl) ?_
    refine lv_iload hx hb dX8_tryCuts_23 (lv_at hl 0 rfl) ?_
    obtain ⟨g6, h⟩ := gd_s h
    refine lv_idiv hx hb dX8_tryCuts_25 (bne_z g6) ?_
    obtain ⟨v5_7, e_v5_7, h⟩ := nm_s h
    refine x_top e_v5_7 ?_
    refine lv_istore (lv' := [(5, .int v5_7), (4, .int r3), (0, .ref (G.2.2 153)), (1, .int v1), (2, .int v2), (3, .int v3)]) hx hb dX8_tryCuts_26 hl (by decide) rfl (fun ls hl => ?_)
    refine lv_iconst (v := 1) hx hb dX8_tryCuts_28 (by decide) ?_
    refine lv_istore (lv' := [(6, .int 1), (5, .int v5_7), (4, .int r3), (0, .ref (G.2.2 153)), (1, .int v1), (2, .int v2), (3, .int v3)]) hx hb dX8_tryCuts_29 hl (by decide) rfl (fun ls hl => ?_)
    exact pf_X8_tryCuts_31 C   fu v1 v2 v3 r3 v5_7 1 z4  _ _ _ hP hS (lv_sub hl [3, 4, 5, 6, 2, 1, 0] rfl) h
  · rw [if_neg c5] at h
    exact x_vret hx hb hr hlocks hK hP hS h dX8_tryCuts_21
def fn_X8_findCut_78 (k13 : Int32 → St → Option (Int32 × St)) (v1 : Int32) (z : St) : Option (Int32 × St) := k13 (v1 + 1) z
set_option maxHeartbeats 4000000 in
set_option maxRecDepth 100000 in
theorem pf_X8_findCut_78 {p : Program} {l : Launch} {e : Env} {s : State} {m : MethodId} {args : Array Value} {below : List Frame} {meth : Method} {c : Code} {G : wG} (C : CX p s m args meth c cX8_findCut 3 (wsU yX8_findCut cX8_findCut 3 (some .boolean)) RX8 (some .boolean) G) {Rz : Int32 × St} {k13 : Int32 → St → Option (Int32 × St)} (hk_13 : ∀ (v1 : Int32) (z : St)  (H : Heap) (locs : List Loc) (ls : Array Slot), WP G z H → va_S (AW G) s.heap H locs → lv_has ls 3 [(0, .ref (G.2.2 153)), (1, .int v1)] → k13 v1 z = some Rz → W p l e (rmd 4) s m args below meth c H locs 0 0 (QI below args s G Rz) (F0 m 13 ls [])) (v1 : Int32) (z : St)  {H : Heap} {locs : List Loc} {ls : Array Slot} (hP : WP G z H) (hS : va_S (AW G) s.heap H locs) (hl : lv_has ls 3 [(0, .ref (G.2.2 153)), (1, .int v1)]) (h : fn_X8_findCut_78  k13 v1 z = some Rz) : W p l e (rmd 4) s m args below meth c H locs 0 0 (QI below args s G Rz) (F0 m 78 ls []) := by
  obtain ⟨hx, hb, hml, hown, hts, hr, hlocks, hK, hG⟩ := id C
  unfold fn_X8_findCut_78 at h
  refine lv_iinc (v := (v1 + 1)) (lv' := [(1, .int (v1 + 1)), (0, .ref (G.2.2 153))]) hx hb dX8_findCut_78 hl (k := 1) rfl rfl (by decide) rfl (fun ls hl => ?_)
  refine lv_goto (tgt := 13) hx hb dX8_findCut_81 (by decide) ?_
  exact hk_13 (v1 + 1) z  _ _ _ hP hS (lv_sub hl [1, 0] rfl) h
def fn_X8_findCut_13 : Nat → Int32 → St → Option (Int32 × St)
  | 0, _, _ => none
  | n + 1, v1, z => (if (z.1 34 2) ≤ v1 then (if (z.1 153 5) = (-1) then some (0, z) else some (1, z)) else bd (fn_X1_isCuttable  34 v1 z) (fun r4 z5 => (if r4 = 0 then fn_X8_findCut_78  (fn_X8_findCut_13   n) v1 z5 else gd (ix v1 24) (bd (fn_X7_areaOf  2 (35 + 1 + (Int32.toNatClampNeg v1)) z5) (fun r9 z10 => bv (fn_X8_count  r9 (-1) z10) (fun z12 => bv (fn_X8_tryCuts  v1 0 r9 z12) (fun z14 => bv (fn_X8_tryCuts  v1 1 r9 z14) (fun z16 => bv (fn_X8_count  r9 1 z16) (fun z18 => fn_X8_findCut_78  (fn_X8_findCut_13   n) v1 z18)))))))))
set_option maxHeartbeats 4000000 in
set_option maxRecDepth 100000 in
theorem pf_X8_findCut_13 {p : Program} {l : Launch} {e : Env} {s : State} {m : MethodId} {args : Array Value} {below : List Frame} {meth : Method} {c : Code} {G : wG} (C : CX p s m args meth c cX8_findCut 3 (wsU yX8_findCut cX8_findCut 3 (some .boolean)) RX8 (some .boolean) G) {Rz : Int32 × St} : ∀ (n : Nat) (v1 : Int32) (z : St)  (H : Heap) (locs : List Loc) (ls : Array Slot), WP G z H → va_S (AW G) s.heap H locs → lv_has ls 3 [(0, .ref (G.2.2 153)), (1, .int v1)] → fn_X8_findCut_13   n v1 z = some Rz → W p l e (rmd 4) s m args below meth c H locs 0 0 (QI below args s G Rz) (F0 m 13 ls []) := by
  obtain ⟨hx, hb, hml, hown, hts, hr, hlocks, hK, hG⟩ := id C
  intro n
  induction n with
  | zero => intro v1 z  H locs ls hP hS hl h; cases h
  | succ n ih =>
    intro v1 z  H locs ls hP hS hl h
    rw [fn_X8_findCut_13] at h
    refine lv_iload_n hx hb dX8_findCut_13 rfl (lv_at hl 1 rfl) ?_
    refine lv_aload_n hx hb dX8_findCut_14 rfl (lv_at hl 0 rfl) ?_
    refine ge_8_1 hx hb hts (inU inW_X8) hown hK hP k_153 (hts _ (List.mem_cons_of_mem _ lw_528)) dX8_findCut_15 ?_
    refine ge_1_2 hx hb hts (inU inW_X1) hown hK hP k_34 (hts _ (List.mem_cons_of_mem _ lw_422)) dX8_findCut_18 ?_
    refine lv_icmp_ge (tgt := 84) hx hb dX8_findCut_21 (by decide) (fun c1 => ?_) (fun c1 => ?_)
    · rw [if_pos c1] at h
      refine lv_aload_n hx hb dX8_findCut_84 rfl (lv_at hl 0 rfl) ?_
      refine ge_8_5 hx hb hts (inU inW_X8) hown hK hP k_153 (hts _ (List.mem_cons_of_mem _ lw_532)) dX8_findCut_85 ?_
      refine lv_iconst (v := (-1)) hx hb dX8_findCut_88 (by decide) ?_
      refine lv_icmp_eq (tgt := 96) hx hb dX8_findCut_89 (by decide) (fun c2 => ?_) (fun c2 => ?_)
      · rw [if_pos c2] at h
        refine lv_iconst (v := 0) hx hb dX8_findCut_96 (by decide) ?_
        exact x_zret hx hb hr hlocks hK hP hS rfl h dX8_findCut_97
      · rw [if_neg c2] at h
        refine lv_iconst (v := 1) hx hb dX8_findCut_92 (by decide) ?_
        refine lv_goto (tgt := 97) hx hb dX8_findCut_93 (by decide) ?_
        exact x_zret hx hb hr hlocks hK hP hS rfl h dX8_findCut_97
    · rw [if_neg c1] at h
      refine lv_aload_n hx hb dX8_findCut_24 rfl (lv_at hl 0 rfl) ?_
      refine ge_8_1 hx hb hts (inU inW_X8) hown hK hP k_153 (hts _ (List.mem_cons_of_mem _ lw_528)) dX8_findCut_25 ?_
      refine lv_iload_n hx hb dX8_findCut_28 rfl (lv_at hl 1 rfl) ?_
      obtain ⟨r4, z5, h3, h⟩ := bd_s h
      refine x_Vi (Rz := (r4, z5)) (As := [.int v1]) (rest := []) ⟨hx, hb, hml, hown, hts⟩ hK hP hS (kd_lt k_34 (by decide)) (cell_1 k_34) rfl (m_X1_isCuttable hG  k_34 h3) (cwV 1 hts (gV lw_1170 lw_1006 lw_1007 lw_117 lw_1008) rfl rfl rfl (by decide +kernel) (rmd_ok (by decide) (by decide))) rfl hl.1 rfl (Nat.le_of_ble_eq_true rfl) dX8_findCut_29 ⟨Nat.le_refl _, Nat.le_refl _⟩ (fun H locs hP hS => ?_)
      refine lv_if_eq (tgt := 78) hx hb dX8_findCut_32 (by decide) (fun c6 => ?_) (fun c6 => ?_)
      · rw [if_pos c6] at h
        exact pf_X8_findCut_78 C  ih v1 z5  hP hS (lv_sub hl [0, 1] rfl) h
      · rw [if_neg c6] at h
        refine lv_aload_n hx hb dX8_findCut_35 rfl (lv_at hl 0 rfl) ?_
        refine ge_8_0 hx hb hts (inU inW_X8) hown hK hP k_153 (hts _ (List.mem_cons_of_mem _ lw_527)) dX8_findCut_36 ?_
        refine lv_aload_n hx hb dX8_findCut_39 rfl (lv_at hl 0 rfl) ?_
        refine ge_8_1 hx hb hts (inU inW_X8) hown hK hP k_153 (hts _ (List.mem_cons_of_mem _ lw_528)) dX8_findCut_40 ?_
        refine ge_1_0 hx hb hts (inU inW_X1) hown hK hP k_34 (hts _ (List.mem_cons_of_mem _ lw_414)) dX8_findCut_43 ?_
        refine lv_iload_n hx hb dX8_findCut_46 rfl (lv_at hl 1 rfl) ?_
        obtain ⟨g7, h⟩ := gd_s h
        refine xl_18 hx hb hK hP k_35 l_35 (ix_in g7) dX8_findCut_47 ?_
        obtain ⟨r9, z10, h8, h⟩ := bd_s h
        refine x_Vi (Rz := (r9, z10)) (As := [.ref (G.2.2 (35 + 1 + (Int32.toNatClampNeg v1)))]) (rest := []) ⟨hx, hb, hml, hown, hts⟩ hK hP hS (kd_lt k_2 (by decide)) (cell_7 k_2) rfl (m_X7_areaOf hG  k_2 (ke_18 k_35 (ix_lt g7)) h8) (cwV 1 hts (gV lw_1136 lw_947 lw_948 lw_110 lw_949) rfl rfl rfl (by decide +kernel) (rmd_ok (by decide) (by decide))) rfl hl.1 rfl (Nat.le_of_ble_eq_true rfl) dX8_findCut_48 ⟨Nat.le_refl _, Nat.le_refl _⟩ (fun H locs hP hS => ?_)
        refine lv_istore_n (lv' := [(2, .int r9), (0, .ref (G.2.2 153)), (1, .int v1)]) hx hb dX8_findCut_51 rfl hl (by decide) rfl (fun ls hl => ?_)
        refine lv_aload_n hx hb dX8_findCut_52 rfl (lv_at hl 1 rfl) ?_
        refine lv_iload_n hx hb dX8_findCut_53 rfl (lv_at hl 0 rfl) ?_
        refine lv_iconst (v := (-1)) hx hb dX8_findCut_54 (by decide) ?_
        obtain ⟨z12, h11, h⟩ := bv_s h
        refine x_Vv (Rz := z12) (As := [.int r9, .int (-1)]) (rest := []) ⟨hx, hb, hml, hown, hts⟩ hK hP hS (kd_lt k_153 (by decide)) (cell_8 k_153) rfl (m_X8_count hG   h11) (cwV 2 hts (gV lw_1154 lw_1156 lw_34 lw_121 lw_1157) rfl rfl rfl (by decide +kernel) (rmd_ok (by decide) (by decide))) rfl hl.1 rfl (Nat.le_of_ble_eq_true rfl) dX8_findCut_55 ⟨Nat.le_refl _, Nat.le_refl _⟩ (fun H locs hP hS => ?_)
        refine lv_aload_n hx hb dX8_findCut_58 rfl (lv_at hl 1 rfl) ?_
        refine lv_iload_n hx hb dX8_findCut_59 rfl (lv_at hl 2 rfl) ?_
        refine lv_iconst (v := 0) hx hb dX8_findCut_60 (by decide) ?_
        refine lv_iload_n hx hb dX8_findCut_61 rfl (lv_at hl 0 rfl) ?_
        obtain ⟨z14, h13, h⟩ := bv_s h
        refine x_Vv (Rz := z14) (As := [.int v1, .int 0, .int r9]) (rest := []) ⟨hx, hb, hml, hown, hts⟩ hK hP hS (kd_lt k_153 (by decide)) (cell_8 k_153) rfl (m_X8_tryCuts hG   h13) (cwV 3 hts (gV lw_1171 lw_1173 lw_36 lw_121 lw_1174) rfl rfl rfl (by decide +kernel) (rmd_ok (by decide) (by decide))) rfl hl.1 rfl (Nat.le_of_ble_eq_true rfl) dX8_findCut_62 ⟨Nat.le_refl _, Nat.le_refl _⟩ (fun H locs hP hS => ?_)
        refine lv_aload_n hx hb dX8_findCut_65 rfl (lv_at hl 1 rfl) ?_
        refine lv_iload_n hx hb dX8_findCut_66 rfl (lv_at hl 2 rfl) ?_
        refine lv_iconst (v := 1) hx hb dX8_findCut_67 (by decide) ?_
        refine lv_iload_n hx hb dX8_findCut_68 rfl (lv_at hl 0 rfl) ?_
        obtain ⟨z16, h15, h⟩ := bv_s h
        refine x_Vv (Rz := z16) (As := [.int v1, .int 1, .int r9]) (rest := []) ⟨hx, hb, hml, hown, hts⟩ hK hP hS (kd_lt k_153 (by decide)) (cell_8 k_153) rfl (m_X8_tryCuts hG   h15) (cwV 3 hts (gV lw_1171 lw_1173 lw_36 lw_121 lw_1174) rfl rfl rfl (by decide +kernel) (rmd_ok (by decide) (by decide))) rfl hl.1 rfl (Nat.le_of_ble_eq_true rfl) dX8_findCut_69 ⟨Nat.le_refl _, Nat.le_refl _⟩ (fun H locs hP hS => ?_)
        refine lv_aload_n hx hb dX8_findCut_72 rfl (lv_at hl 1 rfl) ?_
        refine lv_iload_n hx hb dX8_findCut_73 rfl (lv_at hl 0 rfl) ?_
        refine lv_iconst (v := 1) hx hb dX8_findCut_74 (by decide) ?_
        obtain ⟨z18, h17, h⟩ := bv_s h
        refine x_Vv (Rz := z18) (As := [.int r9, .int 1]) (rest := []) ⟨hx, hb, hml, hown, hts⟩ hK hP hS (kd_lt k_153 (by decide)) (cell_8 k_153) rfl (m_X8_count hG   h17) (cwV 2 hts (gV lw_1154 lw_1156 lw_34 lw_121 lw_1157) rfl rfl rfl (by decide +kernel) (rmd_ok (by decide) (by decide))) rfl hl.1 rfl (Nat.le_of_ble_eq_true rfl) dX8_findCut_75 ⟨Nat.le_refl _, Nat.le_refl _⟩ (fun H locs hP hS => ?_)
        exact pf_X8_findCut_78 C  ih v1 z18  hP hS (lv_sub hl [1, 2] rfl) h
def fn_X8_findCut  (z : St) : Option (Int32 × St) := bv (fn_X8_prepare  0 (-1) z) (fun z2 => nm (sI z2 153 5 (-1)) (fun z3 => fn_X8_findCut_13   fu 0 z3))
set_option maxHeartbeats 4000000 in
set_option maxRecDepth 100000 in
theorem m_X8_findCut {l : Launch} {G : wG} (hG : Ok G)  {z : St} {Rz : Int32 × St}  (h : fn_X8_findCut   z = some Rz) : Met l yX8_findCut (wsU yX8_findCut cX8_findCut 3 (some .boolean)) (rmd 4) (va_Pc [.ref (G.2.2 153)] (Pre G z)) (va_Qi (fun r u => (r, u) = Rz) (Pre G) (AW G)) 0 0 (AW G) := by
  refine Met.ofW (cc := cX8_findCut) (maxL := 3) (ret := (some .boolean)) (by decide) rfl ?_
  intro p e s m args below meth c s₁ B hml hv
  obtain ⟨rfl, hP, hK⟩ := hv
  have C : CX p s m ([.ref (G.2.2 153)] : List Value).toArray meth c cX8_findCut 3 (wsU yX8_findCut cX8_findCut 3 (some .boolean)) RX8 (some .boolean) G := ⟨B.exec, B.bytes, hml, findClass_of_methodNamed B.named, atoms_spec (ws := (wsU yX8_findCut cX8_findCut 3 (some .boolean))) B.pre, B.returns, B.notSynchronized, hK, hG⟩
  obtain ⟨hx, hb, -, hown, hts, hr, hlocks, -, -⟩ := id C
  have hS : va_S (AW G) s.heap s.heap [] := va_S.rf
  have hl := lv_entry [.ref (G.2.2 153)] (n := 3) (Nat.le_of_ble_eq_true rfl)
  rw [lg_entry_eq]
  generalize (lg_sl [.ref (G.2.2 153)] ++ List.replicate (3 - (lg_sl [.ref (G.2.2 153)]).length) Slot.unset).toArray = ls at hl ⊢
  have hl : lv_has ls 3 [(0, .ref (G.2.2 153))] := hl
  unfold fn_X8_findCut at h
  refine lv_aload_n hx hb dX8_findCut_0 rfl (lv_at hl 0 rfl) ?_
  refine lv_iconst (v := 0) hx hb dX8_findCut_1 (by decide) ?_
  refine lv_iconst (v := (-1)) hx hb dX8_findCut_2 (by decide) ?_
  obtain ⟨z2, h1, h⟩ := bv_s h
  refine x_Vv (Rz := z2) (As := [.int 0, .int (-1)]) (rest := []) ⟨hx, hb, hml, hown, hts⟩ hK hP hS (kd_lt k_153 (by decide)) (cell_8 k_153) rfl (m_X8_prepare hG   h1) (cwV 2 hts (gV lw_1145 lw_1147 lw_32 lw_121 lw_1148) rfl rfl rfl (by decide +kernel) (rmd_ok (by decide) (by decide))) rfl hl.1 rfl (Nat.le_of_ble_eq_true rfl) dX8_findCut_3 ⟨Nat.le_refl _, Nat.le_refl _⟩ (fun H locs hP hS => ?_)
  refine lv_aload_n hx hb dX8_findCut_6 rfl (lv_at hl 0 rfl) ?_
  refine lv_iconst (v := (-1)) hx hb dX8_findCut_7 (by decide) ?_
  obtain ⟨z3, e_z3, h⟩ := nm_s h
  refine pu_8_5 hx hb hts (inU inW_X8) hown hK hG hP hS k_153 (hts _ (List.mem_cons_of_mem _ lw_532)) dX8_findCut_8 (fun H locs hP hS => ?_)
  rw [← e_z3] at hP
  refine lv_iconst (v := 0) hx hb dX8_findCut_11 (by decide) ?_
  refine lv_istore_n (lv' := [(1, .int 0), (0, .ref (G.2.2 153))]) hx hb dX8_findCut_12 rfl hl (by decide) rfl (fun ls hl => ?_)
  exact pf_X8_findCut_13 C   fu 0 z3  _ _ _ hP hS (lv_sub hl [1, 0] rfl) h
def fn_X8_roomOf_123 (k41 : Int32 → Int32 → Int32 → Int32 → St → Option (Int32 × St)) (v2 : Int32) (v3 : Int32) (v4 : Int32) (v5 : Int32) (z : St) : Option (Int32 × St) := k41 v2 v3 v4 (v5 + 1) z
set_option maxHeartbeats 4000000 in
set_option maxRecDepth 100000 in
theorem pf_X8_roomOf_123 {p : Program} {l : Launch} {e : Env} {s : State} {m : MethodId} {args : Array Value} {below : List Frame} {meth : Method} {c : Code} {G : wG} (C : CX p s m args meth c cX8_roomOf 7 (wsU yX8_roomOf cX8_roomOf 7 (some .int)) RX8 (some .int) G) {Rz : Int32 × St} {k41 : Int32 → Int32 → Int32 → Int32 → St → Option (Int32 × St)} (hk_41 : ∀ (v2 : Int32) (v3 : Int32) (v4 : Int32) (v5 : Int32) (z : St)  (H : Heap) (locs : List Loc) (ls : Array Slot), WP G z H → va_S (AW G) s.heap H locs → lv_has ls 7 [(0, .ref (G.2.2 153)), (2, .int v2), (3, .int v3), (4, .int v4), (5, .int v5)] → k41 v2 v3 v4 v5 z = some Rz → W p l e (rmd 5) s m args below meth c H locs 0 0 (QI below args s G Rz) (F0 m 41 ls [])) (v2 : Int32) (v3 : Int32) (v4 : Int32) (v5 : Int32) (z : St)  {H : Heap} {locs : List Loc} {ls : Array Slot} (hP : WP G z H) (hS : va_S (AW G) s.heap H locs) (hl : lv_has ls 7 [(0, .ref (G.2.2 153)), (2, .int v2), (3, .int v3), (4, .int v4), (5, .int v5)]) (h : fn_X8_roomOf_123  k41 v2 v3 v4 v5 z = some Rz) : W p l e (rmd 5) s m args below meth c H locs 0 0 (QI below args s G Rz) (F0 m 123 ls []) := by
  obtain ⟨hx, hb, hml, hown, hts, hr, hlocks, hK, hG⟩ := id C
  unfold fn_X8_roomOf_123 at h
  refine lv_iinc (v := (v5 + 1)) (lv' := [(5, .int (v5 + 1)), (0, .ref (G.2.2 153)), (2, .int v2), (3, .int v3), (4, .int v4)]) hx hb dX8_roomOf_123 hl (k := 4) rfl rfl (by decide) rfl (fun ls hl => ?_)
  refine lv_goto (tgt := 41) hx hb dX8_roomOf_126 (by decide) ?_
  exact hk_41 v2 v3 v4 (v5 + 1) z  _ _ _ hP hS (lv_sub hl [1, 2, 3, 4, 0] rfl) h
def fn_X8_roomOf_116 (k41 : Int32 → Int32 → Int32 → Int32 → St → Option (Int32 × St)) (v2 : Int32) (v3 : Int32) (v4 : Int32) (v5 : Int32) (v6 : Int32) (z : St) : Option (Int32 × St) := bv (fn_X8_count  v6 1 z) (fun z2 => fn_X8_roomOf_123  k41 v2 v3 v4 v5 z2)
set_option maxHeartbeats 4000000 in
set_option maxRecDepth 100000 in
theorem pf_X8_roomOf_116 {p : Program} {l : Launch} {e : Env} {s : State} {m : MethodId} {args : Array Value} {below : List Frame} {meth : Method} {c : Code} {G : wG} (C : CX p s m args meth c cX8_roomOf 7 (wsU yX8_roomOf cX8_roomOf 7 (some .int)) RX8 (some .int) G) {Rz : Int32 × St} {k41 : Int32 → Int32 → Int32 → Int32 → St → Option (Int32 × St)} (hk_41 : ∀ (v2 : Int32) (v3 : Int32) (v4 : Int32) (v5 : Int32) (z : St)  (H : Heap) (locs : List Loc) (ls : Array Slot), WP G z H → va_S (AW G) s.heap H locs → lv_has ls 7 [(0, .ref (G.2.2 153)), (2, .int v2), (3, .int v3), (4, .int v4), (5, .int v5)] → k41 v2 v3 v4 v5 z = some Rz → W p l e (rmd 5) s m args below meth c H locs 0 0 (QI below args s G Rz) (F0 m 41 ls [])) (v2 : Int32) (v3 : Int32) (v4 : Int32) (v5 : Int32) (v6 : Int32) (z : St)  {H : Heap} {locs : List Loc} {ls : Array Slot} (hP : WP G z H) (hS : va_S (AW G) s.heap H locs) (hl : lv_has ls 7 [(0, .ref (G.2.2 153)), (2, .int v2), (3, .int v3), (4, .int v4), (5, .int v5), (6, .int v6)]) (h : fn_X8_roomOf_116  k41 v2 v3 v4 v5 v6 z = some Rz) : W p l e (rmd 5) s m args below meth c H locs 0 0 (QI below args s G Rz) (F0 m 116 ls []) := by
  obtain ⟨hx, hb, hml, hown, hts, hr, hlocks, hK, hG⟩ := id C
  unfold fn_X8_roomOf_116 at h
  refine lv_aload_n hx hb dX8_roomOf_116 rfl (lv_at hl 0 rfl) ?_
  refine lv_iload hx hb dX8_roomOf_117 (lv_at hl 5 rfl) ?_
  refine lv_iconst (v := 1) hx hb dX8_roomOf_119 (by decide) ?_
  obtain ⟨z2, h1, h⟩ := bv_s h
  refine x_Vv (Rz := z2) (As := [.int v6, .int 1]) (rest := []) ⟨hx, hb, hml, hown, hts⟩ hK hP hS (kd_lt k_153 (by decide)) (cell_8 k_153) rfl (m_X8_count hG   h1) (cwV 2 hts (gV lw_1154 lw_1156 lw_34 lw_121 lw_1157) rfl rfl rfl (by decide +kernel) (rmd_ok (by decide) (by decide))) rfl hl.1 rfl (Nat.le_of_ble_eq_true rfl) dX8_roomOf_120 ⟨Nat.le_refl _, Nat.le_refl _⟩ (fun H locs hP hS => ?_)
  exact pf_X8_roomOf_123 C  hk_41 v2 v3 v4 v5 z2  hP hS (lv_sub hl [0, 1, 2, 3, 4] rfl) h
def fn_X8_roomOf_41 : Nat → Int32 → Int32 → Int32 → Int32 → St → Option (Int32 × St)
  | 0, _, _, _, _, _ => none
  | n + 1, v2, v3, v4, v5, z => (if (z.1 34 2) ≤ v5 then some (v4, z) else gd (ix v5 24) (bd (fn_X7_areaOf  2 (35 + 1 + (Int32.toNatClampNeg v5)) z) (fun r4 z5 => bd (fn_X1_isFree  34 v5 z5) (fun r7 z8 => (if r7 = 0 then fn_X8_roomOf_123  (fn_X8_roomOf_41   n) v2 v3 v4 v5 z8 else (if (r4 - v3) ≤ v4 then fn_X8_roomOf_123  (fn_X8_roomOf_41   n) v2 v3 v4 v5 z8 else bv (fn_X8_count  r4 (-1) z8) (fun z12 => bd (fn_X8_matched   z12) (fun r14 z15 => (if (r14 + 1) = v2 then nm (r4 - v3) (fun v4_17 => fn_X8_roomOf_116  (fn_X8_roomOf_41   n) v2 v3 v4_17 v5 r4 z15) else fn_X8_roomOf_116  (fn_X8_roomOf_41   n) v2 v3 v4 v5 r4 z15)))))))))
set_option maxHeartbeats 4000000 in
set_option maxRecDepth 100000 in
theorem pf_X8_roomOf_41 {p : Program} {l : Launch} {e : Env} {s : State} {m : MethodId} {args : Array Value} {below : List Frame} {meth : Method} {c : Code} {G : wG} (C : CX p s m args meth c cX8_roomOf 7 (wsU yX8_roomOf cX8_roomOf 7 (some .int)) RX8 (some .int) G) {Rz : Int32 × St} : ∀ (n : Nat) (v2 : Int32) (v3 : Int32) (v4 : Int32) (v5 : Int32) (z : St)  (H : Heap) (locs : List Loc) (ls : Array Slot), WP G z H → va_S (AW G) s.heap H locs → lv_has ls 7 [(0, .ref (G.2.2 153)), (2, .int v2), (3, .int v3), (4, .int v4), (5, .int v5)] → fn_X8_roomOf_41   n v2 v3 v4 v5 z = some Rz → W p l e (rmd 5) s m args below meth c H locs 0 0 (QI below args s G Rz) (F0 m 41 ls []) := by
  obtain ⟨hx, hb, hml, hown, hts, hr, hlocks, hK, hG⟩ := id C
  intro n
  induction n with
  | zero => intro v2 v3 v4 v5 z  H locs ls hP hS hl h; cases h
  | succ n ih =>
    intro v2 v3 v4 v5 z  H locs ls hP hS hl h
    rw [fn_X8_roomOf_41] at h
    refine lv_iload hx hb dX8_roomOf_41 (lv_at hl 4 rfl) ?_
    refine lv_aload_n hx hb dX8_roomOf_43 rfl (lv_at hl 0 rfl) ?_
    refine ge_8_1 hx hb hts (inU inW_X8) hown hK hP k_153 (hts _ (List.mem_cons_of_mem _ lw_528)) dX8_roomOf_44 ?_
    refine ge_1_2 hx hb hts (inU inW_X1) hown hK hP k_34 (hts _ (List.mem_cons_of_mem _ lw_422)) dX8_roomOf_47 ?_
    refine lv_icmp_ge (tgt := 129) hx hb dX8_roomOf_50 (by decide) (fun c1 => ?_) (fun c1 => ?_)
    · rw [if_pos c1] at h
      refine lv_iload hx hb dX8_roomOf_129 (lv_at hl 3 rfl) ?_
      exact x_iret hx hb hr hlocks hK hP hS h dX8_roomOf_131
    · rw [if_neg c1] at h
      refine lv_aload_n hx hb dX8_roomOf_53 rfl (lv_at hl 0 rfl) ?_
      refine ge_8_0 hx hb hts (inU inW_X8) hown hK hP k_153 (hts _ (List.mem_cons_of_mem _ lw_527)) dX8_roomOf_54 ?_
      refine lv_aload_n hx hb dX8_roomOf_57 rfl (lv_at hl 0 rfl) ?_
      refine ge_8_1 hx hb hts (inU inW_X8) hown hK hP k_153 (hts _ (List.mem_cons_of_mem _ lw_528)) dX8_roomOf_58 ?_
      refine ge_1_0 hx hb hts (inU inW_X1) hown hK hP k_34 (hts _ (List.mem_cons_of_mem _ lw_414)) dX8_roomOf_61 ?_
      refine lv_iload hx hb dX8_roomOf_64 (lv_at hl 4 rfl) ?_
      obtain ⟨g2, h⟩ := gd_s h
      refine xl_18 hx hb hK hP k_35 l_35 (ix_in g2) dX8_roomOf_66 ?_
      obtain ⟨r4, z5, h3, h⟩ := bd_s h
      refine x_Vi (Rz := (r4, z5)) (As := [.ref (G.2.2 (35 + 1 + (Int32.toNatClampNeg v5)))]) (rest := []) ⟨hx, hb, hml, hown, hts⟩ hK hP hS (kd_lt k_2 (by decide)) (cell_7 k_2) rfl (m_X7_areaOf hG  k_2 (ke_18 k_35 (ix_lt g2)) h3) (cwV 1 hts (gV lw_1136 lw_947 lw_948 lw_110 lw_949) rfl rfl rfl (by decide +kernel) (rmd_ok (by decide) (by decide))) rfl hl.1 rfl (Nat.le_of_ble_eq_true rfl) dX8_roomOf_67 ⟨Nat.le_refl _, Nat.le_refl _⟩ (fun H locs hP hS => ?_)
      refine lv_istore (lv' := [(6, .int r4), (0, .ref (G.2.2 153)), (2, .int v2), (3, .int v3), (4, .int v4), (5, .int v5)]) hx hb dX8_roomOf_70 hl (by decide) rfl (fun ls hl => ?_)
      refine lv_aload_n hx hb dX8_roomOf_72 rfl (lv_at hl 1 rfl) ?_
      refine ge_8_1 hx hb hts (inU inW_X8) hown hK hP k_153 (hts _ (List.mem_cons_of_mem _ lw_528)) dX8_roomOf_73 ?_
      refine lv_iload hx hb dX8_roomOf_76 (lv_at hl 5 rfl) ?_
      obtain ⟨r7, z8, h6, h⟩ := bd_s h
      refine x_Vi (Rz := (r7, z8)) (As := [.int v5]) (rest := []) ⟨hx, hb, hml, hown, hts⟩ hK hP hS (kd_lt k_34 (by decide)) (cell_1 k_34) rfl (m_X1_isFree hG  k_34 h6) (cwV 1 hts (gV lw_1135 lw_1010 lw_1011 lw_117 lw_1012) rfl rfl rfl (by decide +kernel) (rmd_ok (by decide) (by decide))) rfl hl.1 rfl (Nat.le_of_ble_eq_true rfl) dX8_roomOf_78 ⟨Nat.le_refl _, Nat.le_refl _⟩ (fun H locs hP hS => ?_)
      refine lv_if_eq (tgt := 123) hx hb dX8_roomOf_81 (by decide) (fun c9 => ?_) (fun c9 => ?_)
      · rw [if_pos c9] at h
        exact pf_X8_roomOf_123 C  ih v2 v3 v4 v5 z8  hP hS (lv_sub hl [1, 2, 3, 4, 5] rfl) h
      · rw [if_neg c9] at h
        refine lv_iload hx hb dX8_roomOf_84 (lv_at hl 0 rfl) ?_
        refine lv_iload_n hx hb dX8_roomOf_86 rfl (lv_at hl 3 rfl) ?_
        refine lv_isub hx hb dX8_roomOf_87 ?_
        refine lv_iload hx hb dX8_roomOf_88 (lv_at hl 4 rfl) ?_
        refine lv_icmp_le (tgt := 123) hx hb dX8_roomOf_90 (by decide) (fun c10 => ?_) (fun c10 => ?_)
        · rw [if_pos c10] at h
          exact pf_X8_roomOf_123 C  ih v2 v3 v4 v5 z8  hP hS (lv_sub hl [1, 2, 3, 4, 5] rfl) h
        · rw [if_neg c10] at h
          refine lv_aload_n hx hb dX8_roomOf_93 rfl (lv_at hl 1 rfl) ?_
          refine lv_iload hx hb dX8_roomOf_94 (lv_at hl 0 rfl) ?_
          refine lv_iconst (v := (-1)) hx hb dX8_roomOf_96 (by decide) ?_
          obtain ⟨z12, h11, h⟩ := bv_s h
          refine x_Vv (Rz := z12) (As := [.int r4, .int (-1)]) (rest := []) ⟨hx, hb, hml, hown, hts⟩ hK hP hS (kd_lt k_153 (by decide)) (cell_8 k_153) rfl (m_X8_count hG   h11) (cwV 2 hts (gV lw_1154 lw_1156 lw_34 lw_121 lw_1157) rfl rfl rfl (by decide +kernel) (rmd_ok (by decide) (by decide))) rfl hl.1 rfl (Nat.le_of_ble_eq_true rfl) dX8_roomOf_97 ⟨Nat.le_refl _, Nat.le_refl _⟩ (fun H locs hP hS => ?_)
          refine lv_aload_n hx hb dX8_roomOf_100 rfl (lv_at hl 1 rfl) ?_
          obtain ⟨r14, z15, h13, h⟩ := bd_s h
          refine x_Vi (Rz := (r14, z15)) (As := []) (rest := []) ⟨hx, hb, hml, hown, hts⟩ hK hP hS (kd_lt k_153 (by decide)) (cell_8 k_153) rfl (m_X8_matched hG   h13) (cwV 0 hts (gV lw_1158 lw_1160 lw_35 lw_121 lw_1161) rfl rfl rfl (by decide +kernel) (rmd_ok (by decide) (by decide))) rfl hl.1 rfl (Nat.le_of_ble_eq_true rfl) dX8_roomOf_101 ⟨Nat.le_refl _, Nat.le_refl _⟩ (fun H locs hP hS => ?_)
          refine lv_iconst (v := 1) hx hb dX8_roomOf_104 (by decide) ?_
          refine lv_iadd hx hb dX8_roomOf_105 ?_
          refine lv_iload_n hx hb dX8_roomOf_106 rfl (lv_at hl 2 rfl) ?_
          refine lv_icmp_ne (tgt := 116) hx hb dX8_roomOf_107 (by decide) (fun c16 => ?_) (fun c16 => ?_)
          · rw [if_neg c16] at h
            exact pf_X8_roomOf_116 C  ih v2 v3 v4 v5 r4 z15  hP hS (lv_sub hl [1, 2, 3, 4, 5, 0] rfl) h
          · rw [if_pos c16] at h
            refine lv_iload hx hb dX8_roomOf_110 (lv_at hl 0 rfl) ?_
            refine lv_iload_n hx hb dX8_roomOf_112 rfl (lv_at hl 3 rfl) ?_
            refine lv_isub hx hb dX8_roomOf_113 ?_
            obtain ⟨v4_17, e_v4_17, h⟩ := nm_s h
            refine x_top e_v4_17 ?_
            refine lv_istore (lv' := [(4, .int v4_17), (6, .int r4), (0, .ref (G.2.2 153)), (2, .int v2), (3, .int v3), (5, .int v5)]) hx hb dX8_roomOf_114 hl (by decide) rfl (fun ls hl => ?_)
            exact pf_X8_roomOf_116 C  ih v2 v3 v4_17 v5 r4 z15  hP hS (lv_sub hl [2, 3, 4, 0, 5, 1] rfl) h
def fn_X8_roomOf (v1 : Int32) (z : St) : Option (Int32 × St) := bd (fn_X7_isGuest  2 v1 z) (fun r2 z3 => (if r2 = 0 then some ((-1), z3) else bd (fn_X8_servedIf  0 z3) (fun r6 z7 => gd (ix v1 6) (nm (z7.1 8 (Int32.toNatClampNeg v1)) (fun v3_9 => bv (fn_X8_prepare  0 v1 z7) (fun z11 => fn_X8_roomOf_41   fu r6 v3_9 (-1) 0 z11))))))
set_option maxHeartbeats 4000000 in
set_option maxRecDepth 100000 in
theorem m_X8_roomOf {l : Launch} {G : wG} (hG : Ok G) {v1 : Int32} {z : St} {Rz : Int32 × St}  (h : fn_X8_roomOf  v1 z = some Rz) : Met l yX8_roomOf (wsU yX8_roomOf cX8_roomOf 7 (some .int)) (rmd 5) (va_Pc [.ref (G.2.2 153), .int v1] (Pre G z)) (va_Qi (fun r u => (r, u) = Rz) (Pre G) (AW G)) 0 0 (AW G) := by
  refine Met.ofW (cc := cX8_roomOf) (maxL := 7) (ret := (some .int)) (by decide) rfl ?_
  intro p e s m args below meth c s₁ B hml hv
  obtain ⟨rfl, hP, hK⟩ := hv
  have C : CX p s m ([.ref (G.2.2 153), .int v1] : List Value).toArray meth c cX8_roomOf 7 (wsU yX8_roomOf cX8_roomOf 7 (some .int)) RX8 (some .int) G := ⟨B.exec, B.bytes, hml, findClass_of_methodNamed B.named, atoms_spec (ws := (wsU yX8_roomOf cX8_roomOf 7 (some .int))) B.pre, B.returns, B.notSynchronized, hK, hG⟩
  obtain ⟨hx, hb, -, hown, hts, hr, hlocks, -, -⟩ := id C
  have hS : va_S (AW G) s.heap s.heap [] := va_S.rf
  have hl := lv_entry [.ref (G.2.2 153), .int v1] (n := 7) (Nat.le_of_ble_eq_true rfl)
  rw [lg_entry_eq]
  generalize (lg_sl [.ref (G.2.2 153), .int v1] ++ List.replicate (7 - (lg_sl [.ref (G.2.2 153), .int v1]).length) Slot.unset).toArray = ls at hl ⊢
  have hl : lv_has ls 7 [(0, .ref (G.2.2 153)), (1, .int v1)] := hl
  unfold fn_X8_roomOf at h
  refine lv_aload_n hx hb dX8_roomOf_0 rfl (lv_at hl 0 rfl) ?_
  refine ge_8_0 hx hb hts (inU inW_X8) hown hK hP k_153 (hts _ (List.mem_cons_of_mem _ lw_527)) dX8_roomOf_1 ?_
  refine lv_iload_n hx hb dX8_roomOf_4 rfl (lv_at hl 1 rfl) ?_
  obtain ⟨r2, z3, h1, h⟩ := bd_s h
  refine x_Vi (Rz := (r2, z3)) (As := [.int v1]) (rest := []) ⟨hx, hb, hml, hown, hts⟩ hK hP hS (kd_lt k_2 (by decide)) (cell_7 k_2) rfl (m_X7_isGuest hG  k_2 h1) (cwV 1 hts (gV lw_1134 lw_963 lw_964 lw_110 lw_965) rfl rfl rfl (by decide +kernel) (rmd_ok (by decide) (by decide))) rfl hl.1 rfl (Nat.le_of_ble_eq_true rfl) dX8_roomOf_5 ⟨Nat.le_refl _, Nat.le_refl _⟩ (fun H locs hP hS => ?_)
  refine lv_if_ne (tgt := 13) hx hb dX8_roomOf_8 (by decide) (fun c4 => ?_) (fun c4 => ?_)
  · rw [if_neg c4] at h
    refine lv_aload_n hx hb dX8_roomOf_13 rfl (lv_at hl 0 rfl) ?_
    refine lv_iconst (v := 0) hx hb dX8_roomOf_14 (by decide) ?_
    obtain ⟨r6, z7, h5, h⟩ := bd_s h
    refine x_Vi (Rz := (r6, z7)) (As := [.int 0]) (rest := []) ⟨hx, hb, hml, hown, hts⟩ hK hP hS (kd_lt k_153 (by decide)) (cell_8 k_153) rfl (m_X8_servedIf hG   h5) (cwV 1 hts (gV lw_1184 lw_1142 lw_1143 lw_121 lw_1144) rfl rfl rfl (by decide +kernel) (rmd_ok (by decide) (by decide))) rfl hl.1 rfl (Nat.le_of_ble_eq_true rfl) dX8_roomOf_15 ⟨Nat.le_refl _, Nat.le_refl _⟩ (fun H locs hP hS => ?_)
    refine lv_istore_n (lv' := [(2, .int r6), (0, .ref (G.2.2 153)), (1, .int v1)]) hx hb dX8_roomOf_18 rfl hl (by decide) rfl (fun ls hl => ?_)
    refine lv_aload_n hx hb dX8_roomOf_19 rfl (lv_at hl 1 rfl) ?_
    refine ge_8_0 hx hb hts (inU inW_X8) hown hK hP k_153 (hts _ (List.mem_cons_of_mem _ lw_527)) dX8_roomOf_20 ?_
    refine ge_7_7 hx hb hts (inU inW_X7) hown hK hP k_2 (hts _ (List.mem_cons_of_mem _ lw_203)) dX8_roomOf_23 ?_
    refine lv_iload_n hx hb dX8_roomOf_26 rfl (lv_at hl 2 rfl) ?_
    obtain ⟨g8, h⟩ := gd_s h
    refine xl_14 hx hb hK hP k_8 l_8 (ix_in g8) dX8_roomOf_27 ?_
    obtain ⟨v3_9, e_v3_9, h⟩ := nm_s h
    refine x_top e_v3_9 ?_
    refine lv_istore_n (lv' := [(3, .int v3_9), (2, .int r6), (0, .ref (G.2.2 153)), (1, .int v1)]) hx hb dX8_roomOf_28 rfl hl (by decide) rfl (fun ls hl => ?_)
    refine lv_aload_n hx hb dX8_roomOf_29 rfl (lv_at hl 2 rfl) ?_
    refine lv_iconst (v := 0) hx hb dX8_roomOf_30 (by decide) ?_
    refine lv_iload_n hx hb dX8_roomOf_31 rfl (lv_at hl 3 rfl) ?_
    obtain ⟨z11, h10, h⟩ := bv_s h
    refine x_Vv (Rz := z11) (As := [.int 0, .int v1]) (rest := []) ⟨hx, hb, hml, hown, hts⟩ hK hP hS (kd_lt k_153 (by decide)) (cell_8 k_153) rfl (m_X8_prepare hG   h10) (cwV 2 hts (gV lw_1145 lw_1147 lw_32 lw_121 lw_1148) rfl rfl rfl (by decide +kernel) (rmd_ok (by decide) (by decide))) rfl hl.1 rfl (Nat.le_of_ble_eq_true rfl) dX8_roomOf_32 ⟨Nat.le_refl _, Nat.le_refl _⟩ (fun H locs hP hS => ?_)
    refine lv_iconst (v := (-1)) hx hb dX8_roomOf_35 (by decide) ?_
    refine lv_istore (lv' := [(4, .int (-1)), (3, .int v3_9), (2, .int r6), (0, .ref (G.2.2 153)), (1, .int v1)]) hx hb dX8_roomOf_36 hl (by decide) rfl (fun ls hl => ?_)
    refine lv_iconst (v := 0) hx hb dX8_roomOf_38 (by decide) ?_
    refine lv_istore (lv' := [(5, .int 0), (4, .int (-1)), (3, .int v3_9), (2, .int r6), (0, .ref (G.2.2 153)), (1, .int v1)]) hx hb dX8_roomOf_39 hl (by decide) rfl (fun ls hl => ?_)
    exact pf_X8_roomOf_41 C   fu r6 v3_9 (-1) 0 z11  _ _ _ hP hS (lv_sub hl [4, 3, 2, 1, 0] rfl) h
  · rw [if_pos c4] at h
    refine lv_iconst (v := (-1)) hx hb dX8_roomOf_11 (by decide) ?_
    exact x_iret hx hb hr hlocks hK hP hS h dX8_roomOf_12
