def fn_X3_canBe (v1 : Int32) (v2 : Int32) (v3 : Int32) (v4 : Int32) (z : St) : Option (Int32 × St) := (if v3 < 1 then some (0, z) else (if v4 < 1 then some (0, z) else (if v1 < v3 then some (0, z) else (if v2 < v4 then some (0, z) else gd (v3 != 0) ((if (v1 - v1 / v3 * v3) = 0 then gd (v4 != 0) ((if (v2 - v2 / v4 * v4) = 0 then some (1, z) else some (0, z))) else some (0, z)))))))
set_option maxHeartbeats 4000000 in
set_option maxRecDepth 100000 in
theorem m_X3_canBe {l : Launch} {G : wG} (hG : Ok G) {v1 : Int32} {v2 : Int32} {v3 : Int32} {v4 : Int32} {z : St} {Rz : Int32 × St}  (h : fn_X3_canBe  v1 v2 v3 v4 z = some Rz) : Met l yX3_canBe (wsU yX3_canBe cX3_canBe 5 (some .boolean)) (rmd 1) (va_Pc [.ref (G.2.2 161), .int v1, .int v2, .int v3, .int v4] (Pre G z)) (va_Qi (fun r u => (r, u) = Rz) (Pre G) (AW G)) 0 0 (AW G) := by
  refine Met.ofW (cc := cX3_canBe) (maxL := 5) (ret := (some .boolean)) (by decide) rfl ?_
  intro p e s m args below meth c s₁ B hml hv
  obtain ⟨rfl, hP, hK⟩ := hv
  have C : CX p s m ([.ref (G.2.2 161), .int v1, .int v2, .int v3, .int v4] : List Value).toArray meth c cX3_canBe 5 (wsU yX3_canBe cX3_canBe 5 (some .boolean)) RX3 (some .boolean) G := ⟨B.exec, B.bytes, hml, findClass_of_methodNamed B.named, atoms_spec (ws := (wsU yX3_canBe cX3_canBe 5 (some .boolean))) B.pre, B.returns, B.notSynchronized, hK, hG⟩
  obtain ⟨hx, hb, -, hown, hts, hr, hlocks, -, -⟩ := id C
  have hS : va_S (AW G) s.heap s.heap [] := va_S.rf
  have hl := lv_entry [.ref (G.2.2 161), .int v1, .int v2, .int v3, .int v4] (n := 5) (Nat.le_of_ble_eq_true rfl)
  rw [lg_entry_eq]
  generalize (lg_sl [.ref (G.2.2 161), .int v1, .int v2, .int v3, .int v4] ++ List.replicate (5 - (lg_sl [.ref (G.2.2 161), .int v1, .int v2, .int v3, .int v4]).length) Slot.unset).toArray = ls at hl ⊢
  have hl : lv_has ls 5 [(0, .ref (G.2.2 161)), (1, .int v1), (2, .int v2), (3, .int v3), (4, .int v4)] := hl
  unfold fn_X3_canBe at h
  refine lv_iload_n hx hb dX3_canBe_0 rfl (lv_at hl 3 rfl) ?_
  refine lv_iconst (v := 1) hx hb dX3_canBe_1 (by decide) ?_
  refine lv_icmp_lt (tgt := 39) hx hb dX3_canBe_2 (by decide) (fun c1 => ?_) (fun c1 => ?_)
  · rw [if_pos c1] at h
    refine lv_iconst (v := 0) hx hb dX3_canBe_39 (by decide) ?_
    exact x_zret hx hb hr hlocks hK hP hS rfl h dX3_canBe_40
  · rw [if_neg c1] at h
    refine lv_iload hx hb dX3_canBe_5 (lv_at hl 4 rfl) ?_
    refine lv_iconst (v := 1) hx hb dX3_canBe_7 (by decide) ?_
    refine lv_icmp_lt (tgt := 39) hx hb dX3_canBe_8 (by decide) (fun c2 => ?_) (fun c2 => ?_)
    · rw [if_pos c2] at h
      refine lv_iconst (v := 0) hx hb dX3_canBe_39 (by decide) ?_
      exact x_zret hx hb hr hlocks hK hP hS rfl h dX3_canBe_40
    · rw [if_neg c2] at h
      refine lv_iload_n hx hb dX3_canBe_11 rfl (lv_at hl 3 rfl) ?_
      refine lv_iload_n hx hb dX3_canBe_12 rfl (lv_at hl 1 rfl) ?_
      refine lv_icmp_gt (tgt := 39) hx hb dX3_canBe_13 (by decide) (fun c3 => ?_) (fun c3 => ?_)
      · rw [if_pos c3] at h
        refine lv_iconst (v := 0) hx hb dX3_canBe_39 (by decide) ?_
        exact x_zret hx hb hr hlocks hK hP hS rfl h dX3_canBe_40
      · rw [if_neg c3] at h
        refine lv_iload hx hb dX3_canBe_16 (lv_at hl 4 rfl) ?_
        refine lv_iload_n hx hb dX3_canBe_18 rfl (lv_at hl 2 rfl) ?_
        refine lv_icmp_gt (tgt := 39) hx hb dX3_canBe_19 (by decide) (fun c4 => ?_) (fun c4 => ?_)
        · rw [if_pos c4] at h
          refine lv_iconst (v := 0) hx hb dX3_canBe_39 (by decide) ?_
          exact x_zret hx hb hr hlocks hK hP hS rfl h dX3_canBe_40
        · rw [if_neg c4] at h
          refine lv_iload_n hx hb dX3_canBe_22 rfl (lv_at hl 1 rfl) ?_
          refine lv_iload_n hx hb dX3_canBe_23 rfl (lv_at hl 3 rfl) ?_
          obtain ⟨g5, h⟩ := gd_s h
          refine lv_irem hx hb dX3_canBe_24 (bne_z g5) ?_
          refine lv_if_ne (tgt := 39) hx hb dX3_canBe_25 (by decide) (fun c6 => ?_) (fun c6 => ?_)
          · rw [if_neg c6] at h
            refine lv_iconst (v := 0) hx hb dX3_canBe_39 (by decide) ?_
            exact x_zret hx hb hr hlocks hK hP hS rfl h dX3_canBe_40
          · rw [if_pos c6] at h
            refine lv_iload_n hx hb dX3_canBe_28 rfl (lv_at hl 2 rfl) ?_
            refine lv_iload hx hb dX3_canBe_29 (lv_at hl 4 rfl) ?_
            obtain ⟨g7, h⟩ := gd_s h
            refine lv_irem hx hb dX3_canBe_31 (bne_z g7) ?_
            refine lv_if_ne (tgt := 39) hx hb dX3_canBe_32 (by decide) (fun c8 => ?_) (fun c8 => ?_)
            · rw [if_neg c8] at h
              refine lv_iconst (v := 0) hx hb dX3_canBe_39 (by decide) ?_
              exact x_zret hx hb hr hlocks hK hP hS rfl h dX3_canBe_40
            · rw [if_pos c8] at h
              refine lv_iconst (v := 1) hx hb dX3_canBe_35 (by decide) ?_
              refine lv_goto (tgt := 40) hx hb dX3_canBe_36 (by decide) ?_
              exact x_zret hx hb hr hlocks hK hP hS rfl h dX3_canBe_40
def fn_X3_icingSet_105 (k32 : Int32 → Int32 → Int64 → Int32 → Int32 → Int32 → St → Option (Int64 × St)) (k69 : Int32 → Int32 → Int64 → Int32 → Int32 → Int32 → Int32 → Int32 → St → Option (Int64 × St)) (v3 : Int32) (v4 : Int32) (v5 : Int64) (v7 : Int32) (v8 : Int32) (v9 : Int32) (v10 : Int32) (v11 : Int32) (tv0 : Int32) (tv1 : Int32) (z : St) : Option (Int64 × St) := nm (tv0 + tv1) (fun v12_1 => nm (v5 ||| (1 <<< (Int32.toInt64 v12_1 &&& 63))) (fun v5_2 => k69 v3 v4 v5_2 v7 v8 v9 v10 (v11 + 1) z))
set_option maxHeartbeats 4000000 in
set_option maxRecDepth 100000 in
theorem pf_X3_icingSet_105 {p : Program} {l : Launch} {e : Env} {s : State} {m : MethodId} {args : Array Value} {below : List Frame} {meth : Method} {c : Code} {G : wG} (C : CX p s m args meth c cX3_icingSet 13 (wsU yX3_icingSet cX3_icingSet 13 (some .long)) RX3 (some .long) G) {Rz : Int64 × St} {k32 : Int32 → Int32 → Int64 → Int32 → Int32 → Int32 → St → Option (Int64 × St)} {k69 : Int32 → Int32 → Int64 → Int32 → Int32 → Int32 → Int32 → Int32 → St → Option (Int64 × St)} (hk_32 : ∀ (v3 : Int32) (v4 : Int32) (v5 : Int64) (v7 : Int32) (v8 : Int32) (v9 : Int32) (z : St)  (H : Heap) (locs : List Loc) (ls : Array Slot), WP G z H → va_S (AW G) s.heap H locs → lv_has ls 13 [(3, .int v3), (4, .int v4), (5, .long v5), (7, .int v7), (8, .int v8), (9, .int v9)] → k32 v3 v4 v5 v7 v8 v9 z = some Rz → W p l e (rmd 2) s m args below meth c H locs 0 0 (QJ below args s G Rz) (F0 m 32 ls [])) (hk_69 : ∀ (v3 : Int32) (v4 : Int32) (v5 : Int64) (v7 : Int32) (v8 : Int32) (v9 : Int32) (v10 : Int32) (v11 : Int32) (z : St)  (H : Heap) (locs : List Loc) (ls : Array Slot), WP G z H → va_S (AW G) s.heap H locs → lv_has ls 13 [(3, .int v3), (4, .int v4), (5, .long v5), (7, .int v7), (8, .int v8), (9, .int v9), (10, .int v10), (11, .int v11)] → k69 v3 v4 v5 v7 v8 v9 v10 v11 z = some Rz → W p l e (rmd 2) s m args below meth c H locs 0 0 (QJ below args s G Rz) (F0 m 69 ls [])) (v3 : Int32) (v4 : Int32) (v5 : Int64) (v7 : Int32) (v8 : Int32) (v9 : Int32) (v10 : Int32) (v11 : Int32) (tv0 : Int32) (tv1 : Int32) (z : St)  {H : Heap} {locs : List Loc} {ls : Array Slot} (hP : WP G z H) (hS : va_S (AW G) s.heap H locs) (hl : lv_has ls 13 [(3, .int v3), (4, .int v4), (5, .long v5), (7, .int v7), (8, .int v8), (9, .int v9), (10, .int v10), (11, .int v11)]) (h : fn_X3_icingSet_105  k32 k69 v3 v4 v5 v7 v8 v9 v10 v11 tv0 tv1 z = some Rz) : W p l e (rmd 2) s m args below meth c H locs 0 0 (QJ below args s G Rz) (F0 m 105 ls [.int tv1, .int tv0]) := by
  obtain ⟨hx, hb, hml, hown, hts, hr, hlocks, hK, hG⟩ := id C
  unfold fn_X3_icingSet_105 at h
  refine lv_iadd hx hb dX3_icingSet_105 ?_
  obtain ⟨v12_1, e_v12_1, h⟩ := nm_s h
  refine x_top e_v12_1 ?_
  refine lv_istore (lv' := [(12, .int v12_1), (3, .int v3), (4, .int v4), (5, .long v5), (7, .int v7), (8, .int v8), (9, .int v9), (10, .int v10), (11, .int v11)]) hx hb dX3_icingSet_106 hl (by decide) rfl (fun ls hl => ?_)
  refine lv_lload hx hb dX3_icingSet_108 (lv_at hl 3 rfl) ?_
  refine lv_lconst (v := 1) hx hb dX3_icingSet_110 (by decide) ?_
  refine lv_iload hx hb dX3_icingSet_111 (lv_at hl 0 rfl) ?_
  refine lv_lshl hx hb dX3_icingSet_113 rfl ?_
  refine lv_lor hx hb dX3_icingSet_114 ?_
  obtain ⟨v5_2, e_v5_2, h⟩ := nm_s h
  refine x_topl e_v5_2 ?_
  refine lv_lstore (lv' := [(5, .long v5_2), (12, .int v12_1), (3, .int v3), (4, .int v4), (7, .int v7), (8, .int v8), (9, .int v9), (10, .int v10), (11, .int v11)]) hx hb dX3_icingSet_115 hl (by decide) rfl (fun ls hl => ?_)
  refine lv_iinc (v := (v11 + 1)) (lv' := [(11, .int (v11 + 1)), (5, .long v5_2), (12, .int v12_1), (3, .int v3), (4, .int v4), (7, .int v7), (8, .int v8), (9, .int v9), (10, .int v10)]) hx hb dX3_icingSet_117 hl (k := 8) rfl rfl (by decide) rfl (fun ls hl => ?_)
  refine lv_goto (tgt := 69) hx hb dX3_icingSet_120 (by decide) ?_
  exact hk_69 v3 v4 v5_2 v7 v8 v9 v10 (v11 + 1) z  _ _ _ hP hS (lv_sub hl [3, 4, 1, 5, 6, 7, 8, 0] rfl) h
def fn_X3_icingSet_89 (k32 : Int32 → Int32 → Int64 → Int32 → Int32 → Int32 → St → Option (Int64 × St)) (k69 : Int32 → Int32 → Int64 → Int32 → Int32 → Int32 → Int32 → Int32 → St → Option (Int64 × St)) (v3 : Int32) (v4 : Int32) (v5 : Int64) (v7 : Int32) (v8 : Int32) (v9 : Int32) (v10 : Int32) (v11 : Int32) (tv0 : Int32) (tv1 : Int32) (z : St) : Option (Int64 × St) := (if v11 = (v4 - 1) then fn_X3_icingSet_105  k32 k69 v3 v4 v5 v7 v8 v9 v10 v11 (tv0 + tv1) v7 z else fn_X3_icingSet_105  k32 k69 v3 v4 v5 v7 v8 v9 v10 v11 (tv0 + tv1) 0 z)
set_option maxHeartbeats 4000000 in
set_option maxRecDepth 100000 in
theorem pf_X3_icingSet_89 {p : Program} {l : Launch} {e : Env} {s : State} {m : MethodId} {args : Array Value} {below : List Frame} {meth : Method} {c : Code} {G : wG} (C : CX p s m args meth c cX3_icingSet 13 (wsU yX3_icingSet cX3_icingSet 13 (some .long)) RX3 (some .long) G) {Rz : Int64 × St} {k32 : Int32 → Int32 → Int64 → Int32 → Int32 → Int32 → St → Option (Int64 × St)} {k69 : Int32 → Int32 → Int64 → Int32 → Int32 → Int32 → Int32 → Int32 → St → Option (Int64 × St)} (hk_32 : ∀ (v3 : Int32) (v4 : Int32) (v5 : Int64) (v7 : Int32) (v8 : Int32) (v9 : Int32) (z : St)  (H : Heap) (locs : List Loc) (ls : Array Slot), WP G z H → va_S (AW G) s.heap H locs → lv_has ls 13 [(3, .int v3), (4, .int v4), (5, .long v5), (7, .int v7), (8, .int v8), (9, .int v9)] → k32 v3 v4 v5 v7 v8 v9 z = some Rz → W p l e (rmd 2) s m args below meth c H locs 0 0 (QJ below args s G Rz) (F0 m 32 ls [])) (hk_69 : ∀ (v3 : Int32) (v4 : Int32) (v5 : Int64) (v7 : Int32) (v8 : Int32) (v9 : Int32) (v10 : Int32) (v11 : Int32) (z : St)  (H : Heap) (locs : List Loc) (ls : Array Slot), WP G z H → va_S (AW G) s.heap H locs → lv_has ls 13 [(3, .int v3), (4, .int v4), (5, .long v5), (7, .int v7), (8, .int v8), (9, .int v9), (10, .int v10), (11, .int v11)] → k69 v3 v4 v5 v7 v8 v9 v10 v11 z = some Rz → W p l e (rmd 2) s m args below meth c H locs 0 0 (QJ below args s G Rz) (F0 m 69 ls [])) (v3 : Int32) (v4 : Int32) (v5 : Int64) (v7 : Int32) (v8 : Int32) (v9 : Int32) (v10 : Int32) (v11 : Int32) (tv0 : Int32) (tv1 : Int32) (z : St)  {H : Heap} {locs : List Loc} {ls : Array Slot} (hP : WP G z H) (hS : va_S (AW G) s.heap H locs) (hl : lv_has ls 13 [(3, .int v3), (4, .int v4), (5, .long v5), (7, .int v7), (8, .int v8), (9, .int v9), (10, .int v10), (11, .int v11)]) (h : fn_X3_icingSet_89  k32 k69 v3 v4 v5 v7 v8 v9 v10 v11 tv0 tv1 z = some Rz) : W p l e (rmd 2) s m args below meth c H locs 0 0 (QJ below args s G Rz) (F0 m 89 ls [.int tv1, .int tv0]) := by
  obtain ⟨hx, hb, hml, hown, hts, hr, hlocks, hK, hG⟩ := id C
  unfold fn_X3_icingSet_89 at h
  refine lv_iadd hx hb dX3_icingSet_89 ?_
  refine lv_iload hx hb dX3_icingSet_90 (lv_at hl 7 rfl) ?_
  refine lv_iload hx hb dX3_icingSet_92 (lv_at hl 1 rfl) ?_
  refine lv_iconst (v := 1) hx hb dX3_icingSet_94 (by decide) ?_
  refine lv_isub hx hb dX3_icingSet_95 ?_
  refine lv_icmp_ne (tgt := 104) hx hb dX3_icingSet_96 (by decide) (fun c1 => ?_) (fun c1 => ?_)
  · rw [if_neg c1] at h
    refine lv_iconst (v := 0) hx hb dX3_icingSet_104 (by decide) ?_
    exact pf_X3_icingSet_105 C  hk_32 hk_69 v3 v4 v5 v7 v8 v9 v10 v11 (tv0 + tv1) 0 z  hP hS (lv_sub hl [0, 1, 2, 3, 4, 5, 6, 7] rfl) h
  · rw [if_pos c1] at h
    refine lv_iload hx hb dX3_icingSet_99 (lv_at hl 3 rfl) ?_
    refine lv_goto (tgt := 105) hx hb dX3_icingSet_101 (by decide) ?_
    exact pf_X3_icingSet_105 C  hk_32 hk_69 v3 v4 v5 v7 v8 v9 v10 v11 (tv0 + tv1) v7 z  hP hS (lv_sub hl [0, 1, 2, 3, 4, 5, 6, 7] rfl) h
def fn_X3_icingSet_69 (k32 : Int32 → Int32 → Int64 → Int32 → Int32 → Int32 → St → Option (Int64 × St)) : Nat → Int32 → Int32 → Int64 → Int32 → Int32 → Int32 → Int32 → Int32 → St → Option (Int64 × St)
  | 0, _, _, _, _, _, _, _, _, _ => none
  | n + 1, v3, v4, v5, v7, v8, v9, v10, v11, z => (if v4 ≤ v11 then k32 v3 v4 v5 v7 v8 (v9 + 1) z else (if v11 = 0 then fn_X3_icingSet_89  k32 (fn_X3_icingSet_69  k32 n) v3 v4 v5 v7 v8 v9 v10 v11 v10 v7 z else fn_X3_icingSet_89  k32 (fn_X3_icingSet_69  k32 n) v3 v4 v5 v7 v8 v9 v10 v11 v10 0 z))
set_option maxHeartbeats 4000000 in
set_option maxRecDepth 100000 in
theorem pf_X3_icingSet_69 {p : Program} {l : Launch} {e : Env} {s : State} {m : MethodId} {args : Array Value} {below : List Frame} {meth : Method} {c : Code} {G : wG} (C : CX p s m args meth c cX3_icingSet 13 (wsU yX3_icingSet cX3_icingSet 13 (some .long)) RX3 (some .long) G) {Rz : Int64 × St} {k32 : Int32 → Int32 → Int64 → Int32 → Int32 → Int32 → St → Option (Int64 × St)} (hk_32 : ∀ (v3 : Int32) (v4 : Int32) (v5 : Int64) (v7 : Int32) (v8 : Int32) (v9 : Int32) (z : St)  (H : Heap) (locs : List Loc) (ls : Array Slot), WP G z H → va_S (AW G) s.heap H locs → lv_has ls 13 [(3, .int v3), (4, .int v4), (5, .long v5), (7, .int v7), (8, .int v8), (9, .int v9)] → k32 v3 v4 v5 v7 v8 v9 z = some Rz → W p l e (rmd 2) s m args below meth c H locs 0 0 (QJ below args s G Rz) (F0 m 32 ls [])) : ∀ (n : Nat) (v3 : Int32) (v4 : Int32) (v5 : Int64) (v7 : Int32) (v8 : Int32) (v9 : Int32) (v10 : Int32) (v11 : Int32) (z : St)  (H : Heap) (locs : List Loc) (ls : Array Slot), WP G z H → va_S (AW G) s.heap H locs → lv_has ls 13 [(3, .int v3), (4, .int v4), (5, .long v5), (7, .int v7), (8, .int v8), (9, .int v9), (10, .int v10), (11, .int v11)] → fn_X3_icingSet_69  k32 n v3 v4 v5 v7 v8 v9 v10 v11 z = some Rz → W p l e (rmd 2) s m args below meth c H locs 0 0 (QJ below args s G Rz) (F0 m 69 ls []) := by
  obtain ⟨hx, hb, hml, hown, hts, hr, hlocks, hK, hG⟩ := id C
  intro n
  induction n with
  | zero => intro v3 v4 v5 v7 v8 v9 v10 v11 z  H locs ls hP hS hl h; cases h
  | succ n ih =>
    intro v3 v4 v5 v7 v8 v9 v10 v11 z  H locs ls hP hS hl h
    rw [fn_X3_icingSet_69] at h
    refine lv_iload hx hb dX3_icingSet_69 (lv_at hl 7 rfl) ?_
    refine lv_iload hx hb dX3_icingSet_71 (lv_at hl 1 rfl) ?_
    refine lv_icmp_ge (tgt := 123) hx hb dX3_icingSet_73 (by decide) (fun c1 => ?_) (fun c1 => ?_)
    · rw [if_pos c1] at h
      refine lv_iinc (v := (v9 + 1)) (lv' := [(9, .int (v9 + 1)), (3, .int v3), (4, .int v4), (5, .long v5), (7, .int v7), (8, .int v8), (10, .int v10), (11, .int v11)]) hx hb dX3_icingSet_123 hl (k := 5) rfl rfl (by decide) rfl (fun ls hl => ?_)
      refine lv_goto (tgt := 32) hx hb dX3_icingSet_126 (by decide) ?_
      exact hk_32 v3 v4 v5 v7 v8 (v9 + 1) z  _ _ _ hP hS (lv_sub hl [1, 2, 3, 4, 5, 0] rfl) h
    · rw [if_neg c1] at h
      refine lv_iload hx hb dX3_icingSet_76 (lv_at hl 6 rfl) ?_
      refine lv_iload hx hb dX3_icingSet_78 (lv_at hl 7 rfl) ?_
      refine lv_if_ne (tgt := 88) hx hb dX3_icingSet_80 (by decide) (fun c2 => ?_) (fun c2 => ?_)
      · rw [if_neg c2] at h
        refine lv_iconst (v := 0) hx hb dX3_icingSet_88 (by decide) ?_
        exact pf_X3_icingSet_89 C  hk_32 ih v3 v4 v5 v7 v8 v9 v10 v11 v10 0 z  hP hS (lv_sub hl [0, 1, 2, 3, 4, 5, 6, 7] rfl) h
      · rw [if_pos c2] at h
        refine lv_iload hx hb dX3_icingSet_83 (lv_at hl 3 rfl) ?_
        refine lv_goto (tgt := 89) hx hb dX3_icingSet_85 (by decide) ?_
        exact pf_X3_icingSet_89 C  hk_32 ih v3 v4 v5 v7 v8 v9 v10 v11 v10 v7 z  hP hS (lv_sub hl [0, 1, 2, 3, 4, 5, 6, 7] rfl) h
def fn_X3_icingSet_63 (k32 : Int32 → Int32 → Int64 → Int32 → Int32 → Int32 → St → Option (Int64 × St)) (v3 : Int32) (v4 : Int32) (v5 : Int64) (v7 : Int32) (v8 : Int32) (v9 : Int32) (tv0 : Int32) (tv1 : Int32) (z : St) : Option (Int64 × St) := nm (tv0 + tv1) (fun v10_1 => fn_X3_icingSet_69  k32 fu v3 v4 v5 v7 v8 v9 v10_1 0 z)
set_option maxHeartbeats 4000000 in
set_option maxRecDepth 100000 in
theorem pf_X3_icingSet_63 {p : Program} {l : Launch} {e : Env} {s : State} {m : MethodId} {args : Array Value} {below : List Frame} {meth : Method} {c : Code} {G : wG} (C : CX p s m args meth c cX3_icingSet 13 (wsU yX3_icingSet cX3_icingSet 13 (some .long)) RX3 (some .long) G) {Rz : Int64 × St} {k32 : Int32 → Int32 → Int64 → Int32 → Int32 → Int32 → St → Option (Int64 × St)} (hk_32 : ∀ (v3 : Int32) (v4 : Int32) (v5 : Int64) (v7 : Int32) (v8 : Int32) (v9 : Int32) (z : St)  (H : Heap) (locs : List Loc) (ls : Array Slot), WP G z H → va_S (AW G) s.heap H locs → lv_has ls 13 [(3, .int v3), (4, .int v4), (5, .long v5), (7, .int v7), (8, .int v8), (9, .int v9)] → k32 v3 v4 v5 v7 v8 v9 z = some Rz → W p l e (rmd 2) s m args below meth c H locs 0 0 (QJ below args s G Rz) (F0 m 32 ls [])) (v3 : Int32) (v4 : Int32) (v5 : Int64) (v7 : Int32) (v8 : Int32) (v9 : Int32) (tv0 : Int32) (tv1 : Int32) (z : St)  {H : Heap} {locs : List Loc} {ls : Array Slot} (hP : WP G z H) (hS : va_S (AW G) s.heap H locs) (hl : lv_has ls 13 [(3, .int v3), (4, .int v4), (5, .long v5), (7, .int v7), (8, .int v8), (9, .int v9)]) (h : fn_X3_icingSet_63  k32 v3 v4 v5 v7 v8 v9 tv0 tv1 z = some Rz) : W p l e (rmd 2) s m args below meth c H locs 0 0 (QJ below args s G Rz) (F0 m 63 ls [.int tv1, .int tv0]) := by
  obtain ⟨hx, hb, hml, hown, hts, hr, hlocks, hK, hG⟩ := id C
  unfold fn_X3_icingSet_63 at h
  refine lv_iadd hx hb dX3_icingSet_63 ?_
  obtain ⟨v10_1, e_v10_1, h⟩ := nm_s h
  refine x_top e_v10_1 ?_
  refine lv_istore (lv' := [(10, .int v10_1), (3, .int v3), (4, .int v4), (5, .long v5), (7, .int v7), (8, .int v8), (9, .int v9)]) hx hb dX3_icingSet_64 hl (by decide) rfl (fun ls hl => ?_)
  refine lv_iconst (v := 0) hx hb dX3_icingSet_66 (by decide) ?_
  refine lv_istore (lv' := [(11, .int 0), (10, .int v10_1), (3, .int v3), (4, .int v4), (5, .long v5), (7, .int v7), (8, .int v8), (9, .int v9)]) hx hb dX3_icingSet_67 hl (by decide) rfl (fun ls hl => ?_)
  exact pf_X3_icingSet_69 C  hk_32 fu v3 v4 v5 v7 v8 v9 v10_1 0 z  _ _ _ hP hS (lv_sub hl [2, 3, 4, 5, 6, 7, 1, 0] rfl) h
def fn_X3_icingSet_49 (k32 : Int32 → Int32 → Int64 → Int32 → Int32 → Int32 → St → Option (Int64 × St)) (v3 : Int32) (v4 : Int32) (v5 : Int64) (v7 : Int32) (v8 : Int32) (v9 : Int32) (tv0 : Int32) (z : St) : Option (Int64 × St) := (if v9 = (v3 - 1) then fn_X3_icingSet_63  k32 v3 v4 v5 v7 v8 v9 tv0 v8 z else fn_X3_icingSet_63  k32 v3 v4 v5 v7 v8 v9 tv0 0 z)
set_option maxHeartbeats 4000000 in
set_option maxRecDepth 100000 in
theorem pf_X3_icingSet_49 {p : Program} {l : Launch} {e : Env} {s : State} {m : MethodId} {args : Array Value} {below : List Frame} {meth : Method} {c : Code} {G : wG} (C : CX p s m args meth c cX3_icingSet 13 (wsU yX3_icingSet cX3_icingSet 13 (some .long)) RX3 (some .long) G) {Rz : Int64 × St} {k32 : Int32 → Int32 → Int64 → Int32 → Int32 → Int32 → St → Option (Int64 × St)} (hk_32 : ∀ (v3 : Int32) (v4 : Int32) (v5 : Int64) (v7 : Int32) (v8 : Int32) (v9 : Int32) (z : St)  (H : Heap) (locs : List Loc) (ls : Array Slot), WP G z H → va_S (AW G) s.heap H locs → lv_has ls 13 [(3, .int v3), (4, .int v4), (5, .long v5), (7, .int v7), (8, .int v8), (9, .int v9)] → k32 v3 v4 v5 v7 v8 v9 z = some Rz → W p l e (rmd 2) s m args below meth c H locs 0 0 (QJ below args s G Rz) (F0 m 32 ls [])) (v3 : Int32) (v4 : Int32) (v5 : Int64) (v7 : Int32) (v8 : Int32) (v9 : Int32) (tv0 : Int32) (z : St)  {H : Heap} {locs : List Loc} {ls : Array Slot} (hP : WP G z H) (hS : va_S (AW G) s.heap H locs) (hl : lv_has ls 13 [(3, .int v3), (4, .int v4), (5, .long v5), (7, .int v7), (8, .int v8), (9, .int v9)]) (h : fn_X3_icingSet_49  k32 v3 v4 v5 v7 v8 v9 tv0 z = some Rz) : W p l e (rmd 2) s m args below meth c H locs 0 0 (QJ below args s G Rz) (F0 m 49 ls [.int tv0]) := by
  obtain ⟨hx, hb, hml, hown, hts, hr, hlocks, hK, hG⟩ := id C
  unfold fn_X3_icingSet_49 at h
  refine lv_iload hx hb dX3_icingSet_49 (lv_at hl 5 rfl) ?_
  refine lv_iload_n hx hb dX3_icingSet_51 rfl (lv_at hl 0 rfl) ?_
  refine lv_iconst (v := 1) hx hb dX3_icingSet_52 (by decide) ?_
  refine lv_isub hx hb dX3_icingSet_53 ?_
  refine lv_icmp_ne (tgt := 62) hx hb dX3_icingSet_54 (by decide) (fun c1 => ?_) (fun c1 => ?_)
  · rw [if_neg c1] at h
    refine lv_iconst (v := 0) hx hb dX3_icingSet_62 (by decide) ?_
    exact pf_X3_icingSet_63 C  hk_32 v3 v4 v5 v7 v8 v9 tv0 0 z  hP hS (lv_sub hl [0, 1, 2, 3, 4, 5] rfl) h
  · rw [if_pos c1] at h
    refine lv_iload hx hb dX3_icingSet_57 (lv_at hl 4 rfl) ?_
    refine lv_goto (tgt := 63) hx hb dX3_icingSet_59 (by decide) ?_
    exact pf_X3_icingSet_63 C  hk_32 v3 v4 v5 v7 v8 v9 tv0 v8 z  hP hS (lv_sub hl [0, 1, 2, 3, 4, 5] rfl) h
def fn_X3_icingSet_32 : Nat → Int32 → Int32 → Int64 → Int32 → Int32 → Int32 → St → Option (Int64 × St)
  | 0, _, _, _, _, _, _, _ => none
  | n + 1, v3, v4, v5, v7, v8, v9, z => (if v3 ≤ v9 then some (v5, z) else (if v9 = 0 then fn_X3_icingSet_49  (fn_X3_icingSet_32   n) v3 v4 v5 v7 v8 v9 v8 z else fn_X3_icingSet_49  (fn_X3_icingSet_32   n) v3 v4 v5 v7 v8 v9 0 z))
set_option maxHeartbeats 4000000 in
set_option maxRecDepth 100000 in
theorem pf_X3_icingSet_32 {p : Program} {l : Launch} {e : Env} {s : State} {m : MethodId} {args : Array Value} {below : List Frame} {meth : Method} {c : Code} {G : wG} (C : CX p s m args meth c cX3_icingSet 13 (wsU yX3_icingSet cX3_icingSet 13 (some .long)) RX3 (some .long) G) {Rz : Int64 × St} : ∀ (n : Nat) (v3 : Int32) (v4 : Int32) (v5 : Int64) (v7 : Int32) (v8 : Int32) (v9 : Int32) (z : St)  (H : Heap) (locs : List Loc) (ls : Array Slot), WP G z H → va_S (AW G) s.heap H locs → lv_has ls 13 [(3, .int v3), (4, .int v4), (5, .long v5), (7, .int v7), (8, .int v8), (9, .int v9)] → fn_X3_icingSet_32   n v3 v4 v5 v7 v8 v9 z = some Rz → W p l e (rmd 2) s m args below meth c H locs 0 0 (QJ below args s G Rz) (F0 m 32 ls []) := by
  obtain ⟨hx, hb, hml, hown, hts, hr, hlocks, hK, hG⟩ := id C
  intro n
  induction n with
  | zero => intro v3 v4 v5 v7 v8 v9 z  H locs ls hP hS hl h; cases h
  | succ n ih =>
    intro v3 v4 v5 v7 v8 v9 z  H locs ls hP hS hl h
    rw [fn_X3_icingSet_32] at h
    refine lv_iload hx hb dX3_icingSet_32 (lv_at hl 5 rfl) ?_
    refine lv_iload_n hx hb dX3_icingSet_34 rfl (lv_at hl 0 rfl) ?_
    refine lv_icmp_ge (tgt := 129) hx hb dX3_icingSet_35 (by decide) (fun c1 => ?_) (fun c1 => ?_)
    · rw [if_pos c1] at h
      refine lv_lload hx hb dX3_icingSet_129 (lv_at hl 2 rfl) ?_
      exact x_lret hx hb hr hlocks hK hP hS h dX3_icingSet_131
    · rw [if_neg c1] at h
      refine lv_iload hx hb dX3_icingSet_38 (lv_at hl 5 rfl) ?_
      refine lv_if_ne (tgt := 48) hx hb dX3_icingSet_40 (by decide) (fun c2 => ?_) (fun c2 => ?_)
      · rw [if_neg c2] at h
        refine lv_iconst (v := 0) hx hb dX3_icingSet_48 (by decide) ?_
        exact pf_X3_icingSet_49 C  ih v3 v4 v5 v7 v8 v9 0 z  hP hS (lv_sub hl [0, 1, 2, 3, 4, 5] rfl) h
      · rw [if_pos c2] at h
        refine lv_iload hx hb dX3_icingSet_43 (lv_at hl 4 rfl) ?_
        refine lv_goto (tgt := 49) hx hb dX3_icingSet_45 (by decide) ?_
        exact pf_X3_icingSet_49 C  ih v3 v4 v5 v7 v8 v9 v8 z  hP hS (lv_sub hl [0, 1, 2, 3, 4, 5] rfl) h
def fn_X3_icingSet (v1 : Int32) (v2 : Int32) (v3 : Int32) (v4 : Int32) (z : St) : Option (Int64 × St) := bd (fn_X3_canBe  v1 v2 v3 v4 z) (fun r2 z3 => (if r2 = 0 then some (0, z3) else gd (v3 != 0) (nm (v1 / v3) (fun v7_6 => gd (v4 != 0) (nm (v2 / v4) (fun v8_8 => fn_X3_icingSet_32   fu v3 v4 0 v7_6 v8_8 0 z3))))))
set_option maxHeartbeats 4000000 in
set_option maxRecDepth 100000 in
theorem m_X3_icingSet {l : Launch} {G : wG} (hG : Ok G) {v1 : Int32} {v2 : Int32} {v3 : Int32} {v4 : Int32} {z : St} {Rz : Int64 × St}  (h : fn_X3_icingSet  v1 v2 v3 v4 z = some Rz) : Met l yX3_icingSet (wsU yX3_icingSet cX3_icingSet 13 (some .long)) (rmd 2) (va_Pc [.ref (G.2.2 161), .int v1, .int v2, .int v3, .int v4] (Pre G z)) (va_Ql (fun r u => (r, u) = Rz) (Pre G) (AW G)) 0 0 (AW G) := by
  refine Met.ofW (cc := cX3_icingSet) (maxL := 13) (ret := (some .long)) (by decide) rfl ?_
  intro p e s m args below meth c s₁ B hml hv
  obtain ⟨rfl, hP, hK⟩ := hv
  have C : CX p s m ([.ref (G.2.2 161), .int v1, .int v2, .int v3, .int v4] : List Value).toArray meth c cX3_icingSet 13 (wsU yX3_icingSet cX3_icingSet 13 (some .long)) RX3 (some .long) G := ⟨B.exec, B.bytes, hml, findClass_of_methodNamed B.named, atoms_spec (ws := (wsU yX3_icingSet cX3_icingSet 13 (some .long))) B.pre, B.returns, B.notSynchronized, hK, hG⟩
  obtain ⟨hx, hb, -, hown, hts, hr, hlocks, -, -⟩ := id C
  have hS : va_S (AW G) s.heap s.heap [] := va_S.rf
  have hl := lv_entry [.ref (G.2.2 161), .int v1, .int v2, .int v3, .int v4] (n := 13) (Nat.le_of_ble_eq_true rfl)
  rw [lg_entry_eq]
  generalize (lg_sl [.ref (G.2.2 161), .int v1, .int v2, .int v3, .int v4] ++ List.replicate (13 - (lg_sl [.ref (G.2.2 161), .int v1, .int v2, .int v3, .int v4]).length) Slot.unset).toArray = ls at hl ⊢
  have hl : lv_has ls 13 [(0, .ref (G.2.2 161)), (1, .int v1), (2, .int v2), (3, .int v3), (4, .int v4)] := hl
  unfold fn_X3_icingSet at h
  refine lv_lconst (v := 0) hx hb dX3_icingSet_0 (by decide) ?_
  refine lv_lstore (lv' := [(5, .long 0), (0, .ref (G.2.2 161)), (1, .int v1), (2, .int v2), (3, .int v3), (4, .int v4)]) hx hb dX3_icingSet_1 hl (by decide) rfl (fun ls hl => ?_)
  refine lv_aload_n hx hb dX3_icingSet_3 rfl (lv_at hl 1 rfl) ?_
  refine lv_iload_n hx hb dX3_icingSet_4 rfl (lv_at hl 2 rfl) ?_
  refine lv_iload_n hx hb dX3_icingSet_5 rfl (lv_at hl 3 rfl) ?_
  refine lv_iload_n hx hb dX3_icingSet_6 rfl (lv_at hl 4 rfl) ?_
  refine lv_iload hx hb dX3_icingSet_7 (lv_at hl 5 rfl) ?_
  obtain ⟨r2, z3, h1, h⟩ := bd_s h
  refine x_Vi (Rz := (r2, z3)) (As := [.int v1, .int v2, .int v3, .int v4]) (rest := []) ⟨hx, hb, hml, hown, hts⟩ hK hP hS (kd_lt k_161 (by decide)) (cell_3 k_161) rfl (m_X3_canBe hG   h1) (cwV 4 hts (gV lw_1302 lw_1303 lw_1304 lw_123 lw_1305) rfl rfl rfl (by decide +kernel) (rmd_ok (by decide) (by decide))) rfl hl.1 rfl (Nat.le_of_ble_eq_true rfl) dX3_icingSet_9 ⟨Nat.le_refl _, Nat.le_refl _⟩ (fun H locs hP hS => ?_)
  refine lv_if_ne (tgt := 18) hx hb dX3_icingSet_12 (by decide) (fun c4 => ?_) (fun c4 => ?_)
  · rw [if_neg c4] at h
    refine lv_iload_n hx hb dX3_icingSet_18 rfl (lv_at hl 2 rfl) ?_
    refine lv_iload_n hx hb dX3_icingSet_19 rfl (lv_at hl 4 rfl) ?_
    obtain ⟨g5, h⟩ := gd_s h
    refine lv_idiv hx hb dX3_icingSet_20 (bne_z g5) ?_
    obtain ⟨v7_6, e_v7_6, h⟩ := nm_s h
    refine x_top e_v7_6 ?_
    refine lv_istore (lv' := [(7, .int v7_6), (5, .long 0), (0, .ref (G.2.2 161)), (1, .int v1), (2, .int v2), (3, .int v3), (4, .int v4)]) hx hb dX3_icingSet_21 hl (by decide) rfl (fun ls hl => ?_)
    refine lv_iload_n hx hb dX3_icingSet_23 rfl (lv_at hl 4 rfl) ?_
    refine lv_iload hx hb dX3_icingSet_24 (lv_at hl 6 rfl) ?_
    obtain ⟨g7, h⟩ := gd_s h
    refine lv_idiv hx hb dX3_icingSet_26 (bne_z g7) ?_
    obtain ⟨v8_8, e_v8_8, h⟩ := nm_s h
    refine x_top e_v8_8 ?_
    refine lv_istore (lv' := [(8, .int v8_8), (7, .int v7_6), (5, .long 0), (0, .ref (G.2.2 161)), (1, .int v1), (2, .int v2), (3, .int v3), (4, .int v4)]) hx hb dX3_icingSet_27 hl (by decide) rfl (fun ls hl => ?_)
    refine lv_iconst (v := 0) hx hb dX3_icingSet_29 (by decide) ?_
    refine lv_istore (lv' := [(9, .int 0), (8, .int v8_8), (7, .int v7_6), (5, .long 0), (0, .ref (G.2.2 161)), (1, .int v1), (2, .int v2), (3, .int v3), (4, .int v4)]) hx hb dX3_icingSet_30 hl (by decide) rfl (fun ls hl => ?_)
    exact pf_X3_icingSet_32 C   fu v3 v4 0 v7_6 v8_8 0 z3  _ _ _ hP hS (lv_sub hl [7, 8, 3, 2, 1, 0] rfl) h
  · rw [if_pos c4] at h
    refine lv_lload hx hb dX3_icingSet_15 (lv_at hl 0 rfl) ?_
    exact x_lret hx hb hr hlocks hK hP hS h dX3_icingSet_17
def fn_X3_spreadOf_40 (k7 : Int64 → Int32 → Int32 → Int32 → St → Option (Int32 × St)) (v0 : Int64) (v2 : Int32) (v3 : Int32) (v4 : Int32) (z : St) : Option (Int32 × St) := k7 v0 v2 v3 (v4 + 1) z
set_option maxHeartbeats 4000000 in
set_option maxRecDepth 100000 in
theorem pf_X3_spreadOf_40 {p : Program} {l : Launch} {e : Env} {s : State} {m : MethodId} {args : Array Value} {below : List Frame} {meth : Method} {c : Code} {G : wG} (C : CX p s m args meth c cX3_spreadOf 5 (wsU yX3_spreadOf cX3_spreadOf 5 (some .int)) RX3 (some .int) G) {Rz : Int32 × St} {k7 : Int64 → Int32 → Int32 → Int32 → St → Option (Int32 × St)} (hk_7 : ∀ (v0 : Int64) (v2 : Int32) (v3 : Int32) (v4 : Int32) (z : St)  (H : Heap) (locs : List Loc) (ls : Array Slot), WP G z H → va_S (AW G) s.heap H locs → lv_has ls 5 [(0, .long v0), (2, .int v2), (3, .int v3), (4, .int v4)] → k7 v0 v2 v3 v4 z = some Rz → W p l e (rmd 1) s m args below meth c H locs 0 0 (QI below args s G Rz) (F0 m 7 ls [])) (v0 : Int64) (v2 : Int32) (v3 : Int32) (v4 : Int32) (z : St)  {H : Heap} {locs : List Loc} {ls : Array Slot} (hP : WP G z H) (hS : va_S (AW G) s.heap H locs) (hl : lv_has ls 5 [(0, .long v0), (2, .int v2), (3, .int v3), (4, .int v4)]) (h : fn_X3_spreadOf_40  k7 v0 v2 v3 v4 z = some Rz) : W p l e (rmd 1) s m args below meth c H locs 0 0 (QI below args s G Rz) (F0 m 40 ls []) := by
  obtain ⟨hx, hb, hml, hown, hts, hr, hlocks, hK, hG⟩ := id C
  unfold fn_X3_spreadOf_40 at h
  refine lv_iinc (v := (v4 + 1)) (lv' := [(4, .int (v4 + 1)), (0, .long v0), (2, .int v2), (3, .int v3)]) hx hb dX3_spreadOf_40 hl (k := 3) rfl rfl (by decide) rfl (fun ls hl => ?_)
  refine lv_goto (tgt := 7) hx hb dX3_spreadOf_43 (by decide) ?_
  exact hk_7 v0 v2 v3 (v4 + 1) z  _ _ _ hP hS (lv_sub hl [1, 2, 3, 0] rfl) h
def fn_X3_spreadOf_39 (k7 : Int64 → Int32 → Int32 → Int32 → St → Option (Int32 × St)) (v0 : Int64) (v3 : Int32) (v4 : Int32) (tv0 : Int32) (z : St) : Option (Int32 × St) := fn_X3_spreadOf_40  k7 v0 tv0 v3 v4 z
set_option maxHeartbeats 4000000 in
set_option maxRecDepth 100000 in
theorem pf_X3_spreadOf_39 {p : Program} {l : Launch} {e : Env} {s : State} {m : MethodId} {args : Array Value} {below : List Frame} {meth : Method} {c : Code} {G : wG} (C : CX p s m args meth c cX3_spreadOf 5 (wsU yX3_spreadOf cX3_spreadOf 5 (some .int)) RX3 (some .int) G) {Rz : Int32 × St} {k7 : Int64 → Int32 → Int32 → Int32 → St → Option (Int32 × St)} (hk_7 : ∀ (v0 : Int64) (v2 : Int32) (v3 : Int32) (v4 : Int32) (z : St)  (H : Heap) (locs : List Loc) (ls : Array Slot), WP G z H → va_S (AW G) s.heap H locs → lv_has ls 5 [(0, .long v0), (2, .int v2), (3, .int v3), (4, .int v4)] → k7 v0 v2 v3 v4 z = some Rz → W p l e (rmd 1) s m args below meth c H locs 0 0 (QI below args s G Rz) (F0 m 7 ls [])) (v0 : Int64) (v3 : Int32) (v4 : Int32) (tv0 : Int32) (z : St)  {H : Heap} {locs : List Loc} {ls : Array Slot} (hP : WP G z H) (hS : va_S (AW G) s.heap H locs) (hl : lv_has ls 5 [(0, .long v0), (3, .int v3), (4, .int v4)]) (h : fn_X3_spreadOf_39  k7 v0 v3 v4 tv0 z = some Rz) : W p l e (rmd 1) s m args below meth c H locs 0 0 (QI below args s G Rz) (F0 m 39 ls [.int tv0]) := by
  obtain ⟨hx, hb, hml, hown, hts, hr, hlocks, hK, hG⟩ := id C
  unfold fn_X3_spreadOf_39 at h
  refine lv_istore_n (lv' := [(2, .int tv0), (0, .long v0), (3, .int v3), (4, .int v4)]) hx hb dX3_spreadOf_39 rfl hl (by decide) rfl (fun ls hl => ?_)
  exact pf_X3_spreadOf_40 C  hk_7 v0 tv0 v3 v4 z  hP hS (lv_sub hl [1, 0, 2, 3] rfl) h
def fn_X3_spreadOf_7 : Nat → Int64 → Int32 → Int32 → Int32 → St → Option (Int32 × St)
  | 0, _, _, _, _, _ => none
  | n + 1, v0, v2, v3, v4, z => (if 32 < v4 then some ((v3 - v2), z) else (if (lg_cmp ((v0 >>> (Int32.toInt64 v4 &&& 63)) &&& 1) 1) = 0 then (if v2 = (-1) then fn_X3_spreadOf_39  (fn_X3_spreadOf_7   n) v0 v4 v4 v4 z else fn_X3_spreadOf_39  (fn_X3_spreadOf_7   n) v0 v4 v4 v2 z) else fn_X3_spreadOf_40  (fn_X3_spreadOf_7   n) v0 v2 v3 v4 z))
set_option maxHeartbeats 4000000 in
set_option maxRecDepth 100000 in
theorem pf_X3_spreadOf_7 {p : Program} {l : Launch} {e : Env} {s : State} {m : MethodId} {args : Array Value} {below : List Frame} {meth : Method} {c : Code} {G : wG} (C : CX p s m args meth c cX3_spreadOf 5 (wsU yX3_spreadOf cX3_spreadOf 5 (some .int)) RX3 (some .int) G) {Rz : Int32 × St} : ∀ (n : Nat) (v0 : Int64) (v2 : Int32) (v3 : Int32) (v4 : Int32) (z : St)  (H : Heap) (locs : List Loc) (ls : Array Slot), WP G z H → va_S (AW G) s.heap H locs → lv_has ls 5 [(0, .long v0), (2, .int v2), (3, .int v3), (4, .int v4)] → fn_X3_spreadOf_7   n v0 v2 v3 v4 z = some Rz → W p l e (rmd 1) s m args below meth c H locs 0 0 (QI below args s G Rz) (F0 m 7 ls []) := by
  obtain ⟨hx, hb, hml, hown, hts, hr, hlocks, hK, hG⟩ := id C
  intro n
  induction n with
  | zero => intro v0 v2 v3 v4 z  H locs ls hP hS hl h; cases h
  | succ n ih =>
    intro v0 v2 v3 v4 z  H locs ls hP hS hl h
    rw [fn_X3_spreadOf_7] at h
    refine lv_iload hx hb dX3_spreadOf_7 (lv_at hl 3 rfl) ?_
    refine lv_bipush (v := 32) hx hb dX3_spreadOf_9 (by decide) ?_
    refine lv_icmp_gt (tgt := 46) hx hb dX3_spreadOf_11 (by decide) (fun c1 => ?_) (fun c1 => ?_)
    · rw [if_pos c1] at h
      refine lv_iload_n hx hb dX3_spreadOf_46 rfl (lv_at hl 2 rfl) ?_
      refine lv_iload_n hx hb dX3_spreadOf_47 rfl (lv_at hl 1 rfl) ?_
      refine lv_isub hx hb dX3_spreadOf_48 ?_
      exact x_iret hx hb hr hlocks hK hP hS h dX3_spreadOf_49
    · rw [if_neg c1] at h
      refine lv_lload_n hx hb dX3_spreadOf_14 rfl (lv_at hl 0 rfl) ?_
      refine lv_iload hx hb dX3_spreadOf_15 (lv_at hl 3 rfl) ?_
      refine lv_lshr hx hb dX3_spreadOf_17 rfl ?_
      refine lv_lconst (v := 1) hx hb dX3_spreadOf_18 (by decide) ?_
      refine lv_land hx hb dX3_spreadOf_19 ?_
      refine lv_lconst (v := 1) hx hb dX3_spreadOf_20 (by decide) ?_
      refine W.lcmp hx hb dX3_spreadOf_21 ?_
      refine lv_if_ne (tgt := 40) hx hb dX3_spreadOf_22 (by decide) (fun c2 => ?_) (fun c2 => ?_)
      · rw [if_neg c2] at h
        exact pf_X3_spreadOf_40 C  ih v0 v2 v3 v4 z  hP hS (lv_sub hl [0, 1, 2, 3] rfl) h
      · rw [if_pos c2] at h
        refine lv_iload hx hb dX3_spreadOf_25 (lv_at hl 3 rfl) ?_
        refine lv_istore_n (lv' := [(3, .int v4), (0, .long v0), (2, .int v2), (4, .int v4)]) hx hb dX3_spreadOf_27 rfl hl (by decide) rfl (fun ls hl => ?_)
        refine lv_iload_n hx hb dX3_spreadOf_28 rfl (lv_at hl 2 rfl) ?_
        refine lv_iconst (v := (-1)) hx hb dX3_spreadOf_29 (by decide) ?_
        refine lv_icmp_ne (tgt := 38) hx hb dX3_spreadOf_30 (by decide) (fun c3 => ?_) (fun c3 => ?_)
        · rw [if_neg c3] at h
          refine lv_iload_n hx hb dX3_spreadOf_38 rfl (lv_at hl 2 rfl) ?_
          exact pf_X3_spreadOf_39 C  ih v0 v4 v4 v2 z  hP hS (lv_sub hl [1, 0, 3] rfl) h
        · rw [if_pos c3] at h
          refine lv_iload hx hb dX3_spreadOf_33 (lv_at hl 3 rfl) ?_
          refine lv_goto (tgt := 39) hx hb dX3_spreadOf_35 (by decide) ?_
          exact pf_X3_spreadOf_39 C  ih v0 v4 v4 v4 z  hP hS (lv_sub hl [1, 0, 3] rfl) h
def fn_X3_spreadOf (v0 : Int64) (z : St) : Option (Int32 × St) := fn_X3_spreadOf_7   fu v0 (-1) (-1) 0 z
set_option maxHeartbeats 4000000 in
set_option maxRecDepth 100000 in
theorem m_X3_spreadOf {l : Launch} {G : wG} (hG : Ok G) {v0 : Int64} {z : St} {Rz : Int32 × St}  (h : fn_X3_spreadOf  v0 z = some Rz) : Met l yX3_spreadOf (wsU yX3_spreadOf cX3_spreadOf 5 (some .int)) (rmd 1) (va_Pc [.long v0] (Pre G z)) (va_Qi (fun r u => (r, u) = Rz) (Pre G) (AW G)) 0 0 (AW G) := by
  refine Met.ofW (cc := cX3_spreadOf) (maxL := 5) (ret := (some .int)) (by decide) rfl ?_
  intro p e s m args below meth c s₁ B hml hv
  obtain ⟨rfl, hP, hK⟩ := hv
  have C : CX p s m ([.long v0] : List Value).toArray meth c cX3_spreadOf 5 (wsU yX3_spreadOf cX3_spreadOf 5 (some .int)) RX3 (some .int) G := ⟨B.exec, B.bytes, hml, findClass_of_methodNamed B.named, atoms_spec (ws := (wsU yX3_spreadOf cX3_spreadOf 5 (some .int))) B.pre, B.returns, B.notSynchronized, hK, hG⟩
  obtain ⟨hx, hb, -, hown, hts, hr, hlocks, -, -⟩ := id C
  have hS : va_S (AW G) s.heap s.heap [] := va_S.rf
  have hl := lv_entry [.long v0] (n := 5) (Nat.le_of_ble_eq_true rfl)
  rw [lg_entry_eq]
  generalize (lg_sl [.long v0] ++ List.replicate (5 - (lg_sl [.long v0]).length) Slot.unset).toArray = ls at hl ⊢
  have hl : lv_has ls 5 [(0, .long v0)] := hl
  unfold fn_X3_spreadOf at h
  refine lv_iconst (v := (-1)) hx hb dX3_spreadOf_0 (by decide) ?_
  refine lv_istore_n (lv' := [(2, .int (-1)), (0, .long v0)]) hx hb dX3_spreadOf_1 rfl hl (by decide) rfl (fun ls hl => ?_)
  refine lv_iconst (v := (-1)) hx hb dX3_spreadOf_2 (by decide) ?_
  refine lv_istore_n (lv' := [(3, .int (-1)), (2, .int (-1)), (0, .long v0)]) hx hb dX3_spreadOf_3 rfl hl (by decide) rfl (fun ls hl => ?_)
  refine lv_iconst (v := 0) hx hb dX3_spreadOf_4 (by decide) ?_
  refine lv_istore (lv' := [(4, .int 0), (3, .int (-1)), (2, .int (-1)), (0, .long v0)]) hx hb dX3_spreadOf_5 hl (by decide) rfl (fun ls hl => ?_)
  exact pf_X3_spreadOf_7 C   fu v0 (-1) (-1) 0 z  _ _ _ hP hS (lv_sub hl [3, 2, 1, 0] rfl) h
def fn_X3_search_129 (k6 : Int32 → Int32 → Int32 → Int32 → Int32 → St → Option (Int32 × St)) (v1 : Int32) (v2 : Int32) (v3 : Int32) (v4 : Int32) (v5 : Int32) (z : St) : Option (Int32 × St) := k6 v1 v2 v3 v4 (v5 + 1) z
set_option maxHeartbeats 4000000 in
set_option maxRecDepth 100000 in
theorem pf_X3_search_129 {p : Program} {l : Launch} {e : Env} {s : State} {m : MethodId} {args : Array Value} {below : List Frame} {meth : Method} {c : Code} {G : wG} (C : CX p s m args meth c cX3_search 9 (wsU yX3_search cX3_search 9 (some .int)) RX3 (some .int) G) {Rz : Int32 × St} {k6 : Int32 → Int32 → Int32 → Int32 → Int32 → St → Option (Int32 × St)} (hk_6 : ∀ (v1 : Int32) (v2 : Int32) (v3 : Int32) (v4 : Int32) (v5 : Int32) (z : St)  (H : Heap) (locs : List Loc) (ls : Array Slot), WP G z H → va_S (AW G) s.heap H locs → lv_has ls 9 [(0, .ref (G.2.2 161)), (1, .int v1), (2, .int v2), (3, .int v3), (4, .int v4), (5, .int v5)] → k6 v1 v2 v3 v4 v5 z = some Rz → W p l e (rmd 3) s m args below meth c H locs 0 0 (QI below args s G Rz) (F0 m 6 ls [])) (v1 : Int32) (v2 : Int32) (v3 : Int32) (v4 : Int32) (v5 : Int32) (z : St)  {H : Heap} {locs : List Loc} {ls : Array Slot} (hP : WP G z H) (hS : va_S (AW G) s.heap H locs) (hl : lv_has ls 9 [(0, .ref (G.2.2 161)), (1, .int v1), (2, .int v2), (3, .int v3), (4, .int v4), (5, .int v5)]) (h : fn_X3_search_129  k6 v1 v2 v3 v4 v5 z = some Rz) : W p l e (rmd 3) s m args below meth c H locs 0 0 (QI below args s G Rz) (F0 m 129 ls []) := by
  obtain ⟨hx, hb, hml, hown, hts, hr, hlocks, hK, hG⟩ := id C
  unfold fn_X3_search_129 at h
  refine lv_iinc (v := (v5 + 1)) (lv' := [(5, .int (v5 + 1)), (0, .ref (G.2.2 161)), (1, .int v1), (2, .int v2), (3, .int v3), (4, .int v4)]) hx hb dX3_search_129 hl (k := 5) rfl rfl (by decide) rfl (fun ls hl => ?_)
  refine lv_goto (tgt := 6) hx hb dX3_search_132 (by decide) ?_
  exact hk_6 v1 v2 v3 v4 (v5 + 1) z  _ _ _ hP hS (lv_sub hl [1, 2, 3, 4, 5, 0] rfl) h
def fn_X3_search_126 (k6 : Int32 → Int32 → Int32 → Int32 → Int32 → St → Option (Int32 × St)) (v1 : Int32) (v2 : Int32) (v3 : Int32) (v4 : Int32) (v5 : Int32) (z : St) : Option (Int32 × St) := fn_X3_search_129  k6 v1 v2 v3 (v4 + 1) v5 z
set_option maxHeartbeats 4000000 in
set_option maxRecDepth 100000 in
theorem pf_X3_search_126 {p : Program} {l : Launch} {e : Env} {s : State} {m : MethodId} {args : Array Value} {below : List Frame} {meth : Method} {c : Code} {G : wG} (C : CX p s m args meth c cX3_search 9 (wsU yX3_search cX3_search 9 (some .int)) RX3 (some .int) G) {Rz : Int32 × St} {k6 : Int32 → Int32 → Int32 → Int32 → Int32 → St → Option (Int32 × St)} (hk_6 : ∀ (v1 : Int32) (v2 : Int32) (v3 : Int32) (v4 : Int32) (v5 : Int32) (z : St)  (H : Heap) (locs : List Loc) (ls : Array Slot), WP G z H → va_S (AW G) s.heap H locs → lv_has ls 9 [(0, .ref (G.2.2 161)), (1, .int v1), (2, .int v2), (3, .int v3), (4, .int v4), (5, .int v5)] → k6 v1 v2 v3 v4 v5 z = some Rz → W p l e (rmd 3) s m args below meth c H locs 0 0 (QI below args s G Rz) (F0 m 6 ls [])) (v1 : Int32) (v2 : Int32) (v3 : Int32) (v4 : Int32) (v5 : Int32) (z : St)  {H : Heap} {locs : List Loc} {ls : Array Slot} (hP : WP G z H) (hS : va_S (AW G) s.heap H locs) (hl : lv_has ls 9 [(0, .ref (G.2.2 161)), (1, .int v1), (2, .int v2), (3, .int v3), (4, .int v4), (5, .int v5)]) (h : fn_X3_search_126  k6 v1 v2 v3 v4 v5 z = some Rz) : W p l e (rmd 3) s m args below meth c H locs 0 0 (QI below args s G Rz) (F0 m 126 ls []) := by
  obtain ⟨hx, hb, hml, hown, hts, hr, hlocks, hK, hG⟩ := id C
  unfold fn_X3_search_126 at h
  refine lv_iinc (v := (v4 + 1)) (lv' := [(4, .int (v4 + 1)), (0, .ref (G.2.2 161)), (1, .int v1), (2, .int v2), (3, .int v3), (5, .int v5)]) hx hb dX3_search_126 hl (k := 4) rfl rfl (by decide) rfl (fun ls hl => ?_)
  exact pf_X3_search_129 C  hk_6 v1 v2 v3 (v4 + 1) v5 z  hP hS (lv_sub hl [1, 2, 3, 4, 0, 5] rfl) h
def fn_X3_search_102 (k6 : Int32 → Int32 → Int32 → Int32 → Int32 → St → Option (Int32 × St)) (v1 : Int32) (v2 : Int32) (v3 : Int32) (v4 : Int32) (v5 : Int32) (v6 : Int32) (v7 : Int32) (v8 : Int32) (z : St) : Option (Int32 × St) := nm (sI z 161 0 v5) (fun z1 => nm (sI z1 161 1 v6) (fun z2 => nm (sI z2 161 2 v8) (fun z3 => nm (sI z3 161 3 v7) (fun z4 => fn_X3_search_126  k6 v1 v2 v3 v4 v5 z4))))
set_option maxHeartbeats 4000000 in
set_option maxRecDepth 100000 in
theorem pf_X3_search_102 {p : Program} {l : Launch} {e : Env} {s : State} {m : MethodId} {args : Array Value} {below : List Frame} {meth : Method} {c : Code} {G : wG} (C : CX p s m args meth c cX3_search 9 (wsU yX3_search cX3_search 9 (some .int)) RX3 (some .int) G) {Rz : Int32 × St} {k6 : Int32 → Int32 → Int32 → Int32 → Int32 → St → Option (Int32 × St)} (hk_6 : ∀ (v1 : Int32) (v2 : Int32) (v3 : Int32) (v4 : Int32) (v5 : Int32) (z : St)  (H : Heap) (locs : List Loc) (ls : Array Slot), WP G z H → va_S (AW G) s.heap H locs → lv_has ls 9 [(0, .ref (G.2.2 161)), (1, .int v1), (2, .int v2), (3, .int v3), (4, .int v4), (5, .int v5)] → k6 v1 v2 v3 v4 v5 z = some Rz → W p l e (rmd 3) s m args below meth c H locs 0 0 (QI below args s G Rz) (F0 m 6 ls [])) (v1 : Int32) (v2 : Int32) (v3 : Int32) (v4 : Int32) (v5 : Int32) (v6 : Int32) (v7 : Int32) (v8 : Int32) (z : St)  {H : Heap} {locs : List Loc} {ls : Array Slot} (hP : WP G z H) (hS : va_S (AW G) s.heap H locs) (hl : lv_has ls 9 [(0, .ref (G.2.2 161)), (1, .int v1), (2, .int v2), (3, .int v3), (4, .int v4), (5, .int v5), (6, .int v6), (7, .int v7), (8, .int v8)]) (h : fn_X3_search_102  k6 v1 v2 v3 v4 v5 v6 v7 v8 z = some Rz) : W p l e (rmd 3) s m args below meth c H locs 0 0 (QI below args s G Rz) (F0 m 102 ls []) := by
  obtain ⟨hx, hb, hml, hown, hts, hr, hlocks, hK, hG⟩ := id C
  unfold fn_X3_search_102 at h
  refine lv_aload_n hx hb dX3_search_102 rfl (lv_at hl 0 rfl) ?_
  refine lv_iload hx hb dX3_search_103 (lv_at hl 5 rfl) ?_
  obtain ⟨z1, e_z1, h⟩ := nm_s h
  refine pu_3_0 hx hb hts (inU inW_X3) hown hK hG hP hS k_161 (hts _ (List.mem_cons_of_mem _ lw_627)) dX3_search_105 (fun H locs hP hS => ?_)
  rw [← e_z1] at hP
  refine lv_aload_n hx hb dX3_search_108 rfl (lv_at hl 0 rfl) ?_
  refine lv_iload hx hb dX3_search_109 (lv_at hl 6 rfl) ?_
  obtain ⟨z2, e_z2, h⟩ := nm_s h
  refine pu_3_1 hx hb hts (inU inW_X3) hown hK hG hP hS k_161 (hts _ (List.mem_cons_of_mem _ lw_629)) dX3_search_111 (fun H locs hP hS => ?_)
  rw [← e_z2] at hP
  refine lv_aload_n hx hb dX3_search_114 rfl (lv_at hl 0 rfl) ?_
  refine lv_iload hx hb dX3_search_115 (lv_at hl 8 rfl) ?_
  obtain ⟨z3, e_z3, h⟩ := nm_s h
  refine pu_3_2 hx hb hts (inU inW_X3) hown hK hG hP hS k_161 (hts _ (List.mem_cons_of_mem _ lw_631)) dX3_search_117 (fun H locs hP hS => ?_)
  rw [← e_z3] at hP
  refine lv_aload_n hx hb dX3_search_120 rfl (lv_at hl 0 rfl) ?_
  refine lv_iload hx hb dX3_search_121 (lv_at hl 7 rfl) ?_
  obtain ⟨z4, e_z4, h⟩ := nm_s h
  refine pu_3_3 hx hb hts (inU inW_X3) hown hK hG hP hS k_161 (hts _ (List.mem_cons_of_mem _ lw_633)) dX3_search_123 (fun H locs hP hS => ?_)
  rw [← e_z4] at hP
  exact pf_X3_search_126 C  hk_6 v1 v2 v3 v4 v5 z4  hP hS (lv_sub hl [0, 1, 2, 3, 4, 5] rfl) h
def fn_X3_search_6 : Nat → Int32 → Int32 → Int32 → Int32 → Int32 → St → Option (Int32 × St)
  | 0, _, _, _, _, _, _ => none
  | n + 1, v1, v2, v3, v4, v5, z => (if v1 < v5 then some (v4, z) else (if v3 < v5 then some (v4, z) else gd (v5 != 0) (nm (v3 / v5) (fun v6_4 => (if (v5 * v6_4) = v3 then bd (fn_X3_canBe  v1 v2 v5 v6_4 z) (fun r7 z8 => (if r7 = 0 then fn_X3_search_129  (fn_X3_search_6   n) v1 v2 v3 v4 v5 z8 else bd (fn_X3_icingSet  v1 v2 v5 v6_4 z8) (fun r11 z12 => bd (fn_X3_spreadOf  r11 z12) (fun r14 z15 => nm ((v5 + v6_4) - 2) (fun v8_16 => (if v4 = 0 then fn_X3_search_102  (fn_X3_search_6   n) v1 v2 v3 v4 v5 v6_4 r14 v8_16 z15 else (if v8_16 < (z15.1 161 2) then fn_X3_search_102  (fn_X3_search_6   n) v1 v2 v3 v4 v5 v6_4 r14 v8_16 z15 else (if v8_16 = (z15.1 161 2) then (if (z15.1 161 3) ≤ r14 then fn_X3_search_126  (fn_X3_search_6   n) v1 v2 v3 v4 v5 z15 else fn_X3_search_102  (fn_X3_search_6   n) v1 v2 v3 v4 v5 v6_4 r14 v8_16 z15) else fn_X3_search_126  (fn_X3_search_6   n) v1 v2 v3 v4 v5 z15)))))))) else fn_X3_search_129  (fn_X3_search_6   n) v1 v2 v3 v4 v5 z)))))
set_option maxHeartbeats 4000000 in
set_option maxRecDepth 100000 in
theorem pf_X3_search_6 {p : Program} {l : Launch} {e : Env} {s : State} {m : MethodId} {args : Array Value} {below : List Frame} {meth : Method} {c : Code} {G : wG} (C : CX p s m args meth c cX3_search 9 (wsU yX3_search cX3_search 9 (some .int)) RX3 (some .int) G) {Rz : Int32 × St} : ∀ (n : Nat) (v1 : Int32) (v2 : Int32) (v3 : Int32) (v4 : Int32) (v5 : Int32) (z : St)  (H : Heap) (locs : List Loc) (ls : Array Slot), WP G z H → va_S (AW G) s.heap H locs → lv_has ls 9 [(0, .ref (G.2.2 161)), (1, .int v1), (2, .int v2), (3, .int v3), (4, .int v4), (5, .int v5)] → fn_X3_search_6   n v1 v2 v3 v4 v5 z = some Rz → W p l e (rmd 3) s m args below meth c H locs 0 0 (QI below args s G Rz) (F0 m 6 ls []) := by
  obtain ⟨hx, hb, hml, hown, hts, hr, hlocks, hK, hG⟩ := id C
  intro n
  induction n with
  | zero => intro v1 v2 v3 v4 v5 z  H locs ls hP hS hl h; cases h
  | succ n ih =>
    intro v1 v2 v3 v4 v5 z  H locs ls hP hS hl h
    rw [fn_X3_search_6] at h
    refine lv_iload hx hb dX3_search_6 (lv_at hl 5 rfl) ?_
    refine lv_iload_n hx hb dX3_search_8 rfl (lv_at hl 1 rfl) ?_
    refine lv_icmp_gt (tgt := 135) hx hb dX3_search_9 (by decide) (fun c1 => ?_) (fun c1 => ?_)
    · rw [if_pos c1] at h
      refine lv_iload hx hb dX3_search_135 (lv_at hl 4 rfl) ?_
      exact x_iret hx hb hr hlocks hK hP hS h dX3_search_137
    · rw [if_neg c1] at h
      refine lv_iload hx hb dX3_search_12 (lv_at hl 5 rfl) ?_
      refine lv_iload_n hx hb dX3_search_14 rfl (lv_at hl 3 rfl) ?_
      refine lv_icmp_gt (tgt := 135) hx hb dX3_search_15 (by decide) (fun c2 => ?_) (fun c2 => ?_)
      · rw [if_pos c2] at h
        refine lv_iload hx hb dX3_search_135 (lv_at hl 4 rfl) ?_
        exact x_iret hx hb hr hlocks hK hP hS h dX3_search_137
      · rw [if_neg c2] at h
        refine lv_iload_n hx hb dX3_search_18 rfl (lv_at hl 3 rfl) ?_
        refine lv_iload hx hb dX3_search_19 (lv_at hl 5 rfl) ?_
        obtain ⟨g3, h⟩ := gd_s h
        refine lv_idiv hx hb dX3_search_21 (bne_z g3) ?_
        obtain ⟨v6_4, e_v6_4, h⟩ := nm_s h
        refine x_top e_v6_4 ?_
        refine lv_istore (lv' := [(6, .int v6_4), (0, .ref (G.2.2 161)), (1, .int v1), (2, .int v2), (3, .int v3), (4, .int v4), (5, .int v5)]) hx hb dX3_search_22 hl (by decide) rfl (fun ls hl => ?_)
        refine lv_iload hx hb dX3_search_24 (lv_at hl 6 rfl) ?_
        refine lv_iload hx hb dX3_search_26 (lv_at hl 0 rfl) ?_
        refine lv_imul hx hb dX3_search_28 ?_
        refine lv_iload_n hx hb dX3_search_29 rfl (lv_at hl 4 rfl) ?_
        refine lv_icmp_ne (tgt := 129) hx hb dX3_search_30 (by decide) (fun c5 => ?_) (fun c5 => ?_)
        · rw [if_neg c5] at h
          exact pf_X3_search_129 C  ih v1 v2 v3 v4 v5 z  hP hS (lv_sub hl [1, 2, 3, 4, 5, 6] rfl) h
        · rw [if_pos c5] at h
          refine lv_aload_n hx hb dX3_search_33 rfl (lv_at hl 1 rfl) ?_
          refine lv_iload_n hx hb dX3_search_34 rfl (lv_at hl 2 rfl) ?_
          refine lv_iload_n hx hb dX3_search_35 rfl (lv_at hl 3 rfl) ?_
          refine lv_iload hx hb dX3_search_36 (lv_at hl 6 rfl) ?_
          refine lv_iload hx hb dX3_search_38 (lv_at hl 0 rfl) ?_
          obtain ⟨r7, z8, h6, h⟩ := bd_s h
          refine x_Vi (Rz := (r7, z8)) (As := [.int v1, .int v2, .int v5, .int v6_4]) (rest := []) ⟨hx, hb, hml, hown, hts⟩ hK hP hS (kd_lt k_161 (by decide)) (cell_3 k_161) rfl (m_X3_canBe hG   h6) (cwV 4 hts (gV lw_1302 lw_1303 lw_1304 lw_123 lw_1305) rfl rfl rfl (by decide +kernel) (rmd_ok (by decide) (by decide))) rfl hl.1 rfl (Nat.le_of_ble_eq_true rfl) dX3_search_40 ⟨Nat.le_refl _, Nat.le_refl _⟩ (fun H locs hP hS => ?_)
          refine lv_if_eq (tgt := 129) hx hb dX3_search_43 (by decide) (fun c9 => ?_) (fun c9 => ?_)
          · rw [if_pos c9] at h
            exact pf_X3_search_129 C  ih v1 v2 v3 v4 v5 z8  hP hS (lv_sub hl [1, 2, 3, 4, 5, 6] rfl) h
          · rw [if_neg c9] at h
            refine lv_aload_n hx hb dX3_search_46 rfl (lv_at hl 1 rfl) ?_
            refine lv_iload_n hx hb dX3_search_47 rfl (lv_at hl 2 rfl) ?_
            refine lv_iload_n hx hb dX3_search_48 rfl (lv_at hl 3 rfl) ?_
            refine lv_iload hx hb dX3_search_49 (lv_at hl 6 rfl) ?_
            refine lv_iload hx hb dX3_search_51 (lv_at hl 0 rfl) ?_
            obtain ⟨r11, z12, h10, h⟩ := bd_s h
            refine x_Vl (Rz := (r11, z12)) (As := [.int v1, .int v2, .int v5, .int v6_4]) (rest := []) ⟨hx, hb, hml, hown, hts⟩ hK hP hS (kd_lt k_161 (by decide)) (cell_3 k_161) rfl (m_X3_icingSet hG   h10) (cwV 4 hts (gV lw_1306 lw_1307 lw_1308 lw_123 lw_1309) rfl rfl rfl (by decide +kernel) (rmd_ok (by decide) (by decide))) rfl hl.1 rfl (Nat.le_of_ble_eq_true rfl) dX3_search_53 ⟨Nat.le_refl _, Nat.le_refl _⟩ (fun H locs hP hS => ?_)
            obtain ⟨r14, z15, h13, h⟩ := bd_s h
            refine x_Si (Rz := (r14, z15)) (As := [.long r11]) (rest := []) ⟨hx, hb, hml, hown, hts⟩ hK hP hS (m_X3_spreadOf hG   h13) (va_cwS 1 hts (gS lw_1310 lw_1311 lw_123 lw_1312) rfl rfl rfl (by decide +kernel) (rmd_ok (by decide) (by decide))) rfl hl.1 rfl (Nat.le_of_ble_eq_true rfl) dX3_search_56 ⟨Nat.le_refl _, Nat.le_refl _⟩ (fun H locs hP hS => ?_)
            refine lv_istore (lv' := [(7, .int r14), (6, .int v6_4), (0, .ref (G.2.2 161)), (1, .int v1), (2, .int v2), (3, .int v3), (4, .int v4), (5, .int v5)]) hx hb dX3_search_59 hl (by decide) rfl (fun ls hl => ?_)
            refine lv_iload hx hb dX3_search_61 (lv_at hl 7 rfl) ?_
            refine lv_iload hx hb dX3_search_63 (lv_at hl 1 rfl) ?_
            refine lv_iadd hx hb dX3_search_65 ?_
            refine lv_iconst (v := 2) hx hb dX3_search_66 (by decide) ?_
            refine lv_isub hx hb dX3_search_67 ?_
            obtain ⟨v8_16, e_v8_16, h⟩ := nm_s h
            refine x_top e_v8_16 ?_
            refine lv_istore (lv' := [(8, .int v8_16), (7, .int r14), (6, .int v6_4), (0, .ref (G.2.2 161)), (1, .int v1), (2, .int v2), (3, .int v3), (4, .int v4), (5, .int v5)]) hx hb dX3_search_68 hl (by decide) rfl (fun ls hl => ?_)
            refine lv_iload hx hb dX3_search_70 (lv_at hl 7 rfl) ?_
            refine lv_if_eq (tgt := 102) hx hb dX3_search_72 (by decide) (fun c17 => ?_) (fun c17 => ?_)
            · rw [if_pos c17] at h
              exact pf_X3_search_102 C  ih v1 v2 v3 v4 v5 v6_4 r14 v8_16 z15  hP hS (lv_sub hl [3, 4, 5, 6, 7, 8, 2, 1, 0] rfl) h
            · rw [if_neg c17] at h
              refine lv_iload hx hb dX3_search_75 (lv_at hl 0 rfl) ?_
              refine lv_aload_n hx hb dX3_search_77 rfl (lv_at hl 3 rfl) ?_
              refine ge_3_2 hx hb hts (inU inW_X3) hown hK hP k_161 (hts _ (List.mem_cons_of_mem _ lw_631)) dX3_search_78 ?_
              refine lv_icmp_lt (tgt := 102) hx hb dX3_search_81 (by decide) (fun c18 => ?_) (fun c18 => ?_)
              · rw [if_pos c18] at h
                exact pf_X3_search_102 C  ih v1 v2 v3 v4 v5 v6_4 r14 v8_16 z15  hP hS (lv_sub hl [3, 4, 5, 6, 7, 8, 2, 1, 0] rfl) h
              · rw [if_neg c18] at h
                refine lv_iload hx hb dX3_search_84 (lv_at hl 0 rfl) ?_
                refine lv_aload_n hx hb dX3_search_86 rfl (lv_at hl 3 rfl) ?_
                refine ge_3_2 hx hb hts (inU inW_X3) hown hK hP k_161 (hts _ (List.mem_cons_of_mem _ lw_631)) dX3_search_87 ?_
                refine lv_icmp_ne (tgt := 126) hx hb dX3_search_90 (by decide) (fun c19 => ?_) (fun c19 => ?_)
                · rw [if_neg c19] at h
                  exact pf_X3_search_126 C  ih v1 v2 v3 v4 v5 z15  hP hS (lv_sub hl [3, 4, 5, 6, 7, 8] rfl) h
                · rw [if_pos c19] at h
                  refine lv_iload hx hb dX3_search_93 (lv_at hl 1 rfl) ?_
                  refine lv_aload_n hx hb dX3_search_95 rfl (lv_at hl 3 rfl) ?_
                  refine ge_3_3 hx hb hts (inU inW_X3) hown hK hP k_161 (hts _ (List.mem_cons_of_mem _ lw_633)) dX3_search_96 ?_
                  refine lv_icmp_ge (tgt := 126) hx hb dX3_search_99 (by decide) (fun c20 => ?_) (fun c20 => ?_)
                  · rw [if_pos c20] at h
                    exact pf_X3_search_126 C  ih v1 v2 v3 v4 v5 z15  hP hS (lv_sub hl [3, 4, 5, 6, 7, 8] rfl) h
                  · rw [if_neg c20] at h
                    exact pf_X3_search_102 C  ih v1 v2 v3 v4 v5 v6_4 r14 v8_16 z15  hP hS (lv_sub hl [3, 4, 5, 6, 7, 8, 2, 1, 0] rfl) h
def fn_X3_search (v1 : Int32) (v2 : Int32) (v3 : Int32) (z : St) : Option (Int32 × St) := fn_X3_search_6   fu v1 v2 v3 0 1 z
set_option maxHeartbeats 4000000 in
set_option maxRecDepth 100000 in
theorem m_X3_search {l : Launch} {G : wG} (hG : Ok G) {v1 : Int32} {v2 : Int32} {v3 : Int32} {z : St} {Rz : Int32 × St}  (h : fn_X3_search  v1 v2 v3 z = some Rz) : Met l yX3_search (wsU yX3_search cX3_search 9 (some .int)) (rmd 3) (va_Pc [.ref (G.2.2 161), .int v1, .int v2, .int v3] (Pre G z)) (va_Qi (fun r u => (r, u) = Rz) (Pre G) (AW G)) 0 0 (AW G) := by
  refine Met.ofW (cc := cX3_search) (maxL := 9) (ret := (some .int)) (by decide) rfl ?_
  intro p e s m args below meth c s₁ B hml hv
  obtain ⟨rfl, hP, hK⟩ := hv
  have C : CX p s m ([.ref (G.2.2 161), .int v1, .int v2, .int v3] : List Value).toArray meth c cX3_search 9 (wsU yX3_search cX3_search 9 (some .int)) RX3 (some .int) G := ⟨B.exec, B.bytes, hml, findClass_of_methodNamed B.named, atoms_spec (ws := (wsU yX3_search cX3_search 9 (some .int))) B.pre, B.returns, B.notSynchronized, hK, hG⟩
  obtain ⟨hx, hb, -, hown, hts, hr, hlocks, -, -⟩ := id C
  have hS : va_S (AW G) s.heap s.heap [] := va_S.rf
  have hl := lv_entry [.ref (G.2.2 161), .int v1, .int v2, .int v3] (n := 9) (Nat.le_of_ble_eq_true rfl)
  rw [lg_entry_eq]
  generalize (lg_sl [.ref (G.2.2 161), .int v1, .int v2, .int v3] ++ List.replicate (9 - (lg_sl [.ref (G.2.2 161), .int v1, .int v2, .int v3]).length) Slot.unset).toArray = ls at hl ⊢
  have hl : lv_has ls 9 [(0, .ref (G.2.2 161)), (1, .int v1), (2, .int v2), (3, .int v3)] := hl
  unfold fn_X3_search at h
  refine lv_iconst (v := 0) hx hb dX3_search_0 (by decide) ?_
  refine lv_istore (lv' := [(4, .int 0), (0, .ref (G.2.2 161)), (1, .int v1), (2, .int v2), (3, .int v3)]) hx hb dX3_search_1 hl (by decide) rfl (fun ls hl => ?_)
  refine lv_iconst (v := 1) hx hb dX3_search_3 (by decide) ?_
  refine lv_istore (lv' := [(5, .int 1), (4, .int 0), (0, .ref (G.2.2 161)), (1, .int v1), (2, .int v2), (3, .int v3)]) hx hb dX3_search_4 hl (by decide) rfl (fun ls hl => ?_)
  exact pf_X3_search_6 C   fu v1 v2 v3 0 1 z  _ _ _ hP hS (lv_sub hl [2, 3, 4, 5, 1, 0] rfl) h
