def fn_X12_gridUneven_68 (k10 : Int32 → Int32 → Int32 → Int32 → Int32 → Int32 → St → Option (Int32 × St)) (k19 : Int32 → Int32 → Int32 → Int32 → Int32 → Int32 → Int32 → St → Option (Int32 × St)) (v1 : Int32) (v2 : Int32) (v3 : Int32) (v4 : Int32) (v6 : Int32) (v7 : Int32) (tv0 : Int32) (z : St) : Option (Int32 × St) := k19 v1 v2 v3 v4 tv0 v6 (v7 + 1) z
set_option maxHeartbeats 4000000 in
set_option maxRecDepth 100000 in
theorem pf_X12_gridUneven_68 {p : Program} {l : Launch} {e : Env} {s : State} {m : MethodId} {args : Array Value} {below : List Frame} {meth : Method} {c : Code} {G : wG} (C : CX p s m args meth c cX12_gridUneven 9 (wsU yX12_gridUneven cX12_gridUneven 9 (some .int)) RX12 (some .int) G) {Rz : Int32 × St} {k10 : Int32 → Int32 → Int32 → Int32 → Int32 → Int32 → St → Option (Int32 × St)} {k19 : Int32 → Int32 → Int32 → Int32 → Int32 → Int32 → Int32 → St → Option (Int32 × St)} (hk_10 : ∀ (v1 : Int32) (v2 : Int32) (v3 : Int32) (v4 : Int32) (v5 : Int32) (v6 : Int32) (z : St)  (H : Heap) (locs : List Loc) (ls : Array Slot), WP G z H → va_S (AW G) s.heap H locs → lv_has ls 9 [(0, .ref (G.2.2 172)), (1, .int v1), (2, .int v2), (3, .int v3), (4, .int v4), (5, .int v5), (6, .int v6)] → k10 v1 v2 v3 v4 v5 v6 z = some Rz → W p l e (rmd 3) s m args below meth c H locs 0 0 (QI below args s G Rz) (F0 m 10 ls [])) (hk_19 : ∀ (v1 : Int32) (v2 : Int32) (v3 : Int32) (v4 : Int32) (v5 : Int32) (v6 : Int32) (v7 : Int32) (z : St)  (H : Heap) (locs : List Loc) (ls : Array Slot), WP G z H → va_S (AW G) s.heap H locs → lv_has ls 9 [(0, .ref (G.2.2 172)), (1, .int v1), (2, .int v2), (3, .int v3), (4, .int v4), (5, .int v5), (6, .int v6), (7, .int v7)] → k19 v1 v2 v3 v4 v5 v6 v7 z = some Rz → W p l e (rmd 3) s m args below meth c H locs 0 0 (QI below args s G Rz) (F0 m 19 ls [])) (v1 : Int32) (v2 : Int32) (v3 : Int32) (v4 : Int32) (v6 : Int32) (v7 : Int32) (tv0 : Int32) (z : St)  {H : Heap} {locs : List Loc} {ls : Array Slot} (hP : WP G z H) (hS : va_S (AW G) s.heap H locs) (hl : lv_has ls 9 [(0, .ref (G.2.2 172)), (1, .int v1), (2, .int v2), (3, .int v3), (4, .int v4), (6, .int v6), (7, .int v7)]) (h : fn_X12_gridUneven_68  k10 k19 v1 v2 v3 v4 v6 v7 tv0 z = some Rz) : W p l e (rmd 3) s m args below meth c H locs 0 0 (QI below args s G Rz) (F0 m 68 ls [.int tv0]) := by
  obtain ⟨hx, hb, hml, hown, hts, hr, hlocks, hK, hG⟩ := id C
  unfold fn_X12_gridUneven_68 at h
  refine lv_istore (lv' := [(5, .int tv0), (0, .ref (G.2.2 172)), (1, .int v1), (2, .int v2), (3, .int v3), (4, .int v4), (6, .int v6), (7, .int v7)]) hx hb dX12_gridUneven_68 hl (by decide) rfl (fun ls hl => ?_)
  refine lv_iinc (v := (v7 + 1)) (lv' := [(7, .int (v7 + 1)), (5, .int tv0), (0, .ref (G.2.2 172)), (1, .int v1), (2, .int v2), (3, .int v3), (4, .int v4), (6, .int v6)]) hx hb dX12_gridUneven_70 hl (k := 7) rfl rfl (by decide) rfl (fun ls hl => ?_)
  refine lv_goto (tgt := 19) hx hb dX12_gridUneven_73 (by decide) ?_
  exact hk_19 v1 v2 v3 v4 tv0 v6 (v7 + 1) z  _ _ _ hP hS (lv_sub hl [2, 3, 4, 5, 6, 1, 7, 0] rfl) h
def fn_X12_gridUneven_52 (k10 : Int32 → Int32 → Int32 → Int32 → Int32 → Int32 → St → Option (Int32 × St)) (k19 : Int32 → Int32 → Int32 → Int32 → Int32 → Int32 → Int32 → St → Option (Int32 × St)) (v1 : Int32) (v2 : Int32) (v3 : Int32) (v5 : Int32) (v6 : Int32) (v7 : Int32) (v8 : Int32) (tv0 : Int32) (z : St) : Option (Int32 × St) := (if v8 ≤ v5 then fn_X12_gridUneven_68  k10 k19 v1 v2 v3 tv0 v6 v7 v5 z else fn_X12_gridUneven_68  k10 k19 v1 v2 v3 tv0 v6 v7 v8 z)
set_option maxHeartbeats 4000000 in
set_option maxRecDepth 100000 in
theorem pf_X12_gridUneven_52 {p : Program} {l : Launch} {e : Env} {s : State} {m : MethodId} {args : Array Value} {below : List Frame} {meth : Method} {c : Code} {G : wG} (C : CX p s m args meth c cX12_gridUneven 9 (wsU yX12_gridUneven cX12_gridUneven 9 (some .int)) RX12 (some .int) G) {Rz : Int32 × St} {k10 : Int32 → Int32 → Int32 → Int32 → Int32 → Int32 → St → Option (Int32 × St)} {k19 : Int32 → Int32 → Int32 → Int32 → Int32 → Int32 → Int32 → St → Option (Int32 × St)} (hk_10 : ∀ (v1 : Int32) (v2 : Int32) (v3 : Int32) (v4 : Int32) (v5 : Int32) (v6 : Int32) (z : St)  (H : Heap) (locs : List Loc) (ls : Array Slot), WP G z H → va_S (AW G) s.heap H locs → lv_has ls 9 [(0, .ref (G.2.2 172)), (1, .int v1), (2, .int v2), (3, .int v3), (4, .int v4), (5, .int v5), (6, .int v6)] → k10 v1 v2 v3 v4 v5 v6 z = some Rz → W p l e (rmd 3) s m args below meth c H locs 0 0 (QI below args s G Rz) (F0 m 10 ls [])) (hk_19 : ∀ (v1 : Int32) (v2 : Int32) (v3 : Int32) (v4 : Int32) (v5 : Int32) (v6 : Int32) (v7 : Int32) (z : St)  (H : Heap) (locs : List Loc) (ls : Array Slot), WP G z H → va_S (AW G) s.heap H locs → lv_has ls 9 [(0, .ref (G.2.2 172)), (1, .int v1), (2, .int v2), (3, .int v3), (4, .int v4), (5, .int v5), (6, .int v6), (7, .int v7)] → k19 v1 v2 v3 v4 v5 v6 v7 z = some Rz → W p l e (rmd 3) s m args below meth c H locs 0 0 (QI below args s G Rz) (F0 m 19 ls [])) (v1 : Int32) (v2 : Int32) (v3 : Int32) (v5 : Int32) (v6 : Int32) (v7 : Int32) (v8 : Int32) (tv0 : Int32) (z : St)  {H : Heap} {locs : List Loc} {ls : Array Slot} (hP : WP G z H) (hS : va_S (AW G) s.heap H locs) (hl : lv_has ls 9 [(0, .ref (G.2.2 172)), (1, .int v1), (2, .int v2), (3, .int v3), (5, .int v5), (6, .int v6), (7, .int v7), (8, .int v8)]) (h : fn_X12_gridUneven_52  k10 k19 v1 v2 v3 v5 v6 v7 v8 tv0 z = some Rz) : W p l e (rmd 3) s m args below meth c H locs 0 0 (QI below args s G Rz) (F0 m 52 ls [.int tv0]) := by
  obtain ⟨hx, hb, hml, hown, hts, hr, hlocks, hK, hG⟩ := id C
  unfold fn_X12_gridUneven_52 at h
  refine lv_istore (lv' := [(4, .int tv0), (0, .ref (G.2.2 172)), (1, .int v1), (2, .int v2), (3, .int v3), (5, .int v5), (6, .int v6), (7, .int v7), (8, .int v8)]) hx hb dX12_gridUneven_52 hl (by decide) rfl (fun ls hl => ?_)
  refine lv_iload hx hb dX12_gridUneven_54 (lv_at hl 8 rfl) ?_
  refine lv_iload hx hb dX12_gridUneven_56 (lv_at hl 5 rfl) ?_
  refine lv_icmp_le (tgt := 66) hx hb dX12_gridUneven_58 (by decide) (fun c1 => ?_) (fun c1 => ?_)
  · rw [if_pos c1] at h
    refine lv_iload hx hb dX12_gridUneven_66 (lv_at hl 5 rfl) ?_
    exact pf_X12_gridUneven_68 C  hk_10 hk_19 v1 v2 v3 tv0 v6 v7 v5 z  hP hS (lv_sub hl [1, 2, 3, 4, 0, 6, 7] rfl) h
  · rw [if_neg c1] at h
    refine lv_iload hx hb dX12_gridUneven_61 (lv_at hl 8 rfl) ?_
    refine lv_goto (tgt := 68) hx hb dX12_gridUneven_63 (by decide) ?_
    exact pf_X12_gridUneven_68 C  hk_10 hk_19 v1 v2 v3 tv0 v6 v7 v8 z  hP hS (lv_sub hl [1, 2, 3, 4, 0, 6, 7] rfl) h
def fn_X12_gridUneven_19 (k10 : Int32 → Int32 → Int32 → Int32 → Int32 → Int32 → St → Option (Int32 × St)) : Nat → Int32 → Int32 → Int32 → Int32 → Int32 → Int32 → Int32 → St → Option (Int32 × St)
  | 0, _, _, _, _, _, _, _, _ => none
  | n + 1, v1, v2, v3, v4, v5, v6, v7, z => (if v3 ≤ v7 then k10 v1 v2 v3 v4 v5 (v6 + 1) z else bd (fn_X12_gridIcing  v1 v2 v3 v6 v7 z) (fun r3 z4 => (if v4 ≤ r3 then fn_X12_gridUneven_52  k10 (fn_X12_gridUneven_19  k10 n) v1 v2 v3 v5 v6 v7 r3 v4 z4 else fn_X12_gridUneven_52  k10 (fn_X12_gridUneven_19  k10 n) v1 v2 v3 v5 v6 v7 r3 r3 z4)))
set_option maxHeartbeats 4000000 in
set_option maxRecDepth 100000 in
theorem pf_X12_gridUneven_19 {p : Program} {l : Launch} {e : Env} {s : State} {m : MethodId} {args : Array Value} {below : List Frame} {meth : Method} {c : Code} {G : wG} (C : CX p s m args meth c cX12_gridUneven 9 (wsU yX12_gridUneven cX12_gridUneven 9 (some .int)) RX12 (some .int) G) {Rz : Int32 × St} {k10 : Int32 → Int32 → Int32 → Int32 → Int32 → Int32 → St → Option (Int32 × St)} (hk_10 : ∀ (v1 : Int32) (v2 : Int32) (v3 : Int32) (v4 : Int32) (v5 : Int32) (v6 : Int32) (z : St)  (H : Heap) (locs : List Loc) (ls : Array Slot), WP G z H → va_S (AW G) s.heap H locs → lv_has ls 9 [(0, .ref (G.2.2 172)), (1, .int v1), (2, .int v2), (3, .int v3), (4, .int v4), (5, .int v5), (6, .int v6)] → k10 v1 v2 v3 v4 v5 v6 z = some Rz → W p l e (rmd 3) s m args below meth c H locs 0 0 (QI below args s G Rz) (F0 m 10 ls [])) : ∀ (n : Nat) (v1 : Int32) (v2 : Int32) (v3 : Int32) (v4 : Int32) (v5 : Int32) (v6 : Int32) (v7 : Int32) (z : St)  (H : Heap) (locs : List Loc) (ls : Array Slot), WP G z H → va_S (AW G) s.heap H locs → lv_has ls 9 [(0, .ref (G.2.2 172)), (1, .int v1), (2, .int v2), (3, .int v3), (4, .int v4), (5, .int v5), (6, .int v6), (7, .int v7)] → fn_X12_gridUneven_19  k10 n v1 v2 v3 v4 v5 v6 v7 z = some Rz → W p l e (rmd 3) s m args below meth c H locs 0 0 (QI below args s G Rz) (F0 m 19 ls []) := by
  obtain ⟨hx, hb, hml, hown, hts, hr, hlocks, hK, hG⟩ := id C
  intro n
  induction n with
  | zero => intro v1 v2 v3 v4 v5 v6 v7 z  H locs ls hP hS hl h; cases h
  | succ n ih =>
    intro v1 v2 v3 v4 v5 v6 v7 z  H locs ls hP hS hl h
    rw [fn_X12_gridUneven_19] at h
    refine lv_iload hx hb dX12_gridUneven_19 (lv_at hl 7 rfl) ?_
    refine lv_iload_n hx hb dX12_gridUneven_21 rfl (lv_at hl 3 rfl) ?_
    refine lv_icmp_ge (tgt := 76) hx hb dX12_gridUneven_22 (by decide) (fun c1 => ?_) (fun c1 => ?_)
    · rw [if_pos c1] at h
      refine lv_iinc (v := (v6 + 1)) (lv' := [(6, .int (v6 + 1)), (0, .ref (G.2.2 172)), (1, .int v1), (2, .int v2), (3, .int v3), (4, .int v4), (5, .int v5), (7, .int v7)]) hx hb dX12_gridUneven_76 hl (k := 6) rfl rfl (by decide) rfl (fun ls hl => ?_)
      refine lv_goto (tgt := 10) hx hb dX12_gridUneven_79 (by decide) ?_
      exact hk_10 v1 v2 v3 v4 v5 (v6 + 1) z  _ _ _ hP hS (lv_sub hl [1, 2, 3, 4, 5, 6, 0] rfl) h
    · rw [if_neg c1] at h
      refine lv_aload_n hx hb dX12_gridUneven_25 rfl (lv_at hl 0 rfl) ?_
      refine lv_iload_n hx hb dX12_gridUneven_26 rfl (lv_at hl 1 rfl) ?_
      refine lv_iload_n hx hb dX12_gridUneven_27 rfl (lv_at hl 2 rfl) ?_
      refine lv_iload_n hx hb dX12_gridUneven_28 rfl (lv_at hl 3 rfl) ?_
      refine lv_iload hx hb dX12_gridUneven_29 (lv_at hl 6 rfl) ?_
      refine lv_iload hx hb dX12_gridUneven_31 (lv_at hl 7 rfl) ?_
      obtain ⟨r3, z4, h2, h⟩ := bd_s h
      refine x_Vi (Rz := (r3, z4)) (As := [.int v1, .int v2, .int v3, .int v6, .int v7]) (rest := []) ⟨hx, hb, hml, hown, hts⟩ hK hP hS (kd_lt k_172 (by decide)) (cell_12 k_172) rfl (m_X12_gridIcing hG   h2) (cwV 5 hts (gV lw_2028 lw_2030 lw_100 lw_125 lw_2031) rfl rfl rfl (by decide +kernel) (rmd_ok (by decide) (by decide))) rfl hl.1 rfl (Nat.le_of_ble_eq_true rfl) dX12_gridUneven_33 ⟨Nat.le_refl _, Nat.le_refl _⟩ (fun H locs hP hS => ?_)
      refine lv_istore (lv' := [(8, .int r3), (0, .ref (G.2.2 172)), (1, .int v1), (2, .int v2), (3, .int v3), (4, .int v4), (5, .int v5), (6, .int v6), (7, .int v7)]) hx hb dX12_gridUneven_36 hl (by decide) rfl (fun ls hl => ?_)
      refine lv_iload hx hb dX12_gridUneven_38 (lv_at hl 0 rfl) ?_
      refine lv_iload hx hb dX12_gridUneven_40 (lv_at hl 5 rfl) ?_
      refine lv_icmp_ge (tgt := 50) hx hb dX12_gridUneven_42 (by decide) (fun c5 => ?_) (fun c5 => ?_)
      · rw [if_pos c5] at h
        refine lv_iload hx hb dX12_gridUneven_50 (lv_at hl 5 rfl) ?_
        exact pf_X12_gridUneven_52 C  hk_10 ih v1 v2 v3 v5 v6 v7 r3 v4 z4  hP hS (lv_sub hl [1, 2, 3, 4, 6, 7, 8, 0] rfl) h
      · rw [if_neg c5] at h
        refine lv_iload hx hb dX12_gridUneven_45 (lv_at hl 0 rfl) ?_
        refine lv_goto (tgt := 52) hx hb dX12_gridUneven_47 (by decide) ?_
        exact pf_X12_gridUneven_52 C  hk_10 ih v1 v2 v3 v5 v6 v7 r3 r3 z4  hP hS (lv_sub hl [1, 2, 3, 4, 6, 7, 8, 0] rfl) h
def fn_X12_gridUneven_10 : Nat → Int32 → Int32 → Int32 → Int32 → Int32 → Int32 → St → Option (Int32 × St)
  | 0, _, _, _, _, _, _, _ => none
  | n + 1, v1, v2, v3, v4, v5, v6, z => (if v2 ≤ v6 then some ((v5 - v4), z) else fn_X12_gridUneven_19  (fn_X12_gridUneven_10   n) fu v1 v2 v3 v4 v5 v6 0 z)
set_option maxHeartbeats 4000000 in
set_option maxRecDepth 100000 in
theorem pf_X12_gridUneven_10 {p : Program} {l : Launch} {e : Env} {s : State} {m : MethodId} {args : Array Value} {below : List Frame} {meth : Method} {c : Code} {G : wG} (C : CX p s m args meth c cX12_gridUneven 9 (wsU yX12_gridUneven cX12_gridUneven 9 (some .int)) RX12 (some .int) G) {Rz : Int32 × St} : ∀ (n : Nat) (v1 : Int32) (v2 : Int32) (v3 : Int32) (v4 : Int32) (v5 : Int32) (v6 : Int32) (z : St)  (H : Heap) (locs : List Loc) (ls : Array Slot), WP G z H → va_S (AW G) s.heap H locs → lv_has ls 9 [(0, .ref (G.2.2 172)), (1, .int v1), (2, .int v2), (3, .int v3), (4, .int v4), (5, .int v5), (6, .int v6)] → fn_X12_gridUneven_10   n v1 v2 v3 v4 v5 v6 z = some Rz → W p l e (rmd 3) s m args below meth c H locs 0 0 (QI below args s G Rz) (F0 m 10 ls []) := by
  obtain ⟨hx, hb, hml, hown, hts, hr, hlocks, hK, hG⟩ := id C
  intro n
  induction n with
  | zero => intro v1 v2 v3 v4 v5 v6 z  H locs ls hP hS hl h; cases h
  | succ n ih =>
    intro v1 v2 v3 v4 v5 v6 z  H locs ls hP hS hl h
    rw [fn_X12_gridUneven_10] at h
    refine lv_iload hx hb dX12_gridUneven_10 (lv_at hl 6 rfl) ?_
    refine lv_iload_n hx hb dX12_gridUneven_12 rfl (lv_at hl 2 rfl) ?_
    refine lv_icmp_ge (tgt := 82) hx hb dX12_gridUneven_13 (by decide) (fun c1 => ?_) (fun c1 => ?_)
    · rw [if_pos c1] at h
      refine lv_iload hx hb dX12_gridUneven_82 (lv_at hl 5 rfl) ?_
      refine lv_iload hx hb dX12_gridUneven_84 (lv_at hl 4 rfl) ?_
      refine lv_isub hx hb dX12_gridUneven_86 ?_
      exact x_iret hx hb hr hlocks hK hP hS h dX12_gridUneven_87
    · rw [if_neg c1] at h
      refine lv_iconst (v := 0) hx hb dX12_gridUneven_16 (by decide) ?_
      refine lv_istore (lv' := [(7, .int 0), (0, .ref (G.2.2 172)), (1, .int v1), (2, .int v2), (3, .int v3), (4, .int v4), (5, .int v5), (6, .int v6)]) hx hb dX12_gridUneven_17 hl (by decide) rfl (fun ls hl => ?_)
      exact pf_X12_gridUneven_19 C  ih fu v1 v2 v3 v4 v5 v6 0 z  _ _ _ hP hS (lv_sub hl [1, 2, 3, 4, 5, 6, 7, 0] rfl) h
def fn_X12_gridUneven (v1 : Int32) (v2 : Int32) (v3 : Int32) (z : St) : Option (Int32 × St) := fn_X12_gridUneven_10   fu v1 v2 v3 33 0 0 z
set_option maxHeartbeats 4000000 in
set_option maxRecDepth 100000 in
theorem m_X12_gridUneven {l : Launch} {G : wG} (hG : Ok G) {v1 : Int32} {v2 : Int32} {v3 : Int32} {z : St} {Rz : Int32 × St}  (h : fn_X12_gridUneven  v1 v2 v3 z = some Rz) : Met l yX12_gridUneven (wsU yX12_gridUneven cX12_gridUneven 9 (some .int)) (rmd 3) (va_Pc [.ref (G.2.2 172), .int v1, .int v2, .int v3] (Pre G z)) (va_Qi (fun r u => (r, u) = Rz) (Pre G) (AW G)) 0 0 (AW G) := by
  refine Met.ofW (cc := cX12_gridUneven) (maxL := 9) (ret := (some .int)) (by decide) rfl ?_
  intro p e s m args below meth c s₁ B hml hv
  obtain ⟨rfl, hP, hK⟩ := hv
  have C : CX p s m ([.ref (G.2.2 172), .int v1, .int v2, .int v3] : List Value).toArray meth c cX12_gridUneven 9 (wsU yX12_gridUneven cX12_gridUneven 9 (some .int)) RX12 (some .int) G := ⟨B.exec, B.bytes, hml, findClass_of_methodNamed B.named, atoms_spec (ws := (wsU yX12_gridUneven cX12_gridUneven 9 (some .int))) B.pre, B.returns, B.notSynchronized, hK, hG⟩
  obtain ⟨hx, hb, -, hown, hts, hr, hlocks, -, -⟩ := id C
  have hS : va_S (AW G) s.heap s.heap [] := va_S.rf
  have hl := lv_entry [.ref (G.2.2 172), .int v1, .int v2, .int v3] (n := 9) (Nat.le_of_ble_eq_true rfl)
  rw [lg_entry_eq]
  generalize (lg_sl [.ref (G.2.2 172), .int v1, .int v2, .int v3] ++ List.replicate (9 - (lg_sl [.ref (G.2.2 172), .int v1, .int v2, .int v3]).length) Slot.unset).toArray = ls at hl ⊢
  have hl : lv_has ls 9 [(0, .ref (G.2.2 172)), (1, .int v1), (2, .int v2), (3, .int v3)] := hl
  unfold fn_X12_gridUneven at h
  refine lv_bipush (v := 33) hx hb dX12_gridUneven_0 (by decide) ?_
  refine lv_istore (lv' := [(4, .int 33), (0, .ref (G.2.2 172)), (1, .int v1), (2, .int v2), (3, .int v3)]) hx hb dX12_gridUneven_2 hl (by decide) rfl (fun ls hl => ?_)
  refine lv_iconst (v := 0) hx hb dX12_gridUneven_4 (by decide) ?_
  refine lv_istore (lv' := [(5, .int 0), (4, .int 33), (0, .ref (G.2.2 172)), (1, .int v1), (2, .int v2), (3, .int v3)]) hx hb dX12_gridUneven_5 hl (by decide) rfl (fun ls hl => ?_)
  refine lv_iconst (v := 0) hx hb dX12_gridUneven_7 (by decide) ?_
  refine lv_istore (lv' := [(6, .int 0), (5, .int 0), (4, .int 33), (0, .ref (G.2.2 172)), (1, .int v1), (2, .int v2), (3, .int v3)]) hx hb dX12_gridUneven_8 hl (by decide) rfl (fun ls hl => ?_)
  exact pf_X12_gridUneven_10 C   fu v1 v2 v3 33 0 0 z  _ _ _ hP hS (lv_sub hl [3, 4, 5, 6, 2, 1, 0] rfl) h
def fn_X12_grid_140 (k35 : Int32 → Int32 → Int32 → Int32 → Int32 → St → Option (Int32 × St)) (v1 : Int32) (v2 : Int32) (v3 : Int32) (v4 : Int32) (v5 : Int32) (z : St) : Option (Int32 × St) := k35 v1 v2 v3 v4 (v5 + 1) z
set_option maxHeartbeats 4000000 in
set_option maxRecDepth 100000 in
theorem pf_X12_grid_140 {p : Program} {l : Launch} {e : Env} {s : State} {m : MethodId} {args : Array Value} {below : List Frame} {meth : Method} {c : Code} {G : wG} (C : CX p s m args meth c cX12_grid 8 (wsU yX12_grid cX12_grid 8 (some .int)) RX12 (some .int) G) {Rz : Int32 × St} {k35 : Int32 → Int32 → Int32 → Int32 → Int32 → St → Option (Int32 × St)} (hk_35 : ∀ (v1 : Int32) (v2 : Int32) (v3 : Int32) (v4 : Int32) (v5 : Int32) (z : St)  (H : Heap) (locs : List Loc) (ls : Array Slot), WP G z H → va_S (AW G) s.heap H locs → lv_has ls 8 [(0, .ref (G.2.2 172)), (1, .int v1), (2, .int v2), (3, .int v3), (4, .int v4), (5, .int v5)] → k35 v1 v2 v3 v4 v5 z = some Rz → W p l e (rmd 4) s m args below meth c H locs 0 0 (QI below args s G Rz) (F0 m 35 ls [])) (v1 : Int32) (v2 : Int32) (v3 : Int32) (v4 : Int32) (v5 : Int32) (z : St)  {H : Heap} {locs : List Loc} {ls : Array Slot} (hP : WP G z H) (hS : va_S (AW G) s.heap H locs) (hl : lv_has ls 8 [(0, .ref (G.2.2 172)), (1, .int v1), (2, .int v2), (3, .int v3), (4, .int v4), (5, .int v5)]) (h : fn_X12_grid_140  k35 v1 v2 v3 v4 v5 z = some Rz) : W p l e (rmd 4) s m args below meth c H locs 0 0 (QI below args s G Rz) (F0 m 140 ls []) := by
  obtain ⟨hx, hb, hml, hown, hts, hr, hlocks, hK, hG⟩ := id C
  unfold fn_X12_grid_140 at h
  refine lv_iinc (v := (v5 + 1)) (lv' := [(5, .int (v5 + 1)), (0, .ref (G.2.2 172)), (1, .int v1), (2, .int v2), (3, .int v3), (4, .int v4)]) hx hb dX12_grid_140 hl (k := 5) rfl rfl (by decide) rfl (fun ls hl => ?_)
  refine lv_goto (tgt := 35) hx hb dX12_grid_143 (by decide) ?_
  exact hk_35 v1 v2 v3 v4 (v5 + 1) z  _ _ _ hP hS (lv_sub hl [1, 2, 3, 4, 5, 0] rfl) h
def fn_X12_grid_136 (k35 : Int32 → Int32 → Int32 → Int32 → Int32 → St → Option (Int32 × St)) (v1 : Int32) (v2 : Int32) (v3 : Int32) (v5 : Int32) (z : St) : Option (Int32 × St) := fn_X12_grid_140  k35 v1 v2 v3 v5 v5 z
set_option maxHeartbeats 4000000 in
set_option maxRecDepth 100000 in
theorem pf_X12_grid_136 {p : Program} {l : Launch} {e : Env} {s : State} {m : MethodId} {args : Array Value} {below : List Frame} {meth : Method} {c : Code} {G : wG} (C : CX p s m args meth c cX12_grid 8 (wsU yX12_grid cX12_grid 8 (some .int)) RX12 (some .int) G) {Rz : Int32 × St} {k35 : Int32 → Int32 → Int32 → Int32 → Int32 → St → Option (Int32 × St)} (hk_35 : ∀ (v1 : Int32) (v2 : Int32) (v3 : Int32) (v4 : Int32) (v5 : Int32) (z : St)  (H : Heap) (locs : List Loc) (ls : Array Slot), WP G z H → va_S (AW G) s.heap H locs → lv_has ls 8 [(0, .ref (G.2.2 172)), (1, .int v1), (2, .int v2), (3, .int v3), (4, .int v4), (5, .int v5)] → k35 v1 v2 v3 v4 v5 z = some Rz → W p l e (rmd 4) s m args below meth c H locs 0 0 (QI below args s G Rz) (F0 m 35 ls [])) (v1 : Int32) (v2 : Int32) (v3 : Int32) (v5 : Int32) (z : St)  {H : Heap} {locs : List Loc} {ls : Array Slot} (hP : WP G z H) (hS : va_S (AW G) s.heap H locs) (hl : lv_has ls 8 [(0, .ref (G.2.2 172)), (1, .int v1), (2, .int v2), (3, .int v3), (5, .int v5)]) (h : fn_X12_grid_136  k35 v1 v2 v3 v5 z = some Rz) : W p l e (rmd 4) s m args below meth c H locs 0 0 (QI below args s G Rz) (F0 m 136 ls []) := by
  obtain ⟨hx, hb, hml, hown, hts, hr, hlocks, hK, hG⟩ := id C
  unfold fn_X12_grid_136 at h
  refine lv_iload hx hb dX12_grid_136 (lv_at hl 4 rfl) ?_
  refine lv_istore (lv' := [(4, .int v5), (0, .ref (G.2.2 172)), (1, .int v1), (2, .int v2), (3, .int v3), (5, .int v5)]) hx hb dX12_grid_138 hl (by decide) rfl (fun ls hl => ?_)
  exact pf_X12_grid_140 C  hk_35 v1 v2 v3 v5 v5 z  hP hS (lv_sub hl [1, 2, 3, 4, 0, 5] rfl) h
def fn_X12_grid_101 (k35 : Int32 → Int32 → Int32 → Int32 → Int32 → St → Option (Int32 × St)) (v1 : Int32) (v2 : Int32) (v3 : Int32) (v4 : Int32) (v5 : Int32) (v6 : Int32) (tv0 : Int32) (z : St) : Option (Int32 × St) := (if tv0 < 0 then fn_X12_grid_136  k35 v1 v2 v3 v5 z else (if tv0 = 0 then bd (fn_X12_gridUneven  v1 v5 v6 z) (fun r4 z5 => gd (v4 != 0) (bd (fn_X12_gridUneven  v1 v4 (v2 / v4) z5) (fun r8 z9 => (if r8 ≤ r4 then fn_X12_grid_140  k35 v1 v2 v3 v4 v5 z9 else fn_X12_grid_136  k35 v1 v2 v3 v5 z9)))) else fn_X12_grid_140  k35 v1 v2 v3 v4 v5 z))
set_option maxHeartbeats 4000000 in
set_option maxRecDepth 100000 in
theorem pf_X12_grid_101 {p : Program} {l : Launch} {e : Env} {s : State} {m : MethodId} {args : Array Value} {below : List Frame} {meth : Method} {c : Code} {G : wG} (C : CX p s m args meth c cX12_grid 8 (wsU yX12_grid cX12_grid 8 (some .int)) RX12 (some .int) G) {Rz : Int32 × St} {k35 : Int32 → Int32 → Int32 → Int32 → Int32 → St → Option (Int32 × St)} (hk_35 : ∀ (v1 : Int32) (v2 : Int32) (v3 : Int32) (v4 : Int32) (v5 : Int32) (z : St)  (H : Heap) (locs : List Loc) (ls : Array Slot), WP G z H → va_S (AW G) s.heap H locs → lv_has ls 8 [(0, .ref (G.2.2 172)), (1, .int v1), (2, .int v2), (3, .int v3), (4, .int v4), (5, .int v5)] → k35 v1 v2 v3 v4 v5 z = some Rz → W p l e (rmd 4) s m args below meth c H locs 0 0 (QI below args s G Rz) (F0 m 35 ls [])) (v1 : Int32) (v2 : Int32) (v3 : Int32) (v4 : Int32) (v5 : Int32) (v6 : Int32) (tv0 : Int32) (z : St)  {H : Heap} {locs : List Loc} {ls : Array Slot} (hP : WP G z H) (hS : va_S (AW G) s.heap H locs) (hl : lv_has ls 8 [(0, .ref (G.2.2 172)), (1, .int v1), (2, .int v2), (3, .int v3), (4, .int v4), (5, .int v5), (6, .int v6)]) (h : fn_X12_grid_101  k35 v1 v2 v3 v4 v5 v6 tv0 z = some Rz) : W p l e (rmd 4) s m args below meth c H locs 0 0 (QI below args s G Rz) (F0 m 101 ls [.int tv0]) := by
  obtain ⟨hx, hb, hml, hown, hts, hr, hlocks, hK, hG⟩ := id C
  unfold fn_X12_grid_101 at h
  refine lv_istore (lv' := [(7, .int tv0), (0, .ref (G.2.2 172)), (1, .int v1), (2, .int v2), (3, .int v3), (4, .int v4), (5, .int v5), (6, .int v6)]) hx hb dX12_grid_101 hl (by decide) rfl (fun ls hl => ?_)
  refine lv_iload hx hb dX12_grid_103 (lv_at hl 0 rfl) ?_
  refine lv_if_lt (tgt := 136) hx hb dX12_grid_105 (by decide) (fun c1 => ?_) (fun c1 => ?_)
  · rw [if_pos c1] at h
    exact pf_X12_grid_136 C  hk_35 v1 v2 v3 v5 z  hP hS (lv_sub hl [1, 2, 3, 4, 6] rfl) h
  · rw [if_neg c1] at h
    refine lv_iload hx hb dX12_grid_108 (lv_at hl 0 rfl) ?_
    refine lv_if_ne (tgt := 140) hx hb dX12_grid_110 (by decide) (fun c2 => ?_) (fun c2 => ?_)
    · rw [if_neg c2] at h
      exact pf_X12_grid_140 C  hk_35 v1 v2 v3 v4 v5 z  hP hS (lv_sub hl [1, 2, 3, 4, 5, 6] rfl) h
    · rw [if_pos c2] at h
      refine lv_aload_n hx hb dX12_grid_113 rfl (lv_at hl 1 rfl) ?_
      refine lv_iload_n hx hb dX12_grid_114 rfl (lv_at hl 2 rfl) ?_
      refine lv_iload hx hb dX12_grid_115 (lv_at hl 6 rfl) ?_
      refine lv_iload hx hb dX12_grid_117 (lv_at hl 7 rfl) ?_
      obtain ⟨r4, z5, h3, h⟩ := bd_s h
      refine x_Vi (Rz := (r4, z5)) (As := [.int v1, .int v5, .int v6]) (rest := []) ⟨hx, hb, hml, hown, hts⟩ hK hP hS (kd_lt k_172 (by decide)) (cell_12 k_172) rfl (m_X12_gridUneven hG   h3) (cwV 3 hts (gV lw_2024 lw_2026 lw_99 lw_125 lw_2027) rfl rfl rfl (by decide +kernel) (rmd_ok (by decide) (by decide))) rfl hl.1 rfl (Nat.le_of_ble_eq_true rfl) dX12_grid_119 ⟨Nat.le_refl _, Nat.le_refl _⟩ (fun H locs hP hS => ?_)
      refine lv_aload_n hx hb dX12_grid_122 rfl (lv_at hl 1 rfl) ?_
      refine lv_iload_n hx hb dX12_grid_123 rfl (lv_at hl 2 rfl) ?_
      refine lv_iload hx hb dX12_grid_124 (lv_at hl 5 rfl) ?_
      refine lv_iload_n hx hb dX12_grid_126 rfl (lv_at hl 3 rfl) ?_
      refine lv_iload hx hb dX12_grid_127 (lv_at hl 5 rfl) ?_
      obtain ⟨g6, h⟩ := gd_s h
      refine lv_idiv hx hb dX12_grid_129 (bne_z g6) ?_
      obtain ⟨r8, z9, h7, h⟩ := bd_s h
      refine x_Vi (Rz := (r8, z9)) (As := [.int v1, .int v4, .int (v2 / v4)]) (rest := [.int r4]) ⟨hx, hb, hml, hown, hts⟩ hK hP hS (kd_lt k_172 (by decide)) (cell_12 k_172) rfl (m_X12_gridUneven hG   h7) (cwV 3 hts (gV lw_2024 lw_2026 lw_99 lw_125 lw_2027) rfl rfl rfl (by decide +kernel) (rmd_ok (by decide) (by decide))) rfl hl.1 rfl (Nat.le_of_ble_eq_true rfl) dX12_grid_130 ⟨Nat.le_refl _, Nat.le_refl _⟩ (fun H locs hP hS => ?_)
      refine lv_icmp_ge (tgt := 140) hx hb dX12_grid_133 (by decide) (fun c10 => ?_) (fun c10 => ?_)
      · rw [if_pos c10] at h
        exact pf_X12_grid_140 C  hk_35 v1 v2 v3 v4 v5 z9  hP hS (lv_sub hl [1, 2, 3, 4, 5, 6] rfl) h
      · rw [if_neg c10] at h
        exact pf_X12_grid_136 C  hk_35 v1 v2 v3 v5 z9  hP hS (lv_sub hl [1, 2, 3, 4, 6] rfl) h
def fn_X12_grid_35 : Nat → Int32 → Int32 → Int32 → Int32 → Int32 → St → Option (Int32 × St)
  | 0, _, _, _, _, _, _ => none
  | n + 1, v1, v2, v3, v4, v5, z => (if 8 < v5 then (if 0 ≤ v4 then gd (v4 != 0) (nm (v2 / v4) (fun v5_4 => (if v3 = 0 then some (v4, z) else (if v3 = 1 then some (v5_4, z) else (if v3 = 2 then some (((v4 + v5_4) - 2), z) else bd (fn_X12_gridUneven  v1 v4 v5_4 z) (fun r9 z10 => some (r9, z10))))))) else some ((-1), z)) else gd (v5 != 0) (nm (v2 / v5) (fun v6_12 => (if (v5 * v6_12) = v2 then (if 8 < v6_12 then fn_X12_grid_140  (fn_X12_grid_35   n) v1 v2 v3 v4 v5 z else bd (fn_X12_isGrid  v1 v5 v6_12 z) (fun r16 z17 => (if r16 = 0 then fn_X12_grid_140  (fn_X12_grid_35   n) v1 v2 v3 v4 v5 z17 else (if 0 ≤ v4 then gd (v4 != 0) (fn_X12_grid_101  (fn_X12_grid_35   n) v1 v2 v3 v4 v5 v6_12 (((v5 + v6_12) - v4) - (v2 / v4)) z17) else fn_X12_grid_101  (fn_X12_grid_35   n) v1 v2 v3 v4 v5 v6_12 (-1) z17)))) else fn_X12_grid_140  (fn_X12_grid_35   n) v1 v2 v3 v4 v5 z))))
set_option maxHeartbeats 4000000 in
set_option maxRecDepth 100000 in
theorem pf_X12_grid_35 {p : Program} {l : Launch} {e : Env} {s : State} {m : MethodId} {args : Array Value} {below : List Frame} {meth : Method} {c : Code} {G : wG} (C : CX p s m args meth c cX12_grid 8 (wsU yX12_grid cX12_grid 8 (some .int)) RX12 (some .int) G) {Rz : Int32 × St} : ∀ (n : Nat) (v1 : Int32) (v2 : Int32) (v3 : Int32) (v4 : Int32) (v5 : Int32) (z : St)  (H : Heap) (locs : List Loc) (ls : Array Slot), WP G z H → va_S (AW G) s.heap H locs → lv_has ls 8 [(0, .ref (G.2.2 172)), (1, .int v1), (2, .int v2), (3, .int v3), (4, .int v4), (5, .int v5)] → fn_X12_grid_35   n v1 v2 v3 v4 v5 z = some Rz → W p l e (rmd 4) s m args below meth c H locs 0 0 (QI below args s G Rz) (F0 m 35 ls []) := by
  obtain ⟨hx, hb, hml, hown, hts, hr, hlocks, hK, hG⟩ := id C
  intro n
  induction n with
  | zero => intro v1 v2 v3 v4 v5 z  H locs ls hP hS hl h; cases h
  | succ n ih =>
    intro v1 v2 v3 v4 v5 z  H locs ls hP hS hl h
    rw [fn_X12_grid_35] at h
    refine lv_iload hx hb dX12_grid_35 (lv_at hl 5 rfl) ?_
    refine lv_bipush (v := 8) hx hb dX12_grid_37 (by decide) ?_
    refine lv_icmp_gt (tgt := 146) hx hb dX12_grid_39 (by decide) (fun c1 => ?_) (fun c1 => ?_)
    · rw [if_pos c1] at h
      refine lv_iload hx hb dX12_grid_146 (lv_at hl 4 rfl) ?_
      refine lv_if_ge (tgt := 153) hx hb dX12_grid_148 (by decide) (fun c2 => ?_) (fun c2 => ?_)
      · rw [if_pos c2] at h
        refine lv_iload_n hx hb dX12_grid_153 rfl (lv_at hl 2 rfl) ?_
        refine lv_iload hx hb dX12_grid_154 (lv_at hl 4 rfl) ?_
        obtain ⟨g3, h⟩ := gd_s h
        refine lv_idiv hx hb dX12_grid_156 (bne_z g3) ?_
        obtain ⟨v5_4, e_v5_4, h⟩ := nm_s h
        refine x_top e_v5_4 ?_
        refine lv_istore (lv' := [(5, .int v5_4), (0, .ref (G.2.2 172)), (1, .int v1), (2, .int v2), (3, .int v3), (4, .int v4)]) hx hb dX12_grid_157 hl (by decide) rfl (fun ls hl => ?_)
        refine lv_iload_n hx hb dX12_grid_159 rfl (lv_at hl 4 rfl) ?_
        refine lv_if_ne (tgt := 168) hx hb dX12_grid_160 (by decide) (fun c5 => ?_) (fun c5 => ?_)
        · rw [if_neg c5] at h
          refine lv_iload_n hx hb dX12_grid_168 rfl (lv_at hl 4 rfl) ?_
          refine lv_iconst (v := 1) hx hb dX12_grid_169 (by decide) ?_
          refine lv_icmp_ne (tgt := 178) hx hb dX12_grid_170 (by decide) (fun c6 => ?_) (fun c6 => ?_)
          · rw [if_neg c6] at h
            refine lv_iload_n hx hb dX12_grid_178 rfl (lv_at hl 4 rfl) ?_
            refine lv_iconst (v := 2) hx hb dX12_grid_179 (by decide) ?_
            refine lv_icmp_ne (tgt := 193) hx hb dX12_grid_180 (by decide) (fun c7 => ?_) (fun c7 => ?_)
            · rw [if_neg c7] at h
              refine lv_aload_n hx hb dX12_grid_193 rfl (lv_at hl 1 rfl) ?_
              refine lv_iload_n hx hb dX12_grid_194 rfl (lv_at hl 2 rfl) ?_
              refine lv_iload hx hb dX12_grid_195 (lv_at hl 5 rfl) ?_
              refine lv_iload hx hb dX12_grid_197 (lv_at hl 0 rfl) ?_
              obtain ⟨r9, z10, h8, h⟩ := bd_s h
              refine x_Vi (Rz := (r9, z10)) (As := [.int v1, .int v4, .int v5_4]) (rest := []) ⟨hx, hb, hml, hown, hts⟩ hK hP hS (kd_lt k_172 (by decide)) (cell_12 k_172) rfl (m_X12_gridUneven hG   h8) (cwV 3 hts (gV lw_2024 lw_2026 lw_99 lw_125 lw_2027) rfl rfl rfl (by decide +kernel) (rmd_ok (by decide) (by decide))) rfl hl.1 rfl (Nat.le_of_ble_eq_true rfl) dX12_grid_199 ⟨Nat.le_refl _, Nat.le_refl _⟩ (fun H locs hP hS => ?_)
              exact x_iret hx hb hr hlocks hK hP hS h dX12_grid_202
            · rw [if_pos c7] at h
              refine lv_iload hx hb dX12_grid_183 (lv_at hl 5 rfl) ?_
              refine lv_iload hx hb dX12_grid_185 (lv_at hl 0 rfl) ?_
              refine lv_iadd hx hb dX12_grid_187 ?_
              refine lv_iconst (v := 2) hx hb dX12_grid_188 (by decide) ?_
              refine lv_isub hx hb dX12_grid_189 ?_
              refine lv_goto (tgt := 202) hx hb dX12_grid_190 (by decide) ?_
              exact x_iret hx hb hr hlocks hK hP hS h dX12_grid_202
          · rw [if_pos c6] at h
            refine lv_iload hx hb dX12_grid_173 (lv_at hl 0 rfl) ?_
            refine lv_goto (tgt := 202) hx hb dX12_grid_175 (by decide) ?_
            exact x_iret hx hb hr hlocks hK hP hS h dX12_grid_202
        · rw [if_pos c5] at h
          refine lv_iload hx hb dX12_grid_163 (lv_at hl 5 rfl) ?_
          refine lv_goto (tgt := 202) hx hb dX12_grid_165 (by decide) ?_
          exact x_iret hx hb hr hlocks hK hP hS h dX12_grid_202
      · rw [if_neg c2] at h
        refine lv_iconst (v := (-1)) hx hb dX12_grid_151 (by decide) ?_
        exact x_iret hx hb hr hlocks hK hP hS h dX12_grid_152
    · rw [if_neg c1] at h
      refine lv_iload_n hx hb dX12_grid_42 rfl (lv_at hl 2 rfl) ?_
      refine lv_iload hx hb dX12_grid_43 (lv_at hl 5 rfl) ?_
      obtain ⟨g11, h⟩ := gd_s h
      refine lv_idiv hx hb dX12_grid_45 (bne_z g11) ?_
      obtain ⟨v6_12, e_v6_12, h⟩ := nm_s h
      refine x_top e_v6_12 ?_
      refine lv_istore (lv' := [(6, .int v6_12), (0, .ref (G.2.2 172)), (1, .int v1), (2, .int v2), (3, .int v3), (4, .int v4), (5, .int v5)]) hx hb dX12_grid_46 hl (by decide) rfl (fun ls hl => ?_)
      refine lv_iload hx hb dX12_grid_48 (lv_at hl 6 rfl) ?_
      refine lv_iload hx hb dX12_grid_50 (lv_at hl 0 rfl) ?_
      refine lv_imul hx hb dX12_grid_52 ?_
      refine lv_iload_n hx hb dX12_grid_53 rfl (lv_at hl 3 rfl) ?_
      refine lv_icmp_ne (tgt := 140) hx hb dX12_grid_54 (by decide) (fun c13 => ?_) (fun c13 => ?_)
      · rw [if_neg c13] at h
        exact pf_X12_grid_140 C  ih v1 v2 v3 v4 v5 z  hP hS (lv_sub hl [1, 2, 3, 4, 5, 6] rfl) h
      · rw [if_pos c13] at h
        refine lv_iload hx hb dX12_grid_57 (lv_at hl 0 rfl) ?_
        refine lv_bipush (v := 8) hx hb dX12_grid_59 (by decide) ?_
        refine lv_icmp_gt (tgt := 140) hx hb dX12_grid_61 (by decide) (fun c14 => ?_) (fun c14 => ?_)
        · rw [if_pos c14] at h
          exact pf_X12_grid_140 C  ih v1 v2 v3 v4 v5 z  hP hS (lv_sub hl [1, 2, 3, 4, 5, 6] rfl) h
        · rw [if_neg c14] at h
          refine lv_aload_n hx hb dX12_grid_64 rfl (lv_at hl 1 rfl) ?_
          refine lv_iload_n hx hb dX12_grid_65 rfl (lv_at hl 2 rfl) ?_
          refine lv_iload hx hb dX12_grid_66 (lv_at hl 6 rfl) ?_
          refine lv_iload hx hb dX12_grid_68 (lv_at hl 0 rfl) ?_
          obtain ⟨r16, z17, h15, h⟩ := bd_s h
          refine x_Vi (Rz := (r16, z17)) (As := [.int v1, .int v5, .int v6_12]) (rest := []) ⟨hx, hb, hml, hown, hts⟩ hK hP hS (kd_lt k_172 (by decide)) (cell_12 k_172) rfl (m_X12_isGrid hG   h15) (cwV 3 hts (gV lw_2020 lw_2022 lw_98 lw_125 lw_2023) rfl rfl rfl (by decide +kernel) (rmd_ok (by decide) (by decide))) rfl hl.1 rfl (Nat.le_of_ble_eq_true rfl) dX12_grid_70 ⟨Nat.le_refl _, Nat.le_refl _⟩ (fun H locs hP hS => ?_)
          refine lv_if_ne (tgt := 79) hx hb dX12_grid_73 (by decide) (fun c18 => ?_) (fun c18 => ?_)
          · rw [if_neg c18] at h
            refine lv_iload hx hb dX12_grid_79 (lv_at hl 5 rfl) ?_
            refine lv_if_ge (tgt := 88) hx hb dX12_grid_81 (by decide) (fun c19 => ?_) (fun c19 => ?_)
            · rw [if_pos c19] at h
              refine lv_iload hx hb dX12_grid_88 (lv_at hl 6 rfl) ?_
              refine lv_iload hx hb dX12_grid_90 (lv_at hl 0 rfl) ?_
              refine lv_iadd hx hb dX12_grid_92 ?_
              refine lv_iload hx hb dX12_grid_93 (lv_at hl 5 rfl) ?_
              refine lv_isub hx hb dX12_grid_95 ?_
              refine lv_iload_n hx hb dX12_grid_96 rfl (lv_at hl 3 rfl) ?_
              refine lv_iload hx hb dX12_grid_97 (lv_at hl 5 rfl) ?_
              obtain ⟨g20, h⟩ := gd_s h
              refine lv_idiv hx hb dX12_grid_99 (bne_z g20) ?_
              refine lv_isub hx hb dX12_grid_100 ?_
              exact pf_X12_grid_101 C  ih v1 v2 v3 v4 v5 v6_12 (((v5 + v6_12) - v4) - (v2 / v4)) z17  hP hS (lv_sub hl [1, 2, 3, 4, 5, 6, 0] rfl) h
            · rw [if_neg c19] at h
              refine lv_iconst (v := (-1)) hx hb dX12_grid_84 (by decide) ?_
              refine lv_goto (tgt := 101) hx hb dX12_grid_85 (by decide) ?_
              exact pf_X12_grid_101 C  ih v1 v2 v3 v4 v5 v6_12 (-1) z17  hP hS (lv_sub hl [1, 2, 3, 4, 5, 6, 0] rfl) h
          · rw [if_pos c18] at h
            refine lv_goto (tgt := 140) hx hb dX12_grid_76 (by decide) ?_
            exact pf_X12_grid_140 C  ih v1 v2 v3 v4 v5 z17  hP hS (lv_sub hl [1, 2, 3, 4, 5, 6] rfl) h
def fn_X12_grid (v1 : Int32) (v2 : Int32) (v3 : Int32) (z : St) : Option (Int32 × St) := bd (fn_X12_isTier  v1 z) (fun r2 z3 => (if r2 = 0 then some ((-1), z3) else bd (fn_X12_isIn  v2 1 64 z3) (fun r6 z7 => (if r6 = 0 then some ((-1), z7) else bd (fn_X12_isIn  v3 0 3 z7) (fun r10 z11 => (if r10 = 0 then some ((-1), z11) else fn_X12_grid_35   fu v1 v2 v3 (-1) 1 z11))))))
set_option maxHeartbeats 4000000 in
set_option maxRecDepth 100000 in
theorem m_X12_grid {l : Launch} {G : wG} (hG : Ok G) {v1 : Int32} {v2 : Int32} {v3 : Int32} {z : St} {Rz : Int32 × St}  (h : fn_X12_grid  v1 v2 v3 z = some Rz) : Met l yX12_grid (wsU yX12_grid cX12_grid 8 (some .int)) (rmd 4) (va_Pc [.ref (G.2.2 172), .int v1, .int v2, .int v3] (Pre G z)) (va_Qi (fun r u => (r, u) = Rz) (Pre G) (AW G)) 0 0 (AW G) := by
  refine Met.ofW (cc := cX12_grid) (maxL := 8) (ret := (some .int)) (by decide) rfl ?_
  intro p e s m args below meth c s₁ B hml hv
  obtain ⟨rfl, hP, hK⟩ := hv
  have C : CX p s m ([.ref (G.2.2 172), .int v1, .int v2, .int v3] : List Value).toArray meth c cX12_grid 8 (wsU yX12_grid cX12_grid 8 (some .int)) RX12 (some .int) G := ⟨B.exec, B.bytes, hml, findClass_of_methodNamed B.named, atoms_spec (ws := (wsU yX12_grid cX12_grid 8 (some .int))) B.pre, B.returns, B.notSynchronized, hK, hG⟩
  obtain ⟨hx, hb, -, hown, hts, hr, hlocks, -, -⟩ := id C
  have hS : va_S (AW G) s.heap s.heap [] := va_S.rf
  have hl := lv_entry [.ref (G.2.2 172), .int v1, .int v2, .int v3] (n := 8) (Nat.le_of_ble_eq_true rfl)
  rw [lg_entry_eq]
  generalize (lg_sl [.ref (G.2.2 172), .int v1, .int v2, .int v3] ++ List.replicate (8 - (lg_sl [.ref (G.2.2 172), .int v1, .int v2, .int v3]).length) Slot.unset).toArray = ls at hl ⊢
  have hl : lv_has ls 8 [(0, .ref (G.2.2 172)), (1, .int v1), (2, .int v2), (3, .int v3)] := hl
  unfold fn_X12_grid at h
  refine lv_aload_n hx hb dX12_grid_0 rfl (lv_at hl 0 rfl) ?_
  refine lv_iload_n hx hb dX12_grid_1 rfl (lv_at hl 1 rfl) ?_
  obtain ⟨r2, z3, h1, h⟩ := bd_s h
  refine x_Vi (Rz := (r2, z3)) (As := [.int v1]) (rest := []) ⟨hx, hb, hml, hown, hts⟩ hK hP hS (kd_lt k_172 (by decide)) (cell_12 k_172) rfl (m_X12_isTier hG   h1) (cwV 1 hts (gV lw_2016 lw_2018 lw_97 lw_125 lw_2019) rfl rfl rfl (by decide +kernel) (rmd_ok (by decide) (by decide))) rfl hl.1 rfl (Nat.le_of_ble_eq_true rfl) dX12_grid_2 ⟨Nat.le_refl _, Nat.le_refl _⟩ (fun H locs hP hS => ?_)
  refine lv_if_eq (tgt := 27) hx hb dX12_grid_5 (by decide) (fun c4 => ?_) (fun c4 => ?_)
  · rw [if_pos c4] at h
    refine lv_iconst (v := (-1)) hx hb dX12_grid_27 (by decide) ?_
    exact x_iret hx hb hr hlocks hK hP hS h dX12_grid_28
  · rw [if_neg c4] at h
    refine lv_iload_n hx hb dX12_grid_8 rfl (lv_at hl 2 rfl) ?_
    refine lv_iconst (v := 1) hx hb dX12_grid_9 (by decide) ?_
    refine lv_bipush (v := 64) hx hb dX12_grid_10 (by decide) ?_
    obtain ⟨r6, z7, h5, h⟩ := bd_s h
    refine x_Si (Rz := (r6, z7)) (As := [.int v2, .int 1, .int 64]) (rest := []) ⟨hx, hb, hml, hown, hts⟩ hK hP hS (m_X12_isIn hG   h5) (va_cwS 3 hts (gS lw_1827 lw_1828 lw_125 lw_1829) rfl rfl rfl (by decide +kernel) (rmd_ok (by decide) (by decide))) rfl hl.1 rfl (Nat.le_of_ble_eq_true rfl) dX12_grid_12 ⟨Nat.le_refl _, Nat.le_refl _⟩ (fun H locs hP hS => ?_)
    refine lv_if_eq (tgt := 27) hx hb dX12_grid_15 (by decide) (fun c8 => ?_) (fun c8 => ?_)
    · rw [if_pos c8] at h
      refine lv_iconst (v := (-1)) hx hb dX12_grid_27 (by decide) ?_
      exact x_iret hx hb hr hlocks hK hP hS h dX12_grid_28
    · rw [if_neg c8] at h
      refine lv_iload_n hx hb dX12_grid_18 rfl (lv_at hl 3 rfl) ?_
      refine lv_iconst (v := 0) hx hb dX12_grid_19 (by decide) ?_
      refine lv_iconst (v := 3) hx hb dX12_grid_20 (by decide) ?_
      obtain ⟨r10, z11, h9, h⟩ := bd_s h
      refine x_Si (Rz := (r10, z11)) (As := [.int v3, .int 0, .int 3]) (rest := []) ⟨hx, hb, hml, hown, hts⟩ hK hP hS (m_X12_isIn hG   h9) (va_cwS 3 hts (gS lw_1827 lw_1828 lw_125 lw_1829) rfl rfl rfl (by decide +kernel) (rmd_ok (by decide) (by decide))) rfl hl.1 rfl (Nat.le_of_ble_eq_true rfl) dX12_grid_21 ⟨Nat.le_refl _, Nat.le_refl _⟩ (fun H locs hP hS => ?_)
      refine lv_if_ne (tgt := 29) hx hb dX12_grid_24 (by decide) (fun c12 => ?_) (fun c12 => ?_)
      · rw [if_neg c12] at h
        refine lv_iconst (v := (-1)) hx hb dX12_grid_29 (by decide) ?_
        refine lv_istore (lv' := [(4, .int (-1)), (0, .ref (G.2.2 172)), (1, .int v1), (2, .int v2), (3, .int v3)]) hx hb dX12_grid_30 hl (by decide) rfl (fun ls hl => ?_)
        refine lv_iconst (v := 1) hx hb dX12_grid_32 (by decide) ?_
        refine lv_istore (lv' := [(5, .int 1), (4, .int (-1)), (0, .ref (G.2.2 172)), (1, .int v1), (2, .int v2), (3, .int v3)]) hx hb dX12_grid_33 hl (by decide) rfl (fun ls hl => ?_)
        exact pf_X12_grid_35 C   fu v1 v2 v3 (-1) 1 z11  _ _ _ hP hS (lv_sub hl [2, 3, 4, 5, 1, 0] rfl) h
      · rw [if_pos c12] at h
        refine lv_iconst (v := (-1)) hx hb dX12_grid_27 (by decide) ?_
        exact x_iret hx hb hr hlocks hK hP hS h dX12_grid_28
def fn_X12_ways_69 (k25 : Int32 → Int32 → Int32 → Int32 → St → Option (Int32 × St)) (k35 : Int32 → Int32 → Int32 → Int32 → Int32 → St → Option (Int32 × St)) (v1 : Int32) (v2 : Int32) (v4 : Int32) (v5 : Int32) (tv0 : Int32) (tv1 : Int32) (z : St) : Option (Int32 × St) := bd (fn_X12_truth  tv1 z) (fun r2 z3 => nm (tv0 + r2) (fun v3_4 => k35 v1 v2 v3_4 v4 (v5 + 1) z3))
set_option maxHeartbeats 4000000 in
set_option maxRecDepth 100000 in
theorem pf_X12_ways_69 {p : Program} {l : Launch} {e : Env} {s : State} {m : MethodId} {args : Array Value} {below : List Frame} {meth : Method} {c : Code} {G : wG} (C : CX p s m args meth c cX12_ways 6 (wsU yX12_ways cX12_ways 6 (some .int)) RX12 (some .int) G) {Rz : Int32 × St} {k25 : Int32 → Int32 → Int32 → Int32 → St → Option (Int32 × St)} {k35 : Int32 → Int32 → Int32 → Int32 → Int32 → St → Option (Int32 × St)} (hk_25 : ∀ (v1 : Int32) (v2 : Int32) (v3 : Int32) (v4 : Int32) (z : St)  (H : Heap) (locs : List Loc) (ls : Array Slot), WP G z H → va_S (AW G) s.heap H locs → lv_has ls 6 [(0, .ref (G.2.2 172)), (1, .int v1), (2, .int v2), (3, .int v3), (4, .int v4)] → k25 v1 v2 v3 v4 z = some Rz → W p l e (rmd 3) s m args below meth c H locs 0 0 (QI below args s G Rz) (F0 m 25 ls [])) (hk_35 : ∀ (v1 : Int32) (v2 : Int32) (v3 : Int32) (v4 : Int32) (v5 : Int32) (z : St)  (H : Heap) (locs : List Loc) (ls : Array Slot), WP G z H → va_S (AW G) s.heap H locs → lv_has ls 6 [(0, .ref (G.2.2 172)), (1, .int v1), (2, .int v2), (3, .int v3), (4, .int v4), (5, .int v5)] → k35 v1 v2 v3 v4 v5 z = some Rz → W p l e (rmd 3) s m args below meth c H locs 0 0 (QI below args s G Rz) (F0 m 35 ls [])) (v1 : Int32) (v2 : Int32) (v4 : Int32) (v5 : Int32) (tv0 : Int32) (tv1 : Int32) (z : St)  {H : Heap} {locs : List Loc} {ls : Array Slot} (hP : WP G z H) (hS : va_S (AW G) s.heap H locs) (hl : lv_has ls 6 [(0, .ref (G.2.2 172)), (1, .int v1), (2, .int v2), (4, .int v4), (5, .int v5)]) (h : fn_X12_ways_69  k25 k35 v1 v2 v4 v5 tv0 tv1 z = some Rz) : W p l e (rmd 3) s m args below meth c H locs 0 0 (QI below args s G Rz) (F0 m 69 ls [.int tv1, .int tv0]) := by
  obtain ⟨hx, hb, hml, hown, hts, hr, hlocks, hK, hG⟩ := id C
  unfold fn_X12_ways_69 at h
  obtain ⟨r2, z3, h1, h⟩ := bd_s h
  refine x_Si (Rz := (r2, z3)) (As := [.int tv1]) (rest := [.int tv0]) ⟨hx, hb, hml, hown, hts⟩ hK hP hS (m_X12_truth hG   h1) (va_cwS 1 hts (gS lw_1842 lw_1843 lw_125 lw_1844) rfl rfl rfl (by decide +kernel) (rmd_ok (by decide) (by decide))) rfl hl.1 rfl (Nat.le_of_ble_eq_true rfl) dX12_ways_69 ⟨Nat.le_refl _, Nat.le_refl _⟩ (fun H locs hP hS => ?_)
  refine lv_iadd hx hb dX12_ways_72 ?_
  obtain ⟨v3_4, e_v3_4, h⟩ := nm_s h
  refine x_top e_v3_4 ?_
  refine lv_istore_n (lv' := [(3, .int v3_4), (0, .ref (G.2.2 172)), (1, .int v1), (2, .int v2), (4, .int v4), (5, .int v5)]) hx hb dX12_ways_73 rfl hl (by decide) rfl (fun ls hl => ?_)
  refine lv_iinc (v := (v5 + 1)) (lv' := [(5, .int (v5 + 1)), (3, .int v3_4), (0, .ref (G.2.2 172)), (1, .int v1), (2, .int v2), (4, .int v4)]) hx hb dX12_ways_74 hl (k := 5) rfl rfl (by decide) rfl (fun ls hl => ?_)
  refine lv_goto (tgt := 35) hx hb dX12_ways_77 (by decide) ?_
  exact hk_35 v1 v2 v3_4 v4 (v5 + 1) z3  _ _ _ hP hS (lv_sub hl [2, 3, 4, 1, 5, 0] rfl) h
def fn_X12_ways_68 (k25 : Int32 → Int32 → Int32 → Int32 → St → Option (Int32 × St)) (k35 : Int32 → Int32 → Int32 → Int32 → Int32 → St → Option (Int32 × St)) (v1 : Int32) (v2 : Int32) (v4 : Int32) (v5 : Int32) (tv0 : Int32) (z : St) : Option (Int32 × St) := fn_X12_ways_69  k25 k35 v1 v2 v4 v5 tv0 0 z
set_option maxHeartbeats 4000000 in
set_option maxRecDepth 100000 in
theorem pf_X12_ways_68 {p : Program} {l : Launch} {e : Env} {s : State} {m : MethodId} {args : Array Value} {below : List Frame} {meth : Method} {c : Code} {G : wG} (C : CX p s m args meth c cX12_ways 6 (wsU yX12_ways cX12_ways 6 (some .int)) RX12 (some .int) G) {Rz : Int32 × St} {k25 : Int32 → Int32 → Int32 → Int32 → St → Option (Int32 × St)} {k35 : Int32 → Int32 → Int32 → Int32 → Int32 → St → Option (Int32 × St)} (hk_25 : ∀ (v1 : Int32) (v2 : Int32) (v3 : Int32) (v4 : Int32) (z : St)  (H : Heap) (locs : List Loc) (ls : Array Slot), WP G z H → va_S (AW G) s.heap H locs → lv_has ls 6 [(0, .ref (G.2.2 172)), (1, .int v1), (2, .int v2), (3, .int v3), (4, .int v4)] → k25 v1 v2 v3 v4 z = some Rz → W p l e (rmd 3) s m args below meth c H locs 0 0 (QI below args s G Rz) (F0 m 25 ls [])) (hk_35 : ∀ (v1 : Int32) (v2 : Int32) (v3 : Int32) (v4 : Int32) (v5 : Int32) (z : St)  (H : Heap) (locs : List Loc) (ls : Array Slot), WP G z H → va_S (AW G) s.heap H locs → lv_has ls 6 [(0, .ref (G.2.2 172)), (1, .int v1), (2, .int v2), (3, .int v3), (4, .int v4), (5, .int v5)] → k35 v1 v2 v3 v4 v5 z = some Rz → W p l e (rmd 3) s m args below meth c H locs 0 0 (QI below args s G Rz) (F0 m 35 ls [])) (v1 : Int32) (v2 : Int32) (v4 : Int32) (v5 : Int32) (tv0 : Int32) (z : St)  {H : Heap} {locs : List Loc} {ls : Array Slot} (hP : WP G z H) (hS : va_S (AW G) s.heap H locs) (hl : lv_has ls 6 [(0, .ref (G.2.2 172)), (1, .int v1), (2, .int v2), (4, .int v4), (5, .int v5)]) (h : fn_X12_ways_68  k25 k35 v1 v2 v4 v5 tv0 z = some Rz) : W p l e (rmd 3) s m args below meth c H locs 0 0 (QI below args s G Rz) (F0 m 68 ls [.int tv0]) := by
  obtain ⟨hx, hb, hml, hown, hts, hr, hlocks, hK, hG⟩ := id C
  unfold fn_X12_ways_68 at h
  refine lv_iconst (v := 0) hx hb dX12_ways_68 (by decide) ?_
  exact pf_X12_ways_69 C  hk_25 hk_35 v1 v2 v4 v5 tv0 0 z  hP hS (lv_sub hl [0, 1, 2, 3, 4] rfl) h
def fn_X12_ways_35 (k25 : Int32 → Int32 → Int32 → Int32 → St → Option (Int32 × St)) : Nat → Int32 → Int32 → Int32 → Int32 → Int32 → St → Option (Int32 × St)
  | 0, _, _, _, _, _, _ => none
  | n + 1, v1, v2, v3, v4, v5, z => (if 8 < v5 then k25 v1 v2 v3 (v4 + 1) z else (if (v4 * v5) = v2 then bd (fn_X12_isGrid  v1 v4 v5 z) (fun r4 z5 => (if r4 = 0 then fn_X12_ways_68  k25 (fn_X12_ways_35  k25 n) v1 v2 v4 v5 v3 z5 else fn_X12_ways_69  k25 (fn_X12_ways_35  k25 n) v1 v2 v4 v5 v3 1 z5)) else fn_X12_ways_68  k25 (fn_X12_ways_35  k25 n) v1 v2 v4 v5 v3 z))
set_option maxHeartbeats 4000000 in
set_option maxRecDepth 100000 in
theorem pf_X12_ways_35 {p : Program} {l : Launch} {e : Env} {s : State} {m : MethodId} {args : Array Value} {below : List Frame} {meth : Method} {c : Code} {G : wG} (C : CX p s m args meth c cX12_ways 6 (wsU yX12_ways cX12_ways 6 (some .int)) RX12 (some .int) G) {Rz : Int32 × St} {k25 : Int32 → Int32 → Int32 → Int32 → St → Option (Int32 × St)} (hk_25 : ∀ (v1 : Int32) (v2 : Int32) (v3 : Int32) (v4 : Int32) (z : St)  (H : Heap) (locs : List Loc) (ls : Array Slot), WP G z H → va_S (AW G) s.heap H locs → lv_has ls 6 [(0, .ref (G.2.2 172)), (1, .int v1), (2, .int v2), (3, .int v3), (4, .int v4)] → k25 v1 v2 v3 v4 z = some Rz → W p l e (rmd 3) s m args below meth c H locs 0 0 (QI below args s G Rz) (F0 m 25 ls [])) : ∀ (n : Nat) (v1 : Int32) (v2 : Int32) (v3 : Int32) (v4 : Int32) (v5 : Int32) (z : St)  (H : Heap) (locs : List Loc) (ls : Array Slot), WP G z H → va_S (AW G) s.heap H locs → lv_has ls 6 [(0, .ref (G.2.2 172)), (1, .int v1), (2, .int v2), (3, .int v3), (4, .int v4), (5, .int v5)] → fn_X12_ways_35  k25 n v1 v2 v3 v4 v5 z = some Rz → W p l e (rmd 3) s m args below meth c H locs 0 0 (QI below args s G Rz) (F0 m 35 ls []) := by
  obtain ⟨hx, hb, hml, hown, hts, hr, hlocks, hK, hG⟩ := id C
  intro n
  induction n with
  | zero => intro v1 v2 v3 v4 v5 z  H locs ls hP hS hl h; cases h
  | succ n ih =>
    intro v1 v2 v3 v4 v5 z  H locs ls hP hS hl h
    rw [fn_X12_ways_35] at h
    refine lv_iload hx hb dX12_ways_35 (lv_at hl 5 rfl) ?_
    refine lv_bipush (v := 8) hx hb dX12_ways_37 (by decide) ?_
    refine lv_icmp_gt (tgt := 80) hx hb dX12_ways_39 (by decide) (fun c1 => ?_) (fun c1 => ?_)
    · rw [if_pos c1] at h
      refine lv_iinc (v := (v4 + 1)) (lv' := [(4, .int (v4 + 1)), (0, .ref (G.2.2 172)), (1, .int v1), (2, .int v2), (3, .int v3), (5, .int v5)]) hx hb dX12_ways_80 hl (k := 4) rfl rfl (by decide) rfl (fun ls hl => ?_)
      refine lv_goto (tgt := 25) hx hb dX12_ways_83 (by decide) ?_
      exact hk_25 v1 v2 v3 (v4 + 1) z  _ _ _ hP hS (lv_sub hl [1, 2, 3, 4, 0] rfl) h
    · rw [if_neg c1] at h
      refine lv_iload_n hx hb dX12_ways_42 rfl (lv_at hl 3 rfl) ?_
      refine lv_iload hx hb dX12_ways_43 (lv_at hl 4 rfl) ?_
      refine lv_iload hx hb dX12_ways_45 (lv_at hl 5 rfl) ?_
      refine lv_imul hx hb dX12_ways_47 ?_
      refine lv_iload_n hx hb dX12_ways_48 rfl (lv_at hl 2 rfl) ?_
      refine lv_icmp_ne (tgt := 68) hx hb dX12_ways_49 (by decide) (fun c2 => ?_) (fun c2 => ?_)
      · rw [if_neg c2] at h
        exact pf_X12_ways_68 C  hk_25 ih v1 v2 v4 v5 v3 z  hP hS (lv_sub hl [0, 1, 2, 4, 5] rfl) h
      · rw [if_pos c2] at h
        refine lv_aload_n hx hb dX12_ways_52 rfl (lv_at hl 0 rfl) ?_
        refine lv_iload_n hx hb dX12_ways_53 rfl (lv_at hl 1 rfl) ?_
        refine lv_iload hx hb dX12_ways_54 (lv_at hl 4 rfl) ?_
        refine lv_iload hx hb dX12_ways_56 (lv_at hl 5 rfl) ?_
        obtain ⟨r4, z5, h3, h⟩ := bd_s h
        refine x_Vi (Rz := (r4, z5)) (As := [.int v1, .int v4, .int v5]) (rest := [.int v3]) ⟨hx, hb, hml, hown, hts⟩ hK hP hS (kd_lt k_172 (by decide)) (cell_12 k_172) rfl (m_X12_isGrid hG   h3) (cwV 3 hts (gV lw_2020 lw_2022 lw_98 lw_125 lw_2023) rfl rfl rfl (by decide +kernel) (rmd_ok (by decide) (by decide))) rfl hl.1 rfl (Nat.le_of_ble_eq_true rfl) dX12_ways_58 ⟨Nat.le_refl _, Nat.le_refl _⟩ (fun H locs hP hS => ?_)
        refine lv_if_eq (tgt := 68) hx hb dX12_ways_61 (by decide) (fun c6 => ?_) (fun c6 => ?_)
        · rw [if_pos c6] at h
          exact pf_X12_ways_68 C  hk_25 ih v1 v2 v4 v5 v3 z5  hP hS (lv_sub hl [0, 1, 2, 4, 5] rfl) h
        · rw [if_neg c6] at h
          refine lv_iconst (v := 1) hx hb dX12_ways_64 (by decide) ?_
          refine lv_goto (tgt := 69) hx hb dX12_ways_65 (by decide) ?_
          exact pf_X12_ways_69 C  hk_25 ih v1 v2 v4 v5 v3 1 z5  hP hS (lv_sub hl [0, 1, 2, 4, 5] rfl) h
def fn_X12_ways_25 : Nat → Int32 → Int32 → Int32 → Int32 → St → Option (Int32 × St)
  | 0, _, _, _, _, _ => none
  | n + 1, v1, v2, v3, v4, z => (if 8 < v4 then some (v3, z) else fn_X12_ways_35  (fn_X12_ways_25   n) fu v1 v2 v3 v4 1 z)
set_option maxHeartbeats 4000000 in
set_option maxRecDepth 100000 in
theorem pf_X12_ways_25 {p : Program} {l : Launch} {e : Env} {s : State} {m : MethodId} {args : Array Value} {below : List Frame} {meth : Method} {c : Code} {G : wG} (C : CX p s m args meth c cX12_ways 6 (wsU yX12_ways cX12_ways 6 (some .int)) RX12 (some .int) G) {Rz : Int32 × St} : ∀ (n : Nat) (v1 : Int32) (v2 : Int32) (v3 : Int32) (v4 : Int32) (z : St)  (H : Heap) (locs : List Loc) (ls : Array Slot), WP G z H → va_S (AW G) s.heap H locs → lv_has ls 6 [(0, .ref (G.2.2 172)), (1, .int v1), (2, .int v2), (3, .int v3), (4, .int v4)] → fn_X12_ways_25   n v1 v2 v3 v4 z = some Rz → W p l e (rmd 3) s m args below meth c H locs 0 0 (QI below args s G Rz) (F0 m 25 ls []) := by
  obtain ⟨hx, hb, hml, hown, hts, hr, hlocks, hK, hG⟩ := id C
  intro n
  induction n with
  | zero => intro v1 v2 v3 v4 z  H locs ls hP hS hl h; cases h
  | succ n ih =>
    intro v1 v2 v3 v4 z  H locs ls hP hS hl h
    rw [fn_X12_ways_25] at h
    refine lv_iload hx hb dX12_ways_25 (lv_at hl 4 rfl) ?_
    refine lv_bipush (v := 8) hx hb dX12_ways_27 (by decide) ?_
    refine lv_icmp_gt (tgt := 86) hx hb dX12_ways_29 (by decide) (fun c1 => ?_) (fun c1 => ?_)
    · rw [if_pos c1] at h
      refine lv_iload_n hx hb dX12_ways_86 rfl (lv_at hl 3 rfl) ?_
      exact x_iret hx hb hr hlocks hK hP hS h dX12_ways_87
    · rw [if_neg c1] at h
      refine lv_iconst (v := 1) hx hb dX12_ways_32 (by decide) ?_
      refine lv_istore (lv' := [(5, .int 1), (0, .ref (G.2.2 172)), (1, .int v1), (2, .int v2), (3, .int v3), (4, .int v4)]) hx hb dX12_ways_33 hl (by decide) rfl (fun ls hl => ?_)
      exact pf_X12_ways_35 C  ih fu v1 v2 v3 v4 1 z  _ _ _ hP hS (lv_sub hl [1, 2, 3, 4, 5, 0] rfl) h
def fn_X12_ways (v1 : Int32) (v2 : Int32) (z : St) : Option (Int32 × St) := bd (fn_X12_isTier  v1 z) (fun r2 z3 => (if r2 = 0 then some ((-1), z3) else bd (fn_X12_isIn  v2 1 64 z3) (fun r6 z7 => (if r6 = 0 then some ((-1), z7) else fn_X12_ways_25   fu v1 v2 0 1 z7))))
set_option maxHeartbeats 4000000 in
set_option maxRecDepth 100000 in
theorem m_X12_ways {l : Launch} {G : wG} (hG : Ok G) {v1 : Int32} {v2 : Int32} {z : St} {Rz : Int32 × St}  (h : fn_X12_ways  v1 v2 z = some Rz) : Met l yX12_ways (wsU yX12_ways cX12_ways 6 (some .int)) (rmd 3) (va_Pc [.ref (G.2.2 172), .int v1, .int v2] (Pre G z)) (va_Qi (fun r u => (r, u) = Rz) (Pre G) (AW G)) 0 0 (AW G) := by
  refine Met.ofW (cc := cX12_ways) (maxL := 6) (ret := (some .int)) (by decide) rfl ?_
  intro p e s m args below meth c s₁ B hml hv
  obtain ⟨rfl, hP, hK⟩ := hv
  have C : CX p s m ([.ref (G.2.2 172), .int v1, .int v2] : List Value).toArray meth c cX12_ways 6 (wsU yX12_ways cX12_ways 6 (some .int)) RX12 (some .int) G := ⟨B.exec, B.bytes, hml, findClass_of_methodNamed B.named, atoms_spec (ws := (wsU yX12_ways cX12_ways 6 (some .int))) B.pre, B.returns, B.notSynchronized, hK, hG⟩
  obtain ⟨hx, hb, -, hown, hts, hr, hlocks, -, -⟩ := id C
  have hS : va_S (AW G) s.heap s.heap [] := va_S.rf
  have hl := lv_entry [.ref (G.2.2 172), .int v1, .int v2] (n := 6) (Nat.le_of_ble_eq_true rfl)
  rw [lg_entry_eq]
  generalize (lg_sl [.ref (G.2.2 172), .int v1, .int v2] ++ List.replicate (6 - (lg_sl [.ref (G.2.2 172), .int v1, .int v2]).length) Slot.unset).toArray = ls at hl ⊢
  have hl : lv_has ls 6 [(0, .ref (G.2.2 172)), (1, .int v1), (2, .int v2)] := hl
  unfold fn_X12_ways at h
  refine lv_aload_n hx hb dX12_ways_0 rfl (lv_at hl 0 rfl) ?_
  refine lv_iload_n hx hb dX12_ways_1 rfl (lv_at hl 1 rfl) ?_
  obtain ⟨r2, z3, h1, h⟩ := bd_s h
  refine x_Vi (Rz := (r2, z3)) (As := [.int v1]) (rest := []) ⟨hx, hb, hml, hown, hts⟩ hK hP hS (kd_lt k_172 (by decide)) (cell_12 k_172) rfl (m_X12_isTier hG   h1) (cwV 1 hts (gV lw_2016 lw_2018 lw_97 lw_125 lw_2019) rfl rfl rfl (by decide +kernel) (rmd_ok (by decide) (by decide))) rfl hl.1 rfl (Nat.le_of_ble_eq_true rfl) dX12_ways_2 ⟨Nat.le_refl _, Nat.le_refl _⟩ (fun H locs hP hS => ?_)
  refine lv_if_eq (tgt := 18) hx hb dX12_ways_5 (by decide) (fun c4 => ?_) (fun c4 => ?_)
  · rw [if_pos c4] at h
    refine lv_iconst (v := (-1)) hx hb dX12_ways_18 (by decide) ?_
    exact x_iret hx hb hr hlocks hK hP hS h dX12_ways_19
  · rw [if_neg c4] at h
    refine lv_iload_n hx hb dX12_ways_8 rfl (lv_at hl 2 rfl) ?_
    refine lv_iconst (v := 1) hx hb dX12_ways_9 (by decide) ?_
    refine lv_bipush (v := 64) hx hb dX12_ways_10 (by decide) ?_
    obtain ⟨r6, z7, h5, h⟩ := bd_s h
    refine x_Si (Rz := (r6, z7)) (As := [.int v2, .int 1, .int 64]) (rest := []) ⟨hx, hb, hml, hown, hts⟩ hK hP hS (m_X12_isIn hG   h5) (va_cwS 3 hts (gS lw_1827 lw_1828 lw_125 lw_1829) rfl rfl rfl (by decide +kernel) (rmd_ok (by decide) (by decide))) rfl hl.1 rfl (Nat.le_of_ble_eq_true rfl) dX12_ways_12 ⟨Nat.le_refl _, Nat.le_refl _⟩ (fun H locs hP hS => ?_)
    refine lv_if_ne (tgt := 20) hx hb dX12_ways_15 (by decide) (fun c8 => ?_) (fun c8 => ?_)
    · rw [if_neg c8] at h
      refine lv_iconst (v := 0) hx hb dX12_ways_20 (by decide) ?_
      refine lv_istore_n (lv' := [(3, .int 0), (0, .ref (G.2.2 172)), (1, .int v1), (2, .int v2)]) hx hb dX12_ways_21 rfl hl (by decide) rfl (fun ls hl => ?_)
      refine lv_iconst (v := 1) hx hb dX12_ways_22 (by decide) ?_
      refine lv_istore (lv' := [(4, .int 1), (3, .int 0), (0, .ref (G.2.2 172)), (1, .int v1), (2, .int v2)]) hx hb dX12_ways_23 hl (by decide) rfl (fun ls hl => ?_)
      exact pf_X12_ways_25 C   fu v1 v2 0 1 z7  _ _ _ hP hS (lv_sub hl [2, 3, 4, 1, 0] rfl) h
    · rw [if_pos c8] at h
      refine lv_iconst (v := (-1)) hx hb dX12_ways_18 (by decide) ?_
      exact x_iret hx hb hr hlocks hK hP hS h dX12_ways_19
def fn_X12_most_107 (k26 : Int32 → Int32 → Int32 → Int32 → St → Option (Int32 × St)) (k36 : Int32 → Int32 → Int32 → Int32 → Int32 → St → Option (Int32 × St)) (v1 : Int32) (v2 : Int32) (v3 : Int32) (v4 : Int32) (v5 : Int32) (z : St) : Option (Int32 × St) := k36 v1 v2 v3 v4 (v5 + 1) z
set_option maxHeartbeats 4000000 in
set_option maxRecDepth 100000 in
theorem pf_X12_most_107 {p : Program} {l : Launch} {e : Env} {s : State} {m : MethodId} {args : Array Value} {below : List Frame} {meth : Method} {c : Code} {G : wG} (C : CX p s m args meth c cX12_most 6 (wsU yX12_most cX12_most 6 (some .int)) RX12 (some .int) G) {Rz : Int32 × St} {k26 : Int32 → Int32 → Int32 → Int32 → St → Option (Int32 × St)} {k36 : Int32 → Int32 → Int32 → Int32 → Int32 → St → Option (Int32 × St)} (hk_26 : ∀ (v1 : Int32) (v2 : Int32) (v3 : Int32) (v4 : Int32) (z : St)  (H : Heap) (locs : List Loc) (ls : Array Slot), WP G z H → va_S (AW G) s.heap H locs → lv_has ls 6 [(0, .ref (G.2.2 172)), (1, .int v1), (2, .int v2), (3, .int v3), (4, .int v4)] → k26 v1 v2 v3 v4 z = some Rz → W p l e (rmd 3) s m args below meth c H locs 0 0 (QI below args s G Rz) (F0 m 26 ls [])) (hk_36 : ∀ (v1 : Int32) (v2 : Int32) (v3 : Int32) (v4 : Int32) (v5 : Int32) (z : St)  (H : Heap) (locs : List Loc) (ls : Array Slot), WP G z H → va_S (AW G) s.heap H locs → lv_has ls 6 [(0, .ref (G.2.2 172)), (1, .int v1), (2, .int v2), (3, .int v3), (4, .int v4), (5, .int v5)] → k36 v1 v2 v3 v4 v5 z = some Rz → W p l e (rmd 3) s m args below meth c H locs 0 0 (QI below args s G Rz) (F0 m 36 ls [])) (v1 : Int32) (v2 : Int32) (v3 : Int32) (v4 : Int32) (v5 : Int32) (z : St)  {H : Heap} {locs : List Loc} {ls : Array Slot} (hP : WP G z H) (hS : va_S (AW G) s.heap H locs) (hl : lv_has ls 6 [(0, .ref (G.2.2 172)), (1, .int v1), (2, .int v2), (3, .int v3), (4, .int v4), (5, .int v5)]) (h : fn_X12_most_107  k26 k36 v1 v2 v3 v4 v5 z = some Rz) : W p l e (rmd 3) s m args below meth c H locs 0 0 (QI below args s G Rz) (F0 m 107 ls []) := by
  obtain ⟨hx, hb, hml, hown, hts, hr, hlocks, hK, hG⟩ := id C
  unfold fn_X12_most_107 at h
  refine lv_iinc (v := (v5 + 1)) (lv' := [(5, .int (v5 + 1)), (0, .ref (G.2.2 172)), (1, .int v1), (2, .int v2), (3, .int v3), (4, .int v4)]) hx hb dX12_most_107 hl (k := 5) rfl rfl (by decide) rfl (fun ls hl => ?_)
  refine lv_goto (tgt := 36) hx hb dX12_most_110 (by decide) ?_
  exact hk_36 v1 v2 v3 v4 (v5 + 1) z  _ _ _ hP hS (lv_sub hl [1, 2, 3, 4, 5, 0] rfl) h
def fn_X12_most_106 (k26 : Int32 → Int32 → Int32 → Int32 → St → Option (Int32 × St)) (k36 : Int32 → Int32 → Int32 → Int32 → Int32 → St → Option (Int32 × St)) (v1 : Int32) (v2 : Int32) (v4 : Int32) (v5 : Int32) (tv0 : Int32) (z : St) : Option (Int32 × St) := fn_X12_most_107  k26 k36 v1 v2 tv0 v4 v5 z
set_option maxHeartbeats 4000000 in
set_option maxRecDepth 100000 in
theorem pf_X12_most_106 {p : Program} {l : Launch} {e : Env} {s : State} {m : MethodId} {args : Array Value} {below : List Frame} {meth : Method} {c : Code} {G : wG} (C : CX p s m args meth c cX12_most 6 (wsU yX12_most cX12_most 6 (some .int)) RX12 (some .int) G) {Rz : Int32 × St} {k26 : Int32 → Int32 → Int32 → Int32 → St → Option (Int32 × St)} {k36 : Int32 → Int32 → Int32 → Int32 → Int32 → St → Option (Int32 × St)} (hk_26 : ∀ (v1 : Int32) (v2 : Int32) (v3 : Int32) (v4 : Int32) (z : St)  (H : Heap) (locs : List Loc) (ls : Array Slot), WP G z H → va_S (AW G) s.heap H locs → lv_has ls 6 [(0, .ref (G.2.2 172)), (1, .int v1), (2, .int v2), (3, .int v3), (4, .int v4)] → k26 v1 v2 v3 v4 z = some Rz → W p l e (rmd 3) s m args below meth c H locs 0 0 (QI below args s G Rz) (F0 m 26 ls [])) (hk_36 : ∀ (v1 : Int32) (v2 : Int32) (v3 : Int32) (v4 : Int32) (v5 : Int32) (z : St)  (H : Heap) (locs : List Loc) (ls : Array Slot), WP G z H → va_S (AW G) s.heap H locs → lv_has ls 6 [(0, .ref (G.2.2 172)), (1, .int v1), (2, .int v2), (3, .int v3), (4, .int v4), (5, .int v5)] → k36 v1 v2 v3 v4 v5 z = some Rz → W p l e (rmd 3) s m args below meth c H locs 0 0 (QI below args s G Rz) (F0 m 36 ls [])) (v1 : Int32) (v2 : Int32) (v4 : Int32) (v5 : Int32) (tv0 : Int32) (z : St)  {H : Heap} {locs : List Loc} {ls : Array Slot} (hP : WP G z H) (hS : va_S (AW G) s.heap H locs) (hl : lv_has ls 6 [(0, .ref (G.2.2 172)), (1, .int v1), (2, .int v2), (4, .int v4), (5, .int v5)]) (h : fn_X12_most_106  k26 k36 v1 v2 v4 v5 tv0 z = some Rz) : W p l e (rmd 3) s m args below meth c H locs 0 0 (QI below args s G Rz) (F0 m 106 ls [.int tv0]) := by
  obtain ⟨hx, hb, hml, hown, hts, hr, hlocks, hK, hG⟩ := id C
  unfold fn_X12_most_106 at h
  refine lv_istore_n (lv' := [(3, .int tv0), (0, .ref (G.2.2 172)), (1, .int v1), (2, .int v2), (4, .int v4), (5, .int v5)]) hx hb dX12_most_106 rfl hl (by decide) rfl (fun ls hl => ?_)
  exact pf_X12_most_107 C  hk_26 hk_36 v1 v2 tv0 v4 v5 z  hP hS (lv_sub hl [1, 2, 3, 0, 4, 5] rfl) h
def fn_X12_most_36 (k26 : Int32 → Int32 → Int32 → Int32 → St → Option (Int32 × St)) : Nat → Int32 → Int32 → Int32 → Int32 → Int32 → St → Option (Int32 × St)
  | 0, _, _, _, _, _, _ => none
  | n + 1, v1, v2, v3, v4, v5, z => (if 8 < v5 then k26 v1 v2 v3 (v4 + 1) z else bd (fn_X12_isGrid  v1 v4 v5 z) (fun r3 z4 => (if r3 = 0 then fn_X12_most_107  k26 (fn_X12_most_36  k26 n) v1 v2 v3 v4 v5 z4 else gd (ix v1 3) (gd (v4 != 0) (gd (ix v1 3) (gd (v5 != 0) (gd (ix v1 3) ((if v2 ≤ ((((z4.1 188 (Int32.toNatClampNeg v1)) / v4) * ((z4.1 189 (Int32.toNatClampNeg v1)) / v5)) * (z4.1 190 (Int32.toNatClampNeg v1))) then (if (v4 * v5) ≤ v3 then fn_X12_most_106  k26 (fn_X12_most_36  k26 n) v1 v2 v4 v5 v3 z4 else fn_X12_most_106  k26 (fn_X12_most_36  k26 n) v1 v2 v4 v5 (v4 * v5) z4) else fn_X12_most_107  k26 (fn_X12_most_36  k26 n) v1 v2 v3 v4 v5 z4)))))))))
set_option maxHeartbeats 4000000 in
set_option maxRecDepth 100000 in
theorem pf_X12_most_36 {p : Program} {l : Launch} {e : Env} {s : State} {m : MethodId} {args : Array Value} {below : List Frame} {meth : Method} {c : Code} {G : wG} (C : CX p s m args meth c cX12_most 6 (wsU yX12_most cX12_most 6 (some .int)) RX12 (some .int) G) {Rz : Int32 × St} {k26 : Int32 → Int32 → Int32 → Int32 → St → Option (Int32 × St)} (hk_26 : ∀ (v1 : Int32) (v2 : Int32) (v3 : Int32) (v4 : Int32) (z : St)  (H : Heap) (locs : List Loc) (ls : Array Slot), WP G z H → va_S (AW G) s.heap H locs → lv_has ls 6 [(0, .ref (G.2.2 172)), (1, .int v1), (2, .int v2), (3, .int v3), (4, .int v4)] → k26 v1 v2 v3 v4 z = some Rz → W p l e (rmd 3) s m args below meth c H locs 0 0 (QI below args s G Rz) (F0 m 26 ls [])) : ∀ (n : Nat) (v1 : Int32) (v2 : Int32) (v3 : Int32) (v4 : Int32) (v5 : Int32) (z : St)  (H : Heap) (locs : List Loc) (ls : Array Slot), WP G z H → va_S (AW G) s.heap H locs → lv_has ls 6 [(0, .ref (G.2.2 172)), (1, .int v1), (2, .int v2), (3, .int v3), (4, .int v4), (5, .int v5)] → fn_X12_most_36  k26 n v1 v2 v3 v4 v5 z = some Rz → W p l e (rmd 3) s m args below meth c H locs 0 0 (QI below args s G Rz) (F0 m 36 ls []) := by
  obtain ⟨hx, hb, hml, hown, hts, hr, hlocks, hK, hG⟩ := id C
  intro n
  induction n with
  | zero => intro v1 v2 v3 v4 v5 z  H locs ls hP hS hl h; cases h
  | succ n ih =>
    intro v1 v2 v3 v4 v5 z  H locs ls hP hS hl h
    rw [fn_X12_most_36] at h
    refine lv_iload hx hb dX12_most_36 (lv_at hl 5 rfl) ?_
    refine lv_bipush (v := 8) hx hb dX12_most_38 (by decide) ?_
    refine lv_icmp_gt (tgt := 113) hx hb dX12_most_40 (by decide) (fun c1 => ?_) (fun c1 => ?_)
    · rw [if_pos c1] at h
      refine lv_iinc (v := (v4 + 1)) (lv' := [(4, .int (v4 + 1)), (0, .ref (G.2.2 172)), (1, .int v1), (2, .int v2), (3, .int v3), (5, .int v5)]) hx hb dX12_most_113 hl (k := 4) rfl rfl (by decide) rfl (fun ls hl => ?_)
      refine lv_goto (tgt := 26) hx hb dX12_most_116 (by decide) ?_
      exact hk_26 v1 v2 v3 (v4 + 1) z  _ _ _ hP hS (lv_sub hl [1, 2, 3, 4, 0] rfl) h
    · rw [if_neg c1] at h
      refine lv_aload_n hx hb dX12_most_43 rfl (lv_at hl 0 rfl) ?_
      refine lv_iload_n hx hb dX12_most_44 rfl (lv_at hl 1 rfl) ?_
      refine lv_iload hx hb dX12_most_45 (lv_at hl 4 rfl) ?_
      refine lv_iload hx hb dX12_most_47 (lv_at hl 5 rfl) ?_
      obtain ⟨r3, z4, h2, h⟩ := bd_s h
      refine x_Vi (Rz := (r3, z4)) (As := [.int v1, .int v4, .int v5]) (rest := []) ⟨hx, hb, hml, hown, hts⟩ hK hP hS (kd_lt k_172 (by decide)) (cell_12 k_172) rfl (m_X12_isGrid hG   h2) (cwV 3 hts (gV lw_2020 lw_2022 lw_98 lw_125 lw_2023) rfl rfl rfl (by decide +kernel) (rmd_ok (by decide) (by decide))) rfl hl.1 rfl (Nat.le_of_ble_eq_true rfl) dX12_most_49 ⟨Nat.le_refl _, Nat.le_refl _⟩ (fun H locs hP hS => ?_)
      refine lv_if_eq (tgt := 107) hx hb dX12_most_52 (by decide) (fun c5 => ?_) (fun c5 => ?_)
      · rw [if_pos c5] at h
        exact pf_X12_most_107 C  hk_26 ih v1 v2 v3 v4 v5 z4  hP hS (lv_sub hl [0, 1, 2, 3, 4, 5] rfl) h
      · rw [if_neg c5] at h
        refine lv_aload_n hx hb dX12_most_55 rfl (lv_at hl 0 rfl) ?_
        refine ge_12_30 hx hb hts (inU inW_X12) hown hK hP k_172 (hts _ (List.mem_cons_of_mem _ lw_1464)) dX12_most_56 ?_
        refine lv_iload_n hx hb dX12_most_59 rfl (lv_at hl 1 rfl) ?_
        obtain ⟨g6, h⟩ := gd_s h
        refine xl_14 hx hb hK hP k_188 l_188 (ix_in g6) dX12_most_60 ?_
        refine lv_iload hx hb dX12_most_61 (lv_at hl 4 rfl) ?_
        obtain ⟨g7, h⟩ := gd_s h
        refine lv_idiv hx hb dX12_most_63 (bne_z g7) ?_
        refine lv_aload_n hx hb dX12_most_64 rfl (lv_at hl 0 rfl) ?_
        refine ge_12_31 hx hb hts (inU inW_X12) hown hK hP k_172 (hts _ (List.mem_cons_of_mem _ lw_1465)) dX12_most_65 ?_
        refine lv_iload_n hx hb dX12_most_68 rfl (lv_at hl 1 rfl) ?_
        obtain ⟨g8, h⟩ := gd_s h
        refine xl_14 hx hb hK hP k_189 l_189 (ix_in g8) dX12_most_69 ?_
        refine lv_iload hx hb dX12_most_70 (lv_at hl 5 rfl) ?_
        obtain ⟨g9, h⟩ := gd_s h
        refine lv_idiv hx hb dX12_most_72 (bne_z g9) ?_
        refine lv_imul hx hb dX12_most_73 ?_
        refine lv_aload_n hx hb dX12_most_74 rfl (lv_at hl 0 rfl) ?_
        refine ge_12_32 hx hb hts (inU inW_X12) hown hK hP k_172 (hts _ (List.mem_cons_of_mem _ lw_1466)) dX12_most_75 ?_
        refine lv_iload_n hx hb dX12_most_78 rfl (lv_at hl 1 rfl) ?_
        obtain ⟨g10, h⟩ := gd_s h
        refine xl_14 hx hb hK hP k_190 l_190 (ix_in g10) dX12_most_79 ?_
        refine lv_imul hx hb dX12_most_80 ?_
        refine lv_iload_n hx hb dX12_most_81 rfl (lv_at hl 2 rfl) ?_
        refine lv_icmp_ge (tgt := 88) hx hb dX12_most_82 (by decide) (fun c11 => ?_) (fun c11 => ?_)
        · rw [if_pos c11] at h
          refine lv_iload hx hb dX12_most_88 (lv_at hl 4 rfl) ?_
          refine lv_iload hx hb dX12_most_90 (lv_at hl 5 rfl) ?_
          refine lv_imul hx hb dX12_most_92 ?_
          refine lv_iload_n hx hb dX12_most_93 rfl (lv_at hl 3 rfl) ?_
          refine lv_icmp_le (tgt := 105) hx hb dX12_most_94 (by decide) (fun c12 => ?_) (fun c12 => ?_)
          · rw [if_pos c12] at h
            refine lv_iload_n hx hb dX12_most_105 rfl (lv_at hl 3 rfl) ?_
            exact pf_X12_most_106 C  hk_26 ih v1 v2 v4 v5 v3 z4  hP hS (lv_sub hl [0, 1, 2, 4, 5] rfl) h
          · rw [if_neg c12] at h
            refine lv_iload hx hb dX12_most_97 (lv_at hl 4 rfl) ?_
            refine lv_iload hx hb dX12_most_99 (lv_at hl 5 rfl) ?_
            refine lv_imul hx hb dX12_most_101 ?_
            refine lv_goto (tgt := 106) hx hb dX12_most_102 (by decide) ?_
            exact pf_X12_most_106 C  hk_26 ih v1 v2 v4 v5 (v4 * v5) z4  hP hS (lv_sub hl [0, 1, 2, 4, 5] rfl) h
        · rw [if_neg c11] at h
          refine lv_goto (tgt := 107) hx hb dX12_most_85 (by decide) ?_
          exact pf_X12_most_107 C  hk_26 ih v1 v2 v3 v4 v5 z4  hP hS (lv_sub hl [0, 1, 2, 3, 4, 5] rfl) h
def fn_X12_most_26 : Nat → Int32 → Int32 → Int32 → Int32 → St → Option (Int32 × St)
  | 0, _, _, _, _, _ => none
  | n + 1, v1, v2, v3, v4, z => (if 8 < v4 then some (v3, z) else fn_X12_most_36  (fn_X12_most_26   n) fu v1 v2 v3 v4 1 z)
set_option maxHeartbeats 4000000 in
set_option maxRecDepth 100000 in
theorem pf_X12_most_26 {p : Program} {l : Launch} {e : Env} {s : State} {m : MethodId} {args : Array Value} {below : List Frame} {meth : Method} {c : Code} {G : wG} (C : CX p s m args meth c cX12_most 6 (wsU yX12_most cX12_most 6 (some .int)) RX12 (some .int) G) {Rz : Int32 × St} : ∀ (n : Nat) (v1 : Int32) (v2 : Int32) (v3 : Int32) (v4 : Int32) (z : St)  (H : Heap) (locs : List Loc) (ls : Array Slot), WP G z H → va_S (AW G) s.heap H locs → lv_has ls 6 [(0, .ref (G.2.2 172)), (1, .int v1), (2, .int v2), (3, .int v3), (4, .int v4)] → fn_X12_most_26   n v1 v2 v3 v4 z = some Rz → W p l e (rmd 3) s m args below meth c H locs 0 0 (QI below args s G Rz) (F0 m 26 ls []) := by
  obtain ⟨hx, hb, hml, hown, hts, hr, hlocks, hK, hG⟩ := id C
  intro n
  induction n with
  | zero => intro v1 v2 v3 v4 z  H locs ls hP hS hl h; cases h
  | succ n ih =>
    intro v1 v2 v3 v4 z  H locs ls hP hS hl h
    rw [fn_X12_most_26] at h
    refine lv_iload hx hb dX12_most_26 (lv_at hl 4 rfl) ?_
    refine lv_bipush (v := 8) hx hb dX12_most_28 (by decide) ?_
    refine lv_icmp_gt (tgt := 119) hx hb dX12_most_30 (by decide) (fun c1 => ?_) (fun c1 => ?_)
    · rw [if_pos c1] at h
      refine lv_iload_n hx hb dX12_most_119 rfl (lv_at hl 3 rfl) ?_
      exact x_iret hx hb hr hlocks hK hP hS h dX12_most_120
    · rw [if_neg c1] at h
      refine lv_iconst (v := 1) hx hb dX12_most_33 (by decide) ?_
      refine lv_istore (lv' := [(5, .int 1), (0, .ref (G.2.2 172)), (1, .int v1), (2, .int v2), (3, .int v3), (4, .int v4)]) hx hb dX12_most_34 hl (by decide) rfl (fun ls hl => ?_)
      exact pf_X12_most_36 C  ih fu v1 v2 v3 v4 1 z  _ _ _ hP hS (lv_sub hl [1, 2, 3, 4, 5, 0] rfl) h
def fn_X12_most (v1 : Int32) (v2 : Int32) (z : St) : Option (Int32 × St) := bd (fn_X12_isTier  v1 z) (fun r2 z3 => (if r2 = 0 then some ((-1), z3) else bd (fn_X12_isIn  v2 1 999 z3) (fun r6 z7 => (if r6 = 0 then some ((-1), z7) else fn_X12_most_26   fu v1 v2 (-1) 1 z7))))
set_option maxHeartbeats 4000000 in
set_option maxRecDepth 100000 in
theorem m_X12_most {l : Launch} {G : wG} (hG : Ok G) {v1 : Int32} {v2 : Int32} {z : St} {Rz : Int32 × St}  (h : fn_X12_most  v1 v2 z = some Rz) : Met l yX12_most (wsU yX12_most cX12_most 6 (some .int)) (rmd 3) (va_Pc [.ref (G.2.2 172), .int v1, .int v2] (Pre G z)) (va_Qi (fun r u => (r, u) = Rz) (Pre G) (AW G)) 0 0 (AW G) := by
  refine Met.ofW (cc := cX12_most) (maxL := 6) (ret := (some .int)) (by decide) rfl ?_
  intro p e s m args below meth c s₁ B hml hv
  obtain ⟨rfl, hP, hK⟩ := hv
  have C : CX p s m ([.ref (G.2.2 172), .int v1, .int v2] : List Value).toArray meth c cX12_most 6 (wsU yX12_most cX12_most 6 (some .int)) RX12 (some .int) G := ⟨B.exec, B.bytes, hml, findClass_of_methodNamed B.named, atoms_spec (ws := (wsU yX12_most cX12_most 6 (some .int))) B.pre, B.returns, B.notSynchronized, hK, hG⟩
  obtain ⟨hx, hb, -, hown, hts, hr, hlocks, -, -⟩ := id C
  have hS : va_S (AW G) s.heap s.heap [] := va_S.rf
  have hl := lv_entry [.ref (G.2.2 172), .int v1, .int v2] (n := 6) (Nat.le_of_ble_eq_true rfl)
  rw [lg_entry_eq]
  generalize (lg_sl [.ref (G.2.2 172), .int v1, .int v2] ++ List.replicate (6 - (lg_sl [.ref (G.2.2 172), .int v1, .int v2]).length) Slot.unset).toArray = ls at hl ⊢
  have hl : lv_has ls 6 [(0, .ref (G.2.2 172)), (1, .int v1), (2, .int v2)] := hl
  unfold fn_X12_most at h
  refine lv_aload_n hx hb dX12_most_0 rfl (lv_at hl 0 rfl) ?_
  refine lv_iload_n hx hb dX12_most_1 rfl (lv_at hl 1 rfl) ?_
  obtain ⟨r2, z3, h1, h⟩ := bd_s h
  refine x_Vi (Rz := (r2, z3)) (As := [.int v1]) (rest := []) ⟨hx, hb, hml, hown, hts⟩ hK hP hS (kd_lt k_172 (by decide)) (cell_12 k_172) rfl (m_X12_isTier hG   h1) (cwV 1 hts (gV lw_2016 lw_2018 lw_97 lw_125 lw_2019) rfl rfl rfl (by decide +kernel) (rmd_ok (by decide) (by decide))) rfl hl.1 rfl (Nat.le_of_ble_eq_true rfl) dX12_most_2 ⟨Nat.le_refl _, Nat.le_refl _⟩ (fun H locs hP hS => ?_)
  refine lv_if_eq (tgt := 19) hx hb dX12_most_5 (by decide) (fun c4 => ?_) (fun c4 => ?_)
  · rw [if_pos c4] at h
    refine lv_iconst (v := (-1)) hx hb dX12_most_19 (by decide) ?_
    exact x_iret hx hb hr hlocks hK hP hS h dX12_most_20
  · rw [if_neg c4] at h
    refine lv_iload_n hx hb dX12_most_8 rfl (lv_at hl 2 rfl) ?_
    refine lv_iconst (v := 1) hx hb dX12_most_9 (by decide) ?_
    refine lv_sipush (v := 999) hx hb dX12_most_10 (by decide) ?_
    obtain ⟨r6, z7, h5, h⟩ := bd_s h
    refine x_Si (Rz := (r6, z7)) (As := [.int v2, .int 1, .int 999]) (rest := []) ⟨hx, hb, hml, hown, hts⟩ hK hP hS (m_X12_isIn hG   h5) (va_cwS 3 hts (gS lw_1827 lw_1828 lw_125 lw_1829) rfl rfl rfl (by decide +kernel) (rmd_ok (by decide) (by decide))) rfl hl.1 rfl (Nat.le_of_ble_eq_true rfl) dX12_most_13 ⟨Nat.le_refl _, Nat.le_refl _⟩ (fun H locs hP hS => ?_)
    refine lv_if_ne (tgt := 21) hx hb dX12_most_16 (by decide) (fun c8 => ?_) (fun c8 => ?_)
    · rw [if_neg c8] at h
      refine lv_iconst (v := (-1)) hx hb dX12_most_21 (by decide) ?_
      refine lv_istore_n (lv' := [(3, .int (-1)), (0, .ref (G.2.2 172)), (1, .int v1), (2, .int v2)]) hx hb dX12_most_22 rfl hl (by decide) rfl (fun ls hl => ?_)
      refine lv_iconst (v := 1) hx hb dX12_most_23 (by decide) ?_
      refine lv_istore (lv' := [(4, .int 1), (3, .int (-1)), (0, .ref (G.2.2 172)), (1, .int v1), (2, .int v2)]) hx hb dX12_most_24 hl (by decide) rfl (fun ls hl => ?_)
      exact pf_X12_most_26 C   fu v1 v2 (-1) 1 z7  _ _ _ hP hS (lv_sub hl [2, 3, 4, 1, 0] rfl) h
    · rw [if_pos c8] at h
      refine lv_iconst (v := (-1)) hx hb dX12_most_19 (by decide) ?_
      exact x_iret hx hb hr hlocks hK hP hS h dX12_most_20
def fn_X12_room_140 (k34 : Int32 → Int32 → Int32 → Int32 → St → Option (Int32 × St)) (v1 : Int32) (v2 : Int32) (v3 : Int32) (v4 : Int32) (z : St) : Option (Int32 × St) := k34 v1 v2 v3 (v4 + 1) z
set_option maxHeartbeats 4000000 in
set_option maxRecDepth 100000 in
theorem pf_X12_room_140 {p : Program} {l : Launch} {e : Env} {s : State} {m : MethodId} {args : Array Value} {below : List Frame} {meth : Method} {c : Code} {G : wG} (C : CX p s m args meth c cX12_room 6 (wsU yX12_room cX12_room 6 (some .int)) RX12 (some .int) G) {Rz : Int32 × St} {k34 : Int32 → Int32 → Int32 → Int32 → St → Option (Int32 × St)} (hk_34 : ∀ (v1 : Int32) (v2 : Int32) (v3 : Int32) (v4 : Int32) (z : St)  (H : Heap) (locs : List Loc) (ls : Array Slot), WP G z H → va_S (AW G) s.heap H locs → lv_has ls 6 [(0, .ref (G.2.2 172)), (1, .int v1), (2, .int v2), (3, .int v3), (4, .int v4)] → k34 v1 v2 v3 v4 z = some Rz → W p l e (rmd 3) s m args below meth c H locs 0 0 (QI below args s G Rz) (F0 m 34 ls [])) (v1 : Int32) (v2 : Int32) (v3 : Int32) (v4 : Int32) (z : St)  {H : Heap} {locs : List Loc} {ls : Array Slot} (hP : WP G z H) (hS : va_S (AW G) s.heap H locs) (hl : lv_has ls 6 [(0, .ref (G.2.2 172)), (1, .int v1), (2, .int v2), (3, .int v3), (4, .int v4)]) (h : fn_X12_room_140  k34 v1 v2 v3 v4 z = some Rz) : W p l e (rmd 3) s m args below meth c H locs 0 0 (QI below args s G Rz) (F0 m 140 ls []) := by
  obtain ⟨hx, hb, hml, hown, hts, hr, hlocks, hK, hG⟩ := id C
  unfold fn_X12_room_140 at h
  refine lv_iinc (v := (v4 + 1)) (lv' := [(4, .int (v4 + 1)), (0, .ref (G.2.2 172)), (1, .int v1), (2, .int v2), (3, .int v3)]) hx hb dX12_room_140 hl (k := 4) rfl rfl (by decide) rfl (fun ls hl => ?_)
  refine lv_goto (tgt := 34) hx hb dX12_room_143 (by decide) ?_
  exact hk_34 v1 v2 v3 (v4 + 1) z  _ _ _ hP hS (lv_sub hl [1, 2, 3, 4, 0] rfl) h
def fn_X12_room_139 (k34 : Int32 → Int32 → Int32 → Int32 → St → Option (Int32 × St)) (v1 : Int32) (v2 : Int32) (v4 : Int32) (tv0 : Int32) (z : St) : Option (Int32 × St) := fn_X12_room_140  k34 v1 v2 tv0 v4 z
set_option maxHeartbeats 4000000 in
set_option maxRecDepth 100000 in
theorem pf_X12_room_139 {p : Program} {l : Launch} {e : Env} {s : State} {m : MethodId} {args : Array Value} {below : List Frame} {meth : Method} {c : Code} {G : wG} (C : CX p s m args meth c cX12_room 6 (wsU yX12_room cX12_room 6 (some .int)) RX12 (some .int) G) {Rz : Int32 × St} {k34 : Int32 → Int32 → Int32 → Int32 → St → Option (Int32 × St)} (hk_34 : ∀ (v1 : Int32) (v2 : Int32) (v3 : Int32) (v4 : Int32) (z : St)  (H : Heap) (locs : List Loc) (ls : Array Slot), WP G z H → va_S (AW G) s.heap H locs → lv_has ls 6 [(0, .ref (G.2.2 172)), (1, .int v1), (2, .int v2), (3, .int v3), (4, .int v4)] → k34 v1 v2 v3 v4 z = some Rz → W p l e (rmd 3) s m args below meth c H locs 0 0 (QI below args s G Rz) (F0 m 34 ls [])) (v1 : Int32) (v2 : Int32) (v4 : Int32) (tv0 : Int32) (z : St)  {H : Heap} {locs : List Loc} {ls : Array Slot} (hP : WP G z H) (hS : va_S (AW G) s.heap H locs) (hl : lv_has ls 6 [(0, .ref (G.2.2 172)), (1, .int v1), (2, .int v2), (4, .int v4)]) (h : fn_X12_room_139  k34 v1 v2 v4 tv0 z = some Rz) : W p l e (rmd 3) s m args below meth c H locs 0 0 (QI below args s G Rz) (F0 m 139 ls [.int tv0]) := by
  obtain ⟨hx, hb, hml, hown, hts, hr, hlocks, hK, hG⟩ := id C
  unfold fn_X12_room_139 at h
  refine lv_istore_n (lv' := [(3, .int tv0), (0, .ref (G.2.2 172)), (1, .int v1), (2, .int v2), (4, .int v4)]) hx hb dX12_room_139 rfl hl (by decide) rfl (fun ls hl => ?_)
  exact pf_X12_room_140 C  hk_34 v1 v2 tv0 v4 z  hP hS (lv_sub hl [1, 2, 3, 0, 4] rfl) h
def fn_X12_room_111 (k34 : Int32 → Int32 → Int32 → Int32 → St → Option (Int32 × St)) (v1 : Int32) (v2 : Int32) (v3 : Int32) (v4 : Int32) (tv0 : Int32) (z : St) : Option (Int32 × St) := gd (ix v1 6) ((if (tv0 - (z.1 194 (Int32.toNatClampNeg v1))) ≤ v3 then fn_X12_room_139  k34 v1 v2 v4 v3 z else gd (ix v1 6) (fn_X12_room_139  k34 v1 v2 v4 (tv0 - (z.1 194 (Int32.toNatClampNeg v1))) z)))
set_option maxHeartbeats 4000000 in
set_option maxRecDepth 100000 in
theorem pf_X12_room_111 {p : Program} {l : Launch} {e : Env} {s : State} {m : MethodId} {args : Array Value} {below : List Frame} {meth : Method} {c : Code} {G : wG} (C : CX p s m args meth c cX12_room 6 (wsU yX12_room cX12_room 6 (some .int)) RX12 (some .int) G) {Rz : Int32 × St} {k34 : Int32 → Int32 → Int32 → Int32 → St → Option (Int32 × St)} (hk_34 : ∀ (v1 : Int32) (v2 : Int32) (v3 : Int32) (v4 : Int32) (z : St)  (H : Heap) (locs : List Loc) (ls : Array Slot), WP G z H → va_S (AW G) s.heap H locs → lv_has ls 6 [(0, .ref (G.2.2 172)), (1, .int v1), (2, .int v2), (3, .int v3), (4, .int v4)] → k34 v1 v2 v3 v4 z = some Rz → W p l e (rmd 3) s m args below meth c H locs 0 0 (QI below args s G Rz) (F0 m 34 ls [])) (v1 : Int32) (v2 : Int32) (v3 : Int32) (v4 : Int32) (tv0 : Int32) (z : St)  {H : Heap} {locs : List Loc} {ls : Array Slot} (hP : WP G z H) (hS : va_S (AW G) s.heap H locs) (hl : lv_has ls 6 [(0, .ref (G.2.2 172)), (1, .int v1), (2, .int v2), (3, .int v3), (4, .int v4)]) (h : fn_X12_room_111  k34 v1 v2 v3 v4 tv0 z = some Rz) : W p l e (rmd 3) s m args below meth c H locs 0 0 (QI below args s G Rz) (F0 m 111 ls [.int tv0]) := by
  obtain ⟨hx, hb, hml, hown, hts, hr, hlocks, hK, hG⟩ := id C
  unfold fn_X12_room_111 at h
  refine lv_istore (lv' := [(5, .int tv0), (0, .ref (G.2.2 172)), (1, .int v1), (2, .int v2), (3, .int v3), (4, .int v4)]) hx hb dX12_room_111 hl (by decide) rfl (fun ls hl => ?_)
  refine lv_iload hx hb dX12_room_113 (lv_at hl 0 rfl) ?_
  refine lv_aload_n hx hb dX12_room_115 rfl (lv_at hl 1 rfl) ?_
  refine ge_12_36 hx hb hts (inU inW_X12) hown hK hP k_172 (hts _ (List.mem_cons_of_mem _ lw_1470)) dX12_room_116 ?_
  refine lv_iload_n hx hb dX12_room_119 rfl (lv_at hl 2 rfl) ?_
  obtain ⟨g1, h⟩ := gd_s h
  refine xl_14 hx hb hK hP k_194 l_194 (ix_in g1) dX12_room_120 ?_
  refine lv_isub hx hb dX12_room_121 ?_
  refine lv_iload_n hx hb dX12_room_122 rfl (lv_at hl 4 rfl) ?_
  refine lv_icmp_le (tgt := 138) hx hb dX12_room_123 (by decide) (fun c2 => ?_) (fun c2 => ?_)
  · rw [if_pos c2] at h
    refine lv_iload_n hx hb dX12_room_138 rfl (lv_at hl 4 rfl) ?_
    exact pf_X12_room_139 C  hk_34 v1 v2 v4 v3 z  hP hS (lv_sub hl [1, 2, 3, 5] rfl) h
  · rw [if_neg c2] at h
    refine lv_iload hx hb dX12_room_126 (lv_at hl 0 rfl) ?_
    refine lv_aload_n hx hb dX12_room_128 rfl (lv_at hl 1 rfl) ?_
    refine ge_12_36 hx hb hts (inU inW_X12) hown hK hP k_172 (hts _ (List.mem_cons_of_mem _ lw_1470)) dX12_room_129 ?_
    refine lv_iload_n hx hb dX12_room_132 rfl (lv_at hl 2 rfl) ?_
    obtain ⟨g3, h⟩ := gd_s h
    refine xl_14 hx hb hK hP k_194 l_194 (ix_in g3) dX12_room_133 ?_
    refine lv_isub hx hb dX12_room_134 ?_
    refine lv_goto (tgt := 139) hx hb dX12_room_135 (by decide) ?_
    exact pf_X12_room_139 C  hk_34 v1 v2 v4 (tv0 - (z.1 194 (Int32.toNatClampNeg v1))) z  hP hS (lv_sub hl [1, 2, 3, 5] rfl) h
def fn_X12_room_34 : Nat → Int32 → Int32 → Int32 → Int32 → St → Option (Int32 × St)
  | 0, _, _, _, _, _ => none
  | n + 1, v1, v2, v3, v4, z => (if (z.1 198 (Int32.toNatClampNeg 168)) ≤ v4 then some (v3, z) else bd (fn_X12_isFree  v4 z) (fun r3 z4 => (if r3 = 0 then fn_X12_room_140  (fn_X12_room_34   n) v1 v2 v3 v4 z4 else bd (fn_X12_areaOf  v4 z4) (fun r7 z8 => gd (ix v1 6) ((if r7 < (z8.1 194 (Int32.toNatClampNeg v1)) then fn_X12_room_140  (fn_X12_room_34   n) v1 v2 v3 v4 z8 else bd (fn_X12_servedBut  v1 v4 z8) (fun r12 z13 => (if v2 ≤ (r12 + 1) then bd (fn_X12_areaOf  v4 z13) (fun r16 z17 => (if 999 ≤ r16 then fn_X12_room_111  (fn_X12_room_34   n) v1 v2 v3 v4 999 z17 else bd (fn_X12_areaOf  v4 z17) (fun r20 z21 => fn_X12_room_111  (fn_X12_room_34   n) v1 v2 v3 v4 r20 z21))) else fn_X12_room_140  (fn_X12_room_34   n) v1 v2 v3 v4 z13))))))))
set_option maxHeartbeats 4000000 in
set_option maxRecDepth 100000 in
theorem pf_X12_room_34 {p : Program} {l : Launch} {e : Env} {s : State} {m : MethodId} {args : Array Value} {below : List Frame} {meth : Method} {c : Code} {G : wG} (C : CX p s m args meth c cX12_room 6 (wsU yX12_room cX12_room 6 (some .int)) RX12 (some .int) G) {Rz : Int32 × St} : ∀ (n : Nat) (v1 : Int32) (v2 : Int32) (v3 : Int32) (v4 : Int32) (z : St)  (H : Heap) (locs : List Loc) (ls : Array Slot), WP G z H → va_S (AW G) s.heap H locs → lv_has ls 6 [(0, .ref (G.2.2 172)), (1, .int v1), (2, .int v2), (3, .int v3), (4, .int v4)] → fn_X12_room_34   n v1 v2 v3 v4 z = some Rz → W p l e (rmd 3) s m args below meth c H locs 0 0 (QI below args s G Rz) (F0 m 34 ls []) := by
  obtain ⟨hx, hb, hml, hown, hts, hr, hlocks, hK, hG⟩ := id C
  intro n
  induction n with
  | zero => intro v1 v2 v3 v4 z  H locs ls hP hS hl h; cases h
  | succ n ih =>
    intro v1 v2 v3 v4 z  H locs ls hP hS hl h
    rw [fn_X12_room_34] at h
    refine lv_iload hx hb dX12_room_34 (lv_at hl 4 rfl) ?_
    refine lv_aload_n hx hb dX12_room_36 rfl (lv_at hl 0 rfl) ?_
    refine ge_12_49 hx hb hts (inU inW_X12) hown hK hP k_172 (hts _ (List.mem_cons_of_mem _ lw_1483)) dX12_room_37 ?_
    refine lv_sipush (v := 168) hx hb dX12_room_40 (by decide) ?_
    refine xl_14 hx hb hK hP k_198 l_198 (ix_in (by decide)) dX12_room_43 ?_
    refine lv_icmp_ge (tgt := 146) hx hb dX12_room_44 (by decide) (fun c1 => ?_) (fun c1 => ?_)
    · rw [if_pos c1] at h
      refine lv_iload_n hx hb dX12_room_146 rfl (lv_at hl 3 rfl) ?_
      exact x_iret hx hb hr hlocks hK hP hS h dX12_room_147
    · rw [if_neg c1] at h
      refine lv_aload_n hx hb dX12_room_47 rfl (lv_at hl 0 rfl) ?_
      refine lv_iload hx hb dX12_room_48 (lv_at hl 4 rfl) ?_
      obtain ⟨r3, z4, h2, h⟩ := bd_s h
      refine x_Vi (Rz := (r3, z4)) (As := [.int v4]) (rest := []) ⟨hx, hb, hml, hown, hts⟩ hK hP hS (kd_lt k_172 (by decide)) (cell_12 k_172) rfl (m_X12_isFree hG   h2) (cwV 1 hts (gV lw_1885 lw_1887 lw_82 lw_125 lw_1888) rfl rfl rfl (by decide +kernel) (rmd_ok (by decide) (by decide))) rfl hl.1 rfl (Nat.le_of_ble_eq_true rfl) dX12_room_50 ⟨Nat.le_refl _, Nat.le_refl _⟩ (fun H locs hP hS => ?_)
      refine lv_if_eq (tgt := 140) hx hb dX12_room_53 (by decide) (fun c5 => ?_) (fun c5 => ?_)
      · rw [if_pos c5] at h
        exact pf_X12_room_140 C  ih v1 v2 v3 v4 z4  hP hS (lv_sub hl [0, 1, 2, 3, 4] rfl) h
      · rw [if_neg c5] at h
        refine lv_aload_n hx hb dX12_room_56 rfl (lv_at hl 0 rfl) ?_
        refine lv_iload hx hb dX12_room_57 (lv_at hl 4 rfl) ?_
        obtain ⟨r7, z8, h6, h⟩ := bd_s h
        refine x_Vi (Rz := (r7, z8)) (As := [.int v4]) (rest := []) ⟨hx, hb, hml, hown, hts⟩ hK hP hS (kd_lt k_172 (by decide)) (cell_12 k_172) rfl (m_X12_areaOf hG   h6) (cwV 1 hts (gV lw_1834 lw_1836 lw_74 lw_125 lw_1837) rfl rfl rfl (by decide +kernel) (rmd_ok (by decide) (by decide))) rfl hl.1 rfl (Nat.le_of_ble_eq_true rfl) dX12_room_59 ⟨Nat.le_refl _, Nat.le_refl _⟩ (fun H locs hP hS => ?_)
        refine lv_aload_n hx hb dX12_room_62 rfl (lv_at hl 0 rfl) ?_
        refine ge_12_36 hx hb hts (inU inW_X12) hown hK hP k_172 (hts _ (List.mem_cons_of_mem _ lw_1470)) dX12_room_63 ?_
        refine lv_iload_n hx hb dX12_room_66 rfl (lv_at hl 1 rfl) ?_
        obtain ⟨g9, h⟩ := gd_s h
        refine xl_14 hx hb hK hP k_194 l_194 (ix_in g9) dX12_room_67 ?_
        refine lv_icmp_lt (tgt := 140) hx hb dX12_room_68 (by decide) (fun c10 => ?_) (fun c10 => ?_)
        · rw [if_pos c10] at h
          exact pf_X12_room_140 C  ih v1 v2 v3 v4 z8  hP hS (lv_sub hl [0, 1, 2, 3, 4] rfl) h
        · rw [if_neg c10] at h
          refine lv_aload_n hx hb dX12_room_71 rfl (lv_at hl 0 rfl) ?_
          refine lv_iload_n hx hb dX12_room_72 rfl (lv_at hl 1 rfl) ?_
          refine lv_iload hx hb dX12_room_73 (lv_at hl 4 rfl) ?_
          obtain ⟨r12, z13, h11, h⟩ := bd_s h
          refine x_Vi (Rz := (r12, z13)) (As := [.int v1, .int v4]) (rest := []) ⟨hx, hb, hml, hown, hts⟩ hK hP hS (kd_lt k_172 (by decide)) (cell_12 k_172) rfl (m_X12_servedBut hG   h11) (cwV 2 hts (gV lw_1937 lw_1939 lw_87 lw_125 lw_1940) rfl rfl rfl (by decide +kernel) (rmd_ok (by decide) (by decide))) rfl hl.1 rfl (Nat.le_of_ble_eq_true rfl) dX12_room_75 ⟨Nat.le_refl _, Nat.le_refl _⟩ (fun H locs hP hS => ?_)
          refine lv_iconst (v := 1) hx hb dX12_room_78 (by decide) ?_
          refine lv_iadd hx hb dX12_room_79 ?_
          refine lv_iload_n hx hb dX12_room_80 rfl (lv_at hl 2 rfl) ?_
          refine lv_icmp_ge (tgt := 87) hx hb dX12_room_81 (by decide) (fun c14 => ?_) (fun c14 => ?_)
          · rw [if_pos c14] at h
            refine lv_aload_n hx hb dX12_room_87 rfl (lv_at hl 0 rfl) ?_
            refine lv_iload hx hb dX12_room_88 (lv_at hl 4 rfl) ?_
            obtain ⟨r16, z17, h15, h⟩ := bd_s h
            refine x_Vi (Rz := (r16, z17)) (As := [.int v4]) (rest := []) ⟨hx, hb, hml, hown, hts⟩ hK hP hS (kd_lt k_172 (by decide)) (cell_12 k_172) rfl (m_X12_areaOf hG   h15) (cwV 1 hts (gV lw_1834 lw_1836 lw_74 lw_125 lw_1837) rfl rfl rfl (by decide +kernel) (rmd_ok (by decide) (by decide))) rfl hl.1 rfl (Nat.le_of_ble_eq_true rfl) dX12_room_90 ⟨Nat.le_refl _, Nat.le_refl _⟩ (fun H locs hP hS => ?_)
            refine lv_sipush (v := 999) hx hb dX12_room_93 (by decide) ?_
            refine lv_icmp_ge (tgt := 108) hx hb dX12_room_96 (by decide) (fun c18 => ?_) (fun c18 => ?_)
            · rw [if_pos c18] at h
              refine lv_sipush (v := 999) hx hb dX12_room_108 (by decide) ?_
              exact pf_X12_room_111 C  ih v1 v2 v3 v4 999 z17  hP hS (lv_sub hl [0, 1, 2, 3, 4] rfl) h
            · rw [if_neg c18] at h
              refine lv_aload_n hx hb dX12_room_99 rfl (lv_at hl 0 rfl) ?_
              refine lv_iload hx hb dX12_room_100 (lv_at hl 4 rfl) ?_
              obtain ⟨r20, z21, h19, h⟩ := bd_s h
              refine x_Vi (Rz := (r20, z21)) (As := [.int v4]) (rest := []) ⟨hx, hb, hml, hown, hts⟩ hK hP hS (kd_lt k_172 (by decide)) (cell_12 k_172) rfl (m_X12_areaOf hG   h19) (cwV 1 hts (gV lw_1834 lw_1836 lw_74 lw_125 lw_1837) rfl rfl rfl (by decide +kernel) (rmd_ok (by decide) (by decide))) rfl hl.1 rfl (Nat.le_of_ble_eq_true rfl) dX12_room_102 ⟨Nat.le_refl _, Nat.le_refl _⟩ (fun H locs hP hS => ?_)
              refine lv_goto (tgt := 111) hx hb dX12_room_105 (by decide) ?_
              exact pf_X12_room_111 C  ih v1 v2 v3 v4 r20 z21  hP hS (lv_sub hl [0, 1, 2, 3, 4] rfl) h
          · rw [if_neg c14] at h
            refine lv_goto (tgt := 140) hx hb dX12_room_84 (by decide) ?_
            exact pf_X12_room_140 C  ih v1 v2 v3 v4 z13  hP hS (lv_sub hl [0, 1, 2, 3, 4] rfl) h
def fn_X12_room (v1 : Int32) (z : St) : Option (Int32 × St) := bv (fn_X12_load   z) (fun z2 => bd (fn_X12_isGuest  v1 z2) (fun r4 z5 => (if r4 = 0 then some ((-1), z5) else bd (fn_X12_pieceOf  v1 z5) (fun r8 z9 => (if r8 < 0 then bd (fn_X12_servedBut  (-1) (-1) z9) (fun r12 z13 => fn_X12_room_34   fu v1 r12 (-1) 0 z13) else some ((-1), z9))))))
set_option maxHeartbeats 4000000 in
set_option maxRecDepth 100000 in
theorem m_X12_room {l : Launch} {G : wG} (hG : Ok G) {v1 : Int32} {z : St} {Rz : Int32 × St}  (h : fn_X12_room  v1 z = some Rz) : Met l yX12_room (wsU yX12_room cX12_room 6 (some .int)) (rmd 3) (va_Pc [.ref (G.2.2 172), .int v1] (Pre G z)) (va_Qi (fun r u => (r, u) = Rz) (Pre G) (AW G)) 0 0 (AW G) := by
  refine Met.ofW (cc := cX12_room) (maxL := 6) (ret := (some .int)) (by decide) rfl ?_
  intro p e s m args below meth c s₁ B hml hv
  obtain ⟨rfl, hP, hK⟩ := hv
  have C : CX p s m ([.ref (G.2.2 172), .int v1] : List Value).toArray meth c cX12_room 6 (wsU yX12_room cX12_room 6 (some .int)) RX12 (some .int) G := ⟨B.exec, B.bytes, hml, findClass_of_methodNamed B.named, atoms_spec (ws := (wsU yX12_room cX12_room 6 (some .int))) B.pre, B.returns, B.notSynchronized, hK, hG⟩
  obtain ⟨hx, hb, -, hown, hts, hr, hlocks, -, -⟩ := id C
  have hS : va_S (AW G) s.heap s.heap [] := va_S.rf
  have hl := lv_entry [.ref (G.2.2 172), .int v1] (n := 6) (Nat.le_of_ble_eq_true rfl)
  rw [lg_entry_eq]
  generalize (lg_sl [.ref (G.2.2 172), .int v1] ++ List.replicate (6 - (lg_sl [.ref (G.2.2 172), .int v1]).length) Slot.unset).toArray = ls at hl ⊢
  have hl : lv_has ls 6 [(0, .ref (G.2.2 172)), (1, .int v1)] := hl
  unfold fn_X12_room at h
  refine lv_aload_n hx hb dX12_room_0 rfl (lv_at hl 0 rfl) ?_
  obtain ⟨z2, h1, h⟩ := bv_s h
  refine x_Vv (Rz := z2) (As := []) (rest := []) ⟨hx, hb, hml, hown, hts⟩ hK hP hS (kd_lt k_172 (by decide)) (cell_12 k_172) rfl (m_X12_load hG   h1) (cwV 0 hts (gV lw_1830 lw_1832 lw_73 lw_125 lw_1833) rfl rfl rfl (by decide +kernel) (rmd_ok (by decide) (by decide))) rfl hl.1 rfl (Nat.le_of_ble_eq_true rfl) dX12_room_1 ⟨Nat.le_refl _, Nat.le_refl _⟩ (fun H locs hP hS => ?_)
  refine lv_aload_n hx hb dX12_room_4 rfl (lv_at hl 0 rfl) ?_
  refine lv_iload_n hx hb dX12_room_5 rfl (lv_at hl 1 rfl) ?_
  obtain ⟨r4, z5, h3, h⟩ := bd_s h
  refine x_Vi (Rz := (r4, z5)) (As := [.int v1]) (rest := []) ⟨hx, hb, hml, hown, hts⟩ hK hP hS (kd_lt k_172 (by decide)) (cell_12 k_172) rfl (m_X12_isGuest hG   h3) (cwV 1 hts (gV lw_1849 lw_1851 lw_76 lw_125 lw_1852) rfl rfl rfl (by decide +kernel) (rmd_ok (by decide) (by decide))) rfl hl.1 rfl (Nat.le_of_ble_eq_true rfl) dX12_room_6 ⟨Nat.le_refl _, Nat.le_refl _⟩ (fun H locs hP hS => ?_)
  refine lv_if_eq (tgt := 20) hx hb dX12_room_9 (by decide) (fun c6 => ?_) (fun c6 => ?_)
  · rw [if_pos c6] at h
    refine lv_iconst (v := (-1)) hx hb dX12_room_20 (by decide) ?_
    exact x_iret hx hb hr hlocks hK hP hS h dX12_room_21
  · rw [if_neg c6] at h
    refine lv_aload_n hx hb dX12_room_12 rfl (lv_at hl 0 rfl) ?_
    refine lv_iload_n hx hb dX12_room_13 rfl (lv_at hl 1 rfl) ?_
    obtain ⟨r8, z9, h7, h⟩ := bd_s h
    refine x_Vi (Rz := (r8, z9)) (As := [.int v1]) (rest := []) ⟨hx, hb, hml, hown, hts⟩ hK hP hS (kd_lt k_172 (by decide)) (cell_12 k_172) rfl (m_X12_pieceOf hG   h7) (cwV 1 hts (gV lw_1853 lw_1855 lw_77 lw_125 lw_1856) rfl rfl rfl (by decide +kernel) (rmd_ok (by decide) (by decide))) rfl hl.1 rfl (Nat.le_of_ble_eq_true rfl) dX12_room_14 ⟨Nat.le_refl _, Nat.le_refl _⟩ (fun H locs hP hS => ?_)
    refine lv_if_lt (tgt := 22) hx hb dX12_room_17 (by decide) (fun c10 => ?_) (fun c10 => ?_)
    · rw [if_pos c10] at h
      refine lv_aload_n hx hb dX12_room_22 rfl (lv_at hl 0 rfl) ?_
      refine lv_iconst (v := (-1)) hx hb dX12_room_23 (by decide) ?_
      refine lv_iconst (v := (-1)) hx hb dX12_room_24 (by decide) ?_
      obtain ⟨r12, z13, h11, h⟩ := bd_s h
      refine x_Vi (Rz := (r12, z13)) (As := [.int (-1), .int (-1)]) (rest := []) ⟨hx, hb, hml, hown, hts⟩ hK hP hS (kd_lt k_172 (by decide)) (cell_12 k_172) rfl (m_X12_servedBut hG   h11) (cwV 2 hts (gV lw_1937 lw_1939 lw_87 lw_125 lw_1940) rfl rfl rfl (by decide +kernel) (rmd_ok (by decide) (by decide))) rfl hl.1 rfl (Nat.le_of_ble_eq_true rfl) dX12_room_25 ⟨Nat.le_refl _, Nat.le_refl _⟩ (fun H locs hP hS => ?_)
      refine lv_istore_n (lv' := [(2, .int r12), (0, .ref (G.2.2 172)), (1, .int v1)]) hx hb dX12_room_28 rfl hl (by decide) rfl (fun ls hl => ?_)
      refine lv_iconst (v := (-1)) hx hb dX12_room_29 (by decide) ?_
      refine lv_istore_n (lv' := [(3, .int (-1)), (2, .int r12), (0, .ref (G.2.2 172)), (1, .int v1)]) hx hb dX12_room_30 rfl hl (by decide) rfl (fun ls hl => ?_)
      refine lv_iconst (v := 0) hx hb dX12_room_31 (by decide) ?_
      refine lv_istore (lv' := [(4, .int 0), (3, .int (-1)), (2, .int r12), (0, .ref (G.2.2 172)), (1, .int v1)]) hx hb dX12_room_32 hl (by decide) rfl (fun ls hl => ?_)
      exact pf_X12_room_34 C   fu v1 r12 (-1) 0 z13  _ _ _ hP hS (lv_sub hl [3, 4, 2, 1, 0] rfl) h
    · rw [if_neg c10] at h
      refine lv_iconst (v := (-1)) hx hb dX12_room_20 (by decide) ?_
      exact x_iret hx hb hr hlocks hK hP hS h dX12_room_21
def fn_X12_best (v1 : Int32) (z : St) : Option (Int32 × St) := bd (fn_X12_isGuest  v1 z) (fun r2 z3 => (if r2 = 0 then some ((-1), z3) else bv (fn_X12_layWorths   z3) (fun z6 => bd (fn_X12_bestFor  v1 0 z6) (fun r8 z9 => some (r8, z9)))))
set_option maxHeartbeats 4000000 in
set_option maxRecDepth 100000 in
theorem m_X12_best {l : Launch} {G : wG} (hG : Ok G) {v1 : Int32} {z : St} {Rz : Int32 × St}  (h : fn_X12_best  v1 z = some Rz) : Met l yX12_best (wsU yX12_best cX12_best 2 (some .int)) (rmd 6) (va_Pc [.ref (G.2.2 172), .int v1] (Pre G z)) (va_Qi (fun r u => (r, u) = Rz) (Pre G) (AW G)) 0 0 (AW G) := by
  refine Met.ofW (cc := cX12_best) (maxL := 2) (ret := (some .int)) (by decide) rfl ?_
  intro p e s m args below meth c s₁ B hml hv
  obtain ⟨rfl, hP, hK⟩ := hv
  have C : CX p s m ([.ref (G.2.2 172), .int v1] : List Value).toArray meth c cX12_best 2 (wsU yX12_best cX12_best 2 (some .int)) RX12 (some .int) G := ⟨B.exec, B.bytes, hml, findClass_of_methodNamed B.named, atoms_spec (ws := (wsU yX12_best cX12_best 2 (some .int))) B.pre, B.returns, B.notSynchronized, hK, hG⟩
  obtain ⟨hx, hb, -, hown, hts, hr, hlocks, -, -⟩ := id C
  have hS : va_S (AW G) s.heap s.heap [] := va_S.rf
  have hl := lv_entry [.ref (G.2.2 172), .int v1] (n := 2) (Nat.le_of_ble_eq_true rfl)
  rw [lg_entry_eq]
  generalize (lg_sl [.ref (G.2.2 172), .int v1] ++ List.replicate (2 - (lg_sl [.ref (G.2.2 172), .int v1]).length) Slot.unset).toArray = ls at hl ⊢
  have hl : lv_has ls 2 [(0, .ref (G.2.2 172)), (1, .int v1)] := hl
  unfold fn_X12_best at h
  refine lv_aload_n hx hb dX12_best_0 rfl (lv_at hl 0 rfl) ?_
  refine lv_iload_n hx hb dX12_best_1 rfl (lv_at hl 1 rfl) ?_
  obtain ⟨r2, z3, h1, h⟩ := bd_s h
  refine x_Vi (Rz := (r2, z3)) (As := [.int v1]) (rest := []) ⟨hx, hb, hml, hown, hts⟩ hK hP hS (kd_lt k_172 (by decide)) (cell_12 k_172) rfl (m_X12_isGuest hG   h1) (cwV 1 hts (gV lw_1849 lw_1851 lw_76 lw_125 lw_1852) rfl rfl rfl (by decide +kernel) (rmd_ok (by decide) (by decide))) rfl hl.1 rfl (Nat.le_of_ble_eq_true rfl) dX12_best_2 ⟨Nat.le_refl _, Nat.le_refl _⟩ (fun H locs hP hS => ?_)
  refine lv_if_ne (tgt := 10) hx hb dX12_best_5 (by decide) (fun c4 => ?_) (fun c4 => ?_)
  · rw [if_neg c4] at h
    refine lv_aload_n hx hb dX12_best_10 rfl (lv_at hl 0 rfl) ?_
    obtain ⟨z6, h5, h⟩ := bv_s h
    refine x_Vv (Rz := z6) (As := []) (rest := []) ⟨hx, hb, hml, hown, hts⟩ hK hP hS (kd_lt k_172 (by decide)) (cell_12 k_172) rfl (m_X12_layWorths hG   h5) (cwV 0 hts (gV lw_1992 lw_1994 lw_93 lw_125 lw_1995) rfl rfl rfl (by decide +kernel) (rmd_ok (by decide) (by decide))) rfl hl.1 rfl (Nat.le_of_ble_eq_true rfl) dX12_best_11 ⟨Nat.le_refl _, Nat.le_refl _⟩ (fun H locs hP hS => ?_)
    refine lv_aload_n hx hb dX12_best_14 rfl (lv_at hl 0 rfl) ?_
    refine lv_iload_n hx hb dX12_best_15 rfl (lv_at hl 1 rfl) ?_
    refine lv_iconst (v := 0) hx hb dX12_best_16 (by decide) ?_
    obtain ⟨r8, z9, h7, h⟩ := bd_s h
    refine x_Vi (Rz := (r8, z9)) (As := [.int v1, .int 0]) (rest := []) ⟨hx, hb, hml, hown, hts⟩ hK hP hS (kd_lt k_172 (by decide)) (cell_12 k_172) rfl (m_X12_bestFor hG   h7) (cwV 2 hts (gV lw_1996 lw_1998 lw_94 lw_125 lw_1999) rfl rfl rfl (by decide +kernel) (rmd_ok (by decide) (by decide))) rfl hl.1 rfl (Nat.le_of_ble_eq_true rfl) dX12_best_17 ⟨Nat.le_refl _, Nat.le_refl _⟩ (fun H locs hP hS => ?_)
    exact x_iret hx hb hr hlocks hK hP hS h dX12_best_20
  · rw [if_pos c4] at h
    refine lv_iconst (v := (-1)) hx hb dX12_best_8 (by decide) ?_
    exact x_iret hx hb hr hlocks hK hP hS h dX12_best_9
def fn_X12_hasCell (v1 : Int32) (v2 : Int32) (v3 : Int32) (v4 : Int32) (z : St) : Option (Int32 × St) := gd (ix ((7 * v1) + 1) 171) (nm (v3 - (z.1 198 (Int32.toNatClampNeg ((7 * v1) + 1)))) (fun v5_2 => gd (ix ((7 * v1) + 2) 171) (nm (v4 - (z.1 198 (Int32.toNatClampNeg ((7 * v1) + 2)))) (fun v6_4 => gd (ix (7 * v1) 171) ((if (z.1 198 (Int32.toNatClampNeg (7 * v1))) = v2 then (if v5_2 < 0 then some (0, z) else gd (ix ((7 * v1) + 3) 171) ((if (z.1 198 (Int32.toNatClampNeg ((7 * v1) + 3))) ≤ v5_2 then some (0, z) else (if v6_4 < 0 then some (0, z) else gd (ix ((7 * v1) + 4) 171) ((if (z.1 198 (Int32.toNatClampNeg ((7 * v1) + 4))) ≤ v6_4 then some (0, z) else some (1, z))))))) else some (0, z)))))))
set_option maxHeartbeats 4000000 in
set_option maxRecDepth 100000 in
theorem m_X12_hasCell {l : Launch} {G : wG} (hG : Ok G) {v1 : Int32} {v2 : Int32} {v3 : Int32} {v4 : Int32} {z : St} {Rz : Int32 × St}  (h : fn_X12_hasCell  v1 v2 v3 v4 z = some Rz) : Met l yX12_hasCell (wsU yX12_hasCell cX12_hasCell 7 (some .boolean)) (rmd 1) (va_Pc [.ref (G.2.2 172), .int v1, .int v2, .int v3, .int v4] (Pre G z)) (va_Qi (fun r u => (r, u) = Rz) (Pre G) (AW G)) 0 0 (AW G) := by
  refine Met.ofW (cc := cX12_hasCell) (maxL := 7) (ret := (some .boolean)) (by decide) rfl ?_
  intro p e s m args below meth c s₁ B hml hv
  obtain ⟨rfl, hP, hK⟩ := hv
  have C : CX p s m ([.ref (G.2.2 172), .int v1, .int v2, .int v3, .int v4] : List Value).toArray meth c cX12_hasCell 7 (wsU yX12_hasCell cX12_hasCell 7 (some .boolean)) RX12 (some .boolean) G := ⟨B.exec, B.bytes, hml, findClass_of_methodNamed B.named, atoms_spec (ws := (wsU yX12_hasCell cX12_hasCell 7 (some .boolean))) B.pre, B.returns, B.notSynchronized, hK, hG⟩
  obtain ⟨hx, hb, -, hown, hts, hr, hlocks, -, -⟩ := id C
  have hS : va_S (AW G) s.heap s.heap [] := va_S.rf
  have hl := lv_entry [.ref (G.2.2 172), .int v1, .int v2, .int v3, .int v4] (n := 7) (Nat.le_of_ble_eq_true rfl)
  rw [lg_entry_eq]
  generalize (lg_sl [.ref (G.2.2 172), .int v1, .int v2, .int v3, .int v4] ++ List.replicate (7 - (lg_sl [.ref (G.2.2 172), .int v1, .int v2, .int v3, .int v4]).length) Slot.unset).toArray = ls at hl ⊢
  have hl : lv_has ls 7 [(0, .ref (G.2.2 172)), (1, .int v1), (2, .int v2), (3, .int v3), (4, .int v4)] := hl
  unfold fn_X12_hasCell at h
  refine lv_iload_n hx hb dX12_hasCell_0 rfl (lv_at hl 3 rfl) ?_
  refine lv_aload_n hx hb dX12_hasCell_1 rfl (lv_at hl 0 rfl) ?_
  refine ge_12_49 hx hb hts (inU inW_X12) hown hK hP k_172 (hts _ (List.mem_cons_of_mem _ lw_1483)) dX12_hasCell_2 ?_
  refine lv_bipush (v := 7) hx hb dX12_hasCell_5 (by decide) ?_
  refine lv_iload_n hx hb dX12_hasCell_7 rfl (lv_at hl 1 rfl) ?_
  refine lv_imul hx hb dX12_hasCell_8 ?_
  refine lv_iconst (v := 1) hx hb dX12_hasCell_9 (by decide) ?_
  refine lv_iadd hx hb dX12_hasCell_10 ?_
  obtain ⟨g1, h⟩ := gd_s h
  refine xl_14 hx hb hK hP k_198 l_198 (ix_in g1) dX12_hasCell_11 ?_
  refine lv_isub hx hb dX12_hasCell_12 ?_
  obtain ⟨v5_2, e_v5_2, h⟩ := nm_s h
  refine x_top e_v5_2 ?_
  refine lv_istore (lv' := [(5, .int v5_2), (0, .ref (G.2.2 172)), (1, .int v1), (2, .int v2), (3, .int v3), (4, .int v4)]) hx hb dX12_hasCell_13 hl (by decide) rfl (fun ls hl => ?_)
  refine lv_iload hx hb dX12_hasCell_15 (lv_at hl 5 rfl) ?_
  refine lv_aload_n hx hb dX12_hasCell_17 rfl (lv_at hl 1 rfl) ?_
  refine ge_12_49 hx hb hts (inU inW_X12) hown hK hP k_172 (hts _ (List.mem_cons_of_mem _ lw_1483)) dX12_hasCell_18 ?_
  refine lv_bipush (v := 7) hx hb dX12_hasCell_21 (by decide) ?_
  refine lv_iload_n hx hb dX12_hasCell_23 rfl (lv_at hl 2 rfl) ?_
  refine lv_imul hx hb dX12_hasCell_24 ?_
  refine lv_iconst (v := 2) hx hb dX12_hasCell_25 (by decide) ?_
  refine lv_iadd hx hb dX12_hasCell_26 ?_
  obtain ⟨g3, h⟩ := gd_s h
  refine xl_14 hx hb hK hP k_198 l_198 (ix_in g3) dX12_hasCell_27 ?_
  refine lv_isub hx hb dX12_hasCell_28 ?_
  obtain ⟨v6_4, e_v6_4, h⟩ := nm_s h
  refine x_top e_v6_4 ?_
  refine lv_istore (lv' := [(6, .int v6_4), (5, .int v5_2), (0, .ref (G.2.2 172)), (1, .int v1), (2, .int v2), (3, .int v3), (4, .int v4)]) hx hb dX12_hasCell_29 hl (by decide) rfl (fun ls hl => ?_)
  refine lv_aload_n hx hb dX12_hasCell_31 rfl (lv_at hl 2 rfl) ?_
  refine ge_12_49 hx hb hts (inU inW_X12) hown hK hP k_172 (hts _ (List.mem_cons_of_mem _ lw_1483)) dX12_hasCell_32 ?_
  refine lv_bipush (v := 7) hx hb dX12_hasCell_35 (by decide) ?_
  refine lv_iload_n hx hb dX12_hasCell_37 rfl (lv_at hl 3 rfl) ?_
  refine lv_imul hx hb dX12_hasCell_38 ?_
  obtain ⟨g5, h⟩ := gd_s h
  refine xl_14 hx hb hK hP k_198 l_198 (ix_in g5) dX12_hasCell_39 ?_
  refine lv_iload_n hx hb dX12_hasCell_40 rfl (lv_at hl 4 rfl) ?_
  refine lv_icmp_ne (tgt := 90) hx hb dX12_hasCell_41 (by decide) (fun c6 => ?_) (fun c6 => ?_)
  · rw [if_neg c6] at h
    refine lv_iconst (v := 0) hx hb dX12_hasCell_90 (by decide) ?_
    exact x_zret hx hb hr hlocks hK hP hS rfl h dX12_hasCell_91
  · rw [if_pos c6] at h
    refine lv_iload hx hb dX12_hasCell_44 (lv_at hl 1 rfl) ?_
    refine lv_if_lt (tgt := 90) hx hb dX12_hasCell_46 (by decide) (fun c7 => ?_) (fun c7 => ?_)
    · rw [if_pos c7] at h
      refine lv_iconst (v := 0) hx hb dX12_hasCell_90 (by decide) ?_
      exact x_zret hx hb hr hlocks hK hP hS rfl h dX12_hasCell_91
    · rw [if_neg c7] at h
      refine lv_iload hx hb dX12_hasCell_49 (lv_at hl 1 rfl) ?_
      refine lv_aload_n hx hb dX12_hasCell_51 rfl (lv_at hl 2 rfl) ?_
      refine ge_12_49 hx hb hts (inU inW_X12) hown hK hP k_172 (hts _ (List.mem_cons_of_mem _ lw_1483)) dX12_hasCell_52 ?_
      refine lv_bipush (v := 7) hx hb dX12_hasCell_55 (by decide) ?_
      refine lv_iload_n hx hb dX12_hasCell_57 rfl (lv_at hl 3 rfl) ?_
      refine lv_imul hx hb dX12_hasCell_58 ?_
      refine lv_iconst (v := 3) hx hb dX12_hasCell_59 (by decide) ?_
      refine lv_iadd hx hb dX12_hasCell_60 ?_
      obtain ⟨g8, h⟩ := gd_s h
      refine xl_14 hx hb hK hP k_198 l_198 (ix_in g8) dX12_hasCell_61 ?_
      refine lv_icmp_ge (tgt := 90) hx hb dX12_hasCell_62 (by decide) (fun c9 => ?_) (fun c9 => ?_)
      · rw [if_pos c9] at h
        refine lv_iconst (v := 0) hx hb dX12_hasCell_90 (by decide) ?_
        exact x_zret hx hb hr hlocks hK hP hS rfl h dX12_hasCell_91
      · rw [if_neg c9] at h
        refine lv_iload hx hb dX12_hasCell_65 (lv_at hl 0 rfl) ?_
        refine lv_if_lt (tgt := 90) hx hb dX12_hasCell_67 (by decide) (fun c10 => ?_) (fun c10 => ?_)
        · rw [if_pos c10] at h
          refine lv_iconst (v := 0) hx hb dX12_hasCell_90 (by decide) ?_
          exact x_zret hx hb hr hlocks hK hP hS rfl h dX12_hasCell_91
        · rw [if_neg c10] at h
          refine lv_iload hx hb dX12_hasCell_70 (lv_at hl 0 rfl) ?_
          refine lv_aload_n hx hb dX12_hasCell_72 rfl (lv_at hl 2 rfl) ?_
          refine ge_12_49 hx hb hts (inU inW_X12) hown hK hP k_172 (hts _ (List.mem_cons_of_mem _ lw_1483)) dX12_hasCell_73 ?_
          refine lv_bipush (v := 7) hx hb dX12_hasCell_76 (by decide) ?_
          refine lv_iload_n hx hb dX12_hasCell_78 rfl (lv_at hl 3 rfl) ?_
          refine lv_imul hx hb dX12_hasCell_79 ?_
          refine lv_iconst (v := 4) hx hb dX12_hasCell_80 (by decide) ?_
          refine lv_iadd hx hb dX12_hasCell_81 ?_
          obtain ⟨g11, h⟩ := gd_s h
          refine xl_14 hx hb hK hP k_198 l_198 (ix_in g11) dX12_hasCell_82 ?_
          refine lv_icmp_ge (tgt := 90) hx hb dX12_hasCell_83 (by decide) (fun c12 => ?_) (fun c12 => ?_)
          · rw [if_pos c12] at h
            refine lv_iconst (v := 0) hx hb dX12_hasCell_90 (by decide) ?_
            exact x_zret hx hb hr hlocks hK hP hS rfl h dX12_hasCell_91
          · rw [if_neg c12] at h
            refine lv_iconst (v := 1) hx hb dX12_hasCell_86 (by decide) ?_
            refine lv_goto (tgt := 91) hx hb dX12_hasCell_87 (by decide) ?_
            exact x_zret hx hb hr hlocks hK hP hS rfl h dX12_hasCell_91
def fn_X12_where_81 (k52 : Int32 → Int32 → Int32 → Int32 → Int32 → St → Option (Int32 × St)) (v1 : Int32) (v2 : Int32) (v3 : Int32) (v4 : Int32) (v5 : Int32) (z : St) : Option (Int32 × St) := k52 v1 v2 v3 v4 (v5 + 1) z
set_option maxHeartbeats 4000000 in
set_option maxRecDepth 100000 in
theorem pf_X12_where_81 {p : Program} {l : Launch} {e : Env} {s : State} {m : MethodId} {args : Array Value} {below : List Frame} {meth : Method} {c : Code} {G : wG} (C : CX p s m args meth c cX12_where 6 (wsU yX12_where cX12_where 6 (some .int)) RX12 (some .int) G) {Rz : Int32 × St} {k52 : Int32 → Int32 → Int32 → Int32 → Int32 → St → Option (Int32 × St)} (hk_52 : ∀ (v1 : Int32) (v2 : Int32) (v3 : Int32) (v4 : Int32) (v5 : Int32) (z : St)  (H : Heap) (locs : List Loc) (ls : Array Slot), WP G z H → va_S (AW G) s.heap H locs → lv_has ls 6 [(0, .ref (G.2.2 172)), (1, .int v1), (2, .int v2), (3, .int v3), (4, .int v4), (5, .int v5)] → k52 v1 v2 v3 v4 v5 z = some Rz → W p l e (rmd 3) s m args below meth c H locs 0 0 (QI below args s G Rz) (F0 m 52 ls [])) (v1 : Int32) (v2 : Int32) (v3 : Int32) (v4 : Int32) (v5 : Int32) (z : St)  {H : Heap} {locs : List Loc} {ls : Array Slot} (hP : WP G z H) (hS : va_S (AW G) s.heap H locs) (hl : lv_has ls 6 [(0, .ref (G.2.2 172)), (1, .int v1), (2, .int v2), (3, .int v3), (4, .int v4), (5, .int v5)]) (h : fn_X12_where_81  k52 v1 v2 v3 v4 v5 z = some Rz) : W p l e (rmd 3) s m args below meth c H locs 0 0 (QI below args s G Rz) (F0 m 81 ls []) := by
  obtain ⟨hx, hb, hml, hown, hts, hr, hlocks, hK, hG⟩ := id C
  unfold fn_X12_where_81 at h
  refine lv_iinc (v := (v5 + 1)) (lv' := [(5, .int (v5 + 1)), (0, .ref (G.2.2 172)), (1, .int v1), (2, .int v2), (3, .int v3), (4, .int v4)]) hx hb dX12_where_81 hl (k := 5) rfl rfl (by decide) rfl (fun ls hl => ?_)
  refine lv_goto (tgt := 52) hx hb dX12_where_84 (by decide) ?_
  exact hk_52 v1 v2 v3 v4 (v5 + 1) z  _ _ _ hP hS (lv_sub hl [1, 2, 3, 4, 5, 0] rfl) h
def fn_X12_where_52 : Nat → Int32 → Int32 → Int32 → Int32 → Int32 → St → Option (Int32 × St)
  | 0, _, _, _, _, _, _ => none
  | n + 1, v1, v2, v3, v4, v5, z => (if (z.1 198 (Int32.toNatClampNeg 168)) ≤ v5 then some (v4, z) else bd (fn_X12_hasCell  v5 v1 v2 v3 z) (fun r3 z4 => (if r3 = 0 then fn_X12_where_81  (fn_X12_where_52   n) v1 v2 v3 v4 v5 z4 else fn_X12_where_81  (fn_X12_where_52   n) v1 v2 v3 v5 v5 z4)))
set_option maxHeartbeats 4000000 in
set_option maxRecDepth 100000 in
theorem pf_X12_where_52 {p : Program} {l : Launch} {e : Env} {s : State} {m : MethodId} {args : Array Value} {below : List Frame} {meth : Method} {c : Code} {G : wG} (C : CX p s m args meth c cX12_where 6 (wsU yX12_where cX12_where 6 (some .int)) RX12 (some .int) G) {Rz : Int32 × St} : ∀ (n : Nat) (v1 : Int32) (v2 : Int32) (v3 : Int32) (v4 : Int32) (v5 : Int32) (z : St)  (H : Heap) (locs : List Loc) (ls : Array Slot), WP G z H → va_S (AW G) s.heap H locs → lv_has ls 6 [(0, .ref (G.2.2 172)), (1, .int v1), (2, .int v2), (3, .int v3), (4, .int v4), (5, .int v5)] → fn_X12_where_52   n v1 v2 v3 v4 v5 z = some Rz → W p l e (rmd 3) s m args below meth c H locs 0 0 (QI below args s G Rz) (F0 m 52 ls []) := by
  obtain ⟨hx, hb, hml, hown, hts, hr, hlocks, hK, hG⟩ := id C
  intro n
  induction n with
  | zero => intro v1 v2 v3 v4 v5 z  H locs ls hP hS hl h; cases h
  | succ n ih =>
    intro v1 v2 v3 v4 v5 z  H locs ls hP hS hl h
    rw [fn_X12_where_52] at h
    refine lv_iload hx hb dX12_where_52 (lv_at hl 5 rfl) ?_
    refine lv_aload_n hx hb dX12_where_54 rfl (lv_at hl 0 rfl) ?_
    refine ge_12_49 hx hb hts (inU inW_X12) hown hK hP k_172 (hts _ (List.mem_cons_of_mem _ lw_1483)) dX12_where_55 ?_
    refine lv_sipush (v := 168) hx hb dX12_where_58 (by decide) ?_
    refine xl_14 hx hb hK hP k_198 l_198 (ix_in (by decide)) dX12_where_61 ?_
    refine lv_icmp_ge (tgt := 87) hx hb dX12_where_62 (by decide) (fun c1 => ?_) (fun c1 => ?_)
    · rw [if_pos c1] at h
      refine lv_iload hx hb dX12_where_87 (lv_at hl 4 rfl) ?_
      exact x_iret hx hb hr hlocks hK hP hS h dX12_where_89
    · rw [if_neg c1] at h
      refine lv_aload_n hx hb dX12_where_65 rfl (lv_at hl 0 rfl) ?_
      refine lv_iload hx hb dX12_where_66 (lv_at hl 5 rfl) ?_
      refine lv_iload_n hx hb dX12_where_68 rfl (lv_at hl 1 rfl) ?_
      refine lv_iload_n hx hb dX12_where_69 rfl (lv_at hl 2 rfl) ?_
      refine lv_iload_n hx hb dX12_where_70 rfl (lv_at hl 3 rfl) ?_
      obtain ⟨r3, z4, h2, h⟩ := bd_s h
      refine x_Vi (Rz := (r3, z4)) (As := [.int v5, .int v1, .int v2, .int v3]) (rest := []) ⟨hx, hb, hml, hown, hts⟩ hK hP hS (kd_lt k_172 (by decide)) (cell_12 k_172) rfl (m_X12_hasCell hG   h2) (cwV 4 hts (gV lw_2052 lw_2054 lw_101 lw_125 lw_2055) rfl rfl rfl (by decide +kernel) (rmd_ok (by decide) (by decide))) rfl hl.1 rfl (Nat.le_of_ble_eq_true rfl) dX12_where_71 ⟨Nat.le_refl _, Nat.le_refl _⟩ (fun H locs hP hS => ?_)
      refine lv_if_eq (tgt := 81) hx hb dX12_where_74 (by decide) (fun c5 => ?_) (fun c5 => ?_)
      · rw [if_pos c5] at h
        exact pf_X12_where_81 C  ih v1 v2 v3 v4 v5 z4  hP hS (lv_sub hl [0, 1, 2, 3, 4, 5] rfl) h
      · rw [if_neg c5] at h
        refine lv_iload hx hb dX12_where_77 (lv_at hl 5 rfl) ?_
        refine lv_istore (lv' := [(4, .int v5), (0, .ref (G.2.2 172)), (1, .int v1), (2, .int v2), (3, .int v3), (5, .int v5)]) hx hb dX12_where_79 hl (by decide) rfl (fun ls hl => ?_)
        exact pf_X12_where_81 C  ih v1 v2 v3 v5 v5 z4  hP hS (lv_sub hl [1, 2, 3, 4, 0, 5] rfl) h
def fn_X12_where (v1 : Int32) (v2 : Int32) (v3 : Int32) (z : St) : Option (Int32 × St) := bd (fn_X12_isTier  v1 z) (fun r2 z3 => (if r2 = 0 then some ((-1), z3) else gd (ix v1 3) (bd (fn_X12_isIn  v2 0 ((z3.1 188 (Int32.toNatClampNeg v1)) - 1) z3) (fun r7 z8 => (if r7 = 0 then some ((-1), z8) else gd (ix v1 3) (bd (fn_X12_isIn  v3 0 ((z8.1 189 (Int32.toNatClampNeg v1)) - 1) z8) (fun r12 z13 => (if r12 = 0 then some ((-1), z13) else bv (fn_X12_load   z13) (fun z16 => fn_X12_where_52   fu v1 v2 v3 (-1) 0 z16)))))))))
set_option maxHeartbeats 4000000 in
set_option maxRecDepth 100000 in
theorem m_X12_where {l : Launch} {G : wG} (hG : Ok G) {v1 : Int32} {v2 : Int32} {v3 : Int32} {z : St} {Rz : Int32 × St}  (h : fn_X12_where  v1 v2 v3 z = some Rz) : Met l yX12_where (wsU yX12_where cX12_where 6 (some .int)) (rmd 3) (va_Pc [.ref (G.2.2 172), .int v1, .int v2, .int v3] (Pre G z)) (va_Qi (fun r u => (r, u) = Rz) (Pre G) (AW G)) 0 0 (AW G) := by
  refine Met.ofW (cc := cX12_where) (maxL := 6) (ret := (some .int)) (by decide) rfl ?_
  intro p e s m args below meth c s₁ B hml hv
  obtain ⟨rfl, hP, hK⟩ := hv
  have C : CX p s m ([.ref (G.2.2 172), .int v1, .int v2, .int v3] : List Value).toArray meth c cX12_where 6 (wsU yX12_where cX12_where 6 (some .int)) RX12 (some .int) G := ⟨B.exec, B.bytes, hml, findClass_of_methodNamed B.named, atoms_spec (ws := (wsU yX12_where cX12_where 6 (some .int))) B.pre, B.returns, B.notSynchronized, hK, hG⟩
  obtain ⟨hx, hb, -, hown, hts, hr, hlocks, -, -⟩ := id C
  have hS : va_S (AW G) s.heap s.heap [] := va_S.rf
  have hl := lv_entry [.ref (G.2.2 172), .int v1, .int v2, .int v3] (n := 6) (Nat.le_of_ble_eq_true rfl)
  rw [lg_entry_eq]
  generalize (lg_sl [.ref (G.2.2 172), .int v1, .int v2, .int v3] ++ List.replicate (6 - (lg_sl [.ref (G.2.2 172), .int v1, .int v2, .int v3]).length) Slot.unset).toArray = ls at hl ⊢
  have hl : lv_has ls 6 [(0, .ref (G.2.2 172)), (1, .int v1), (2, .int v2), (3, .int v3)] := hl
  unfold fn_X12_where at h
  refine lv_aload_n hx hb dX12_where_0 rfl (lv_at hl 0 rfl) ?_
  refine lv_iload_n hx hb dX12_where_1 rfl (lv_at hl 1 rfl) ?_
  obtain ⟨r2, z3, h1, h⟩ := bd_s h
  refine x_Vi (Rz := (r2, z3)) (As := [.int v1]) (rest := []) ⟨hx, hb, hml, hown, hts⟩ hK hP hS (kd_lt k_172 (by decide)) (cell_12 k_172) rfl (m_X12_isTier hG   h1) (cwV 1 hts (gV lw_2016 lw_2018 lw_97 lw_125 lw_2019) rfl rfl rfl (by decide +kernel) (rmd_ok (by decide) (by decide))) rfl hl.1 rfl (Nat.le_of_ble_eq_true rfl) dX12_where_2 ⟨Nat.le_refl _, Nat.le_refl _⟩ (fun H locs hP hS => ?_)
  refine lv_if_eq (tgt := 40) hx hb dX12_where_5 (by decide) (fun c4 => ?_) (fun c4 => ?_)
  · rw [if_pos c4] at h
    refine lv_iconst (v := (-1)) hx hb dX12_where_40 (by decide) ?_
    exact x_iret hx hb hr hlocks hK hP hS h dX12_where_41
  · rw [if_neg c4] at h
    refine lv_iload_n hx hb dX12_where_8 rfl (lv_at hl 2 rfl) ?_
    refine lv_iconst (v := 0) hx hb dX12_where_9 (by decide) ?_
    refine lv_aload_n hx hb dX12_where_10 rfl (lv_at hl 0 rfl) ?_
    refine ge_12_30 hx hb hts (inU inW_X12) hown hK hP k_172 (hts _ (List.mem_cons_of_mem _ lw_1464)) dX12_where_11 ?_
    refine lv_iload_n hx hb dX12_where_14 rfl (lv_at hl 1 rfl) ?_
    obtain ⟨g5, h⟩ := gd_s h
    refine xl_14 hx hb hK hP k_188 l_188 (ix_in g5) dX12_where_15 ?_
    refine lv_iconst (v := 1) hx hb dX12_where_16 (by decide) ?_
    refine lv_isub hx hb dX12_where_17 ?_
    obtain ⟨r7, z8, h6, h⟩ := bd_s h
    refine x_Si (Rz := (r7, z8)) (As := [.int v2, .int 0, .int ((z3.1 188 (Int32.toNatClampNeg v1)) - 1)]) (rest := []) ⟨hx, hb, hml, hown, hts⟩ hK hP hS (m_X12_isIn hG   h6) (va_cwS 3 hts (gS lw_1827 lw_1828 lw_125 lw_1829) rfl rfl rfl (by decide +kernel) (rmd_ok (by decide) (by decide))) rfl hl.1 rfl (Nat.le_of_ble_eq_true rfl) dX12_where_18 ⟨Nat.le_refl _, Nat.le_refl _⟩ (fun H locs hP hS => ?_)
    refine lv_if_eq (tgt := 40) hx hb dX12_where_21 (by decide) (fun c9 => ?_) (fun c9 => ?_)
    · rw [if_pos c9] at h
      refine lv_iconst (v := (-1)) hx hb dX12_where_40 (by decide) ?_
      exact x_iret hx hb hr hlocks hK hP hS h dX12_where_41
    · rw [if_neg c9] at h
      refine lv_iload_n hx hb dX12_where_24 rfl (lv_at hl 3 rfl) ?_
      refine lv_iconst (v := 0) hx hb dX12_where_25 (by decide) ?_
      refine lv_aload_n hx hb dX12_where_26 rfl (lv_at hl 0 rfl) ?_
      refine ge_12_31 hx hb hts (inU inW_X12) hown hK hP k_172 (hts _ (List.mem_cons_of_mem _ lw_1465)) dX12_where_27 ?_
      refine lv_iload_n hx hb dX12_where_30 rfl (lv_at hl 1 rfl) ?_
      obtain ⟨g10, h⟩ := gd_s h
      refine xl_14 hx hb hK hP k_189 l_189 (ix_in g10) dX12_where_31 ?_
      refine lv_iconst (v := 1) hx hb dX12_where_32 (by decide) ?_
      refine lv_isub hx hb dX12_where_33 ?_
      obtain ⟨r12, z13, h11, h⟩ := bd_s h
      refine x_Si (Rz := (r12, z13)) (As := [.int v3, .int 0, .int ((z8.1 189 (Int32.toNatClampNeg v1)) - 1)]) (rest := []) ⟨hx, hb, hml, hown, hts⟩ hK hP hS (m_X12_isIn hG   h11) (va_cwS 3 hts (gS lw_1827 lw_1828 lw_125 lw_1829) rfl rfl rfl (by decide +kernel) (rmd_ok (by decide) (by decide))) rfl hl.1 rfl (Nat.le_of_ble_eq_true rfl) dX12_where_34 ⟨Nat.le_refl _, Nat.le_refl _⟩ (fun H locs hP hS => ?_)
      refine lv_if_ne (tgt := 42) hx hb dX12_where_37 (by decide) (fun c14 => ?_) (fun c14 => ?_)
      · rw [if_neg c14] at h
        refine lv_aload_n hx hb dX12_where_42 rfl (lv_at hl 0 rfl) ?_
        obtain ⟨z16, h15, h⟩ := bv_s h
        refine x_Vv (Rz := z16) (As := []) (rest := []) ⟨hx, hb, hml, hown, hts⟩ hK hP hS (kd_lt k_172 (by decide)) (cell_12 k_172) rfl (m_X12_load hG   h15) (cwV 0 hts (gV lw_1830 lw_1832 lw_73 lw_125 lw_1833) rfl rfl rfl (by decide +kernel) (rmd_ok (by decide) (by decide))) rfl hl.1 rfl (Nat.le_of_ble_eq_true rfl) dX12_where_43 ⟨Nat.le_refl _, Nat.le_refl _⟩ (fun H locs hP hS => ?_)
        refine lv_iconst (v := (-1)) hx hb dX12_where_46 (by decide) ?_
        refine lv_istore (lv' := [(4, .int (-1)), (0, .ref (G.2.2 172)), (1, .int v1), (2, .int v2), (3, .int v3)]) hx hb dX12_where_47 hl (by decide) rfl (fun ls hl => ?_)
        refine lv_iconst (v := 0) hx hb dX12_where_49 (by decide) ?_
        refine lv_istore (lv' := [(5, .int 0), (4, .int (-1)), (0, .ref (G.2.2 172)), (1, .int v1), (2, .int v2), (3, .int v3)]) hx hb dX12_where_50 hl (by decide) rfl (fun ls hl => ?_)
        exact pf_X12_where_52 C   fu v1 v2 v3 (-1) 0 z16  _ _ _ hP hS (lv_sub hl [2, 3, 4, 5, 1, 0] rfl) h
      · rw [if_pos c14] at h
        refine lv_iconst (v := (-1)) hx hb dX12_where_40 (by decide) ?_
        exact x_iret hx hb hr hlocks hK hP hS h dX12_where_41
def fn_X12_hungry_38 (k8 : Int32 → Int32 → St → Option (Int32 × St)) (v2 : Int32) (tv0 : Int32) (tv1 : Int32) (z : St) : Option (Int32 × St) := bd (fn_X12_truth  tv1 z) (fun r2 z3 => nm (tv0 ||| (r2 <<< (v2 &&& 31))) (fun v1_4 => k8 v1_4 (v2 + 1) z3))
set_option maxHeartbeats 4000000 in
set_option maxRecDepth 100000 in
theorem pf_X12_hungry_38 {p : Program} {l : Launch} {e : Env} {s : State} {m : MethodId} {args : Array Value} {below : List Frame} {meth : Method} {c : Code} {G : wG} (C : CX p s m args meth c cX12_hungry 3 (wsU yX12_hungry cX12_hungry 3 (some .int)) RX12 (some .int) G) {Rz : Int32 × St} {k8 : Int32 → Int32 → St → Option (Int32 × St)} (hk_8 : ∀ (v1 : Int32) (v2 : Int32) (z : St)  (H : Heap) (locs : List Loc) (ls : Array Slot), WP G z H → va_S (AW G) s.heap H locs → lv_has ls 3 [(0, .ref (G.2.2 172)), (1, .int v1), (2, .int v2)] → k8 v1 v2 z = some Rz → W p l e (rmd 4) s m args below meth c H locs 0 0 (QI below args s G Rz) (F0 m 8 ls [])) (v2 : Int32) (tv0 : Int32) (tv1 : Int32) (z : St)  {H : Heap} {locs : List Loc} {ls : Array Slot} (hP : WP G z H) (hS : va_S (AW G) s.heap H locs) (hl : lv_has ls 3 [(0, .ref (G.2.2 172)), (2, .int v2)]) (h : fn_X12_hungry_38  k8 v2 tv0 tv1 z = some Rz) : W p l e (rmd 4) s m args below meth c H locs 0 0 (QI below args s G Rz) (F0 m 38 ls [.int tv1, .int tv0]) := by
  obtain ⟨hx, hb, hml, hown, hts, hr, hlocks, hK, hG⟩ := id C
  unfold fn_X12_hungry_38 at h
  obtain ⟨r2, z3, h1, h⟩ := bd_s h
  refine x_Si (Rz := (r2, z3)) (As := [.int tv1]) (rest := [.int tv0]) ⟨hx, hb, hml, hown, hts⟩ hK hP hS (m_X12_truth hG   h1) (va_cwS 1 hts (gS lw_1842 lw_1843 lw_125 lw_1844) rfl rfl rfl (by decide +kernel) (rmd_ok (by decide) (by decide))) rfl hl.1 rfl (Nat.le_of_ble_eq_true rfl) dX12_hungry_38 ⟨Nat.le_refl _, Nat.le_refl _⟩ (fun H locs hP hS => ?_)
  refine lv_iload_n hx hb dX12_hungry_41 rfl (lv_at hl 1 rfl) ?_
  refine lv_ishl hx hb dX12_hungry_42 ?_
  refine lv_ior hx hb dX12_hungry_43 ?_
  obtain ⟨v1_4, e_v1_4, h⟩ := nm_s h
  refine x_top e_v1_4 ?_
  refine lv_istore_n (lv' := [(1, .int v1_4), (0, .ref (G.2.2 172)), (2, .int v2)]) hx hb dX12_hungry_44 rfl hl (by decide) rfl (fun ls hl => ?_)
  refine lv_iinc (v := (v2 + 1)) (lv' := [(2, .int (v2 + 1)), (1, .int v1_4), (0, .ref (G.2.2 172))]) hx hb dX12_hungry_45 hl (k := 2) rfl rfl (by decide) rfl (fun ls hl => ?_)
  refine lv_goto (tgt := 8) hx hb dX12_hungry_48 (by decide) ?_
  exact hk_8 v1_4 (v2 + 1) z3  _ _ _ hP hS (lv_sub hl [2, 1, 0] rfl) h
def fn_X12_hungry_37 (k8 : Int32 → Int32 → St → Option (Int32 × St)) (v2 : Int32) (tv0 : Int32) (z : St) : Option (Int32 × St) := fn_X12_hungry_38  k8 v2 tv0 0 z
set_option maxHeartbeats 4000000 in
set_option maxRecDepth 100000 in
theorem pf_X12_hungry_37 {p : Program} {l : Launch} {e : Env} {s : State} {m : MethodId} {args : Array Value} {below : List Frame} {meth : Method} {c : Code} {G : wG} (C : CX p s m args meth c cX12_hungry 3 (wsU yX12_hungry cX12_hungry 3 (some .int)) RX12 (some .int) G) {Rz : Int32 × St} {k8 : Int32 → Int32 → St → Option (Int32 × St)} (hk_8 : ∀ (v1 : Int32) (v2 : Int32) (z : St)  (H : Heap) (locs : List Loc) (ls : Array Slot), WP G z H → va_S (AW G) s.heap H locs → lv_has ls 3 [(0, .ref (G.2.2 172)), (1, .int v1), (2, .int v2)] → k8 v1 v2 z = some Rz → W p l e (rmd 4) s m args below meth c H locs 0 0 (QI below args s G Rz) (F0 m 8 ls [])) (v2 : Int32) (tv0 : Int32) (z : St)  {H : Heap} {locs : List Loc} {ls : Array Slot} (hP : WP G z H) (hS : va_S (AW G) s.heap H locs) (hl : lv_has ls 3 [(0, .ref (G.2.2 172)), (2, .int v2)]) (h : fn_X12_hungry_37  k8 v2 tv0 z = some Rz) : W p l e (rmd 4) s m args below meth c H locs 0 0 (QI below args s G Rz) (F0 m 37 ls [.int tv0]) := by
  obtain ⟨hx, hb, hml, hown, hts, hr, hlocks, hK, hG⟩ := id C
  unfold fn_X12_hungry_37 at h
  refine lv_iconst (v := 0) hx hb dX12_hungry_37 (by decide) ?_
  exact pf_X12_hungry_38 C  hk_8 v2 tv0 0 z  hP hS (lv_sub hl [0, 1] rfl) h
def fn_X12_hungry_8 : Nat → Int32 → Int32 → St → Option (Int32 × St)
  | 0, _, _, _ => none
  | n + 1, v1, v2, z => (if (z.1 172 44) ≤ v2 then some (v1, z) else bd (fn_X12_pieceOf  v2 z) (fun r3 z4 => (if 0 ≤ r3 then fn_X12_hungry_37  (fn_X12_hungry_8   n) v2 v1 z4 else bd (fn_X12_feeds  v2 z4) (fun r7 z8 => (if r7 = 0 then fn_X12_hungry_38  (fn_X12_hungry_8   n) v2 v1 1 z8 else fn_X12_hungry_37  (fn_X12_hungry_8   n) v2 v1 z8)))))
set_option maxHeartbeats 4000000 in
set_option maxRecDepth 100000 in
theorem pf_X12_hungry_8 {p : Program} {l : Launch} {e : Env} {s : State} {m : MethodId} {args : Array Value} {below : List Frame} {meth : Method} {c : Code} {G : wG} (C : CX p s m args meth c cX12_hungry 3 (wsU yX12_hungry cX12_hungry 3 (some .int)) RX12 (some .int) G) {Rz : Int32 × St} : ∀ (n : Nat) (v1 : Int32) (v2 : Int32) (z : St)  (H : Heap) (locs : List Loc) (ls : Array Slot), WP G z H → va_S (AW G) s.heap H locs → lv_has ls 3 [(0, .ref (G.2.2 172)), (1, .int v1), (2, .int v2)] → fn_X12_hungry_8   n v1 v2 z = some Rz → W p l e (rmd 4) s m args below meth c H locs 0 0 (QI below args s G Rz) (F0 m 8 ls []) := by
  obtain ⟨hx, hb, hml, hown, hts, hr, hlocks, hK, hG⟩ := id C
  intro n
  induction n with
  | zero => intro v1 v2 z  H locs ls hP hS hl h; cases h
  | succ n ih =>
    intro v1 v2 z  H locs ls hP hS hl h
    rw [fn_X12_hungry_8] at h
    refine lv_iload_n hx hb dX12_hungry_8 rfl (lv_at hl 2 rfl) ?_
    refine lv_aload_n hx hb dX12_hungry_9 rfl (lv_at hl 0 rfl) ?_
    refine ge_12_44 hx hb hts (inU inW_X12) hown hK hP k_172 (hts _ (List.mem_cons_of_mem _ lw_1478)) dX12_hungry_10 ?_
    refine lv_icmp_ge (tgt := 51) hx hb dX12_hungry_13 (by decide) (fun c1 => ?_) (fun c1 => ?_)
    · rw [if_pos c1] at h
      refine lv_iload_n hx hb dX12_hungry_51 rfl (lv_at hl 1 rfl) ?_
      exact x_iret hx hb hr hlocks hK hP hS h dX12_hungry_52
    · rw [if_neg c1] at h
      refine lv_iload_n hx hb dX12_hungry_16 rfl (lv_at hl 1 rfl) ?_
      refine lv_aload_n hx hb dX12_hungry_17 rfl (lv_at hl 0 rfl) ?_
      refine lv_iload_n hx hb dX12_hungry_18 rfl (lv_at hl 2 rfl) ?_
      obtain ⟨r3, z4, h2, h⟩ := bd_s h
      refine x_Vi (Rz := (r3, z4)) (As := [.int v2]) (rest := [.int v1]) ⟨hx, hb, hml, hown, hts⟩ hK hP hS (kd_lt k_172 (by decide)) (cell_12 k_172) rfl (m_X12_pieceOf hG   h2) (cwV 1 hts (gV lw_1853 lw_1855 lw_77 lw_125 lw_1856) rfl rfl rfl (by decide +kernel) (rmd_ok (by decide) (by decide))) rfl hl.1 rfl (Nat.le_of_ble_eq_true rfl) dX12_hungry_19 ⟨Nat.le_refl _, Nat.le_refl _⟩ (fun H locs hP hS => ?_)
      refine lv_if_ge (tgt := 37) hx hb dX12_hungry_22 (by decide) (fun c5 => ?_) (fun c5 => ?_)
      · rw [if_pos c5] at h
        exact pf_X12_hungry_37 C  ih v2 v1 z4  hP hS (lv_sub hl [0, 2] rfl) h
      · rw [if_neg c5] at h
        refine lv_aload_n hx hb dX12_hungry_25 rfl (lv_at hl 0 rfl) ?_
        refine lv_iload_n hx hb dX12_hungry_26 rfl (lv_at hl 2 rfl) ?_
        obtain ⟨r7, z8, h6, h⟩ := bd_s h
        refine x_Vi (Rz := (r7, z8)) (As := [.int v2]) (rest := [.int v1]) ⟨hx, hb, hml, hown, hts⟩ hK hP hS (kd_lt k_172 (by decide)) (cell_12 k_172) rfl (m_X12_feeds hG   h6) (cwV 1 hts (gV lw_2060 lw_1930 lw_1931 lw_125 lw_1932) rfl rfl rfl (by decide +kernel) (rmd_ok (by decide) (by decide))) rfl hl.1 rfl (Nat.le_of_ble_eq_true rfl) dX12_hungry_27 ⟨Nat.le_refl _, Nat.le_refl _⟩ (fun H locs hP hS => ?_)
        refine lv_if_ne (tgt := 37) hx hb dX12_hungry_30 (by decide) (fun c9 => ?_) (fun c9 => ?_)
        · rw [if_neg c9] at h
          exact pf_X12_hungry_37 C  ih v2 v1 z8  hP hS (lv_sub hl [0, 2] rfl) h
        · rw [if_pos c9] at h
          refine lv_iconst (v := 1) hx hb dX12_hungry_33 (by decide) ?_
          refine lv_goto (tgt := 38) hx hb dX12_hungry_34 (by decide) ?_
          exact pf_X12_hungry_38 C  ih v2 v1 1 z8  hP hS (lv_sub hl [0, 2] rfl) h
def fn_X12_hungry  (z : St) : Option (Int32 × St) := bv (fn_X12_load   z) (fun z2 => fn_X12_hungry_8   fu 0 0 z2)
set_option maxHeartbeats 4000000 in
set_option maxRecDepth 100000 in
theorem m_X12_hungry {l : Launch} {G : wG} (hG : Ok G)  {z : St} {Rz : Int32 × St}  (h : fn_X12_hungry   z = some Rz) : Met l yX12_hungry (wsU yX12_hungry cX12_hungry 3 (some .int)) (rmd 4) (va_Pc [.ref (G.2.2 172)] (Pre G z)) (va_Qi (fun r u => (r, u) = Rz) (Pre G) (AW G)) 0 0 (AW G) := by
  refine Met.ofW (cc := cX12_hungry) (maxL := 3) (ret := (some .int)) (by decide) rfl ?_
  intro p e s m args below meth c s₁ B hml hv
  obtain ⟨rfl, hP, hK⟩ := hv
  have C : CX p s m ([.ref (G.2.2 172)] : List Value).toArray meth c cX12_hungry 3 (wsU yX12_hungry cX12_hungry 3 (some .int)) RX12 (some .int) G := ⟨B.exec, B.bytes, hml, findClass_of_methodNamed B.named, atoms_spec (ws := (wsU yX12_hungry cX12_hungry 3 (some .int))) B.pre, B.returns, B.notSynchronized, hK, hG⟩
  obtain ⟨hx, hb, -, hown, hts, hr, hlocks, -, -⟩ := id C
  have hS : va_S (AW G) s.heap s.heap [] := va_S.rf
  have hl := lv_entry [.ref (G.2.2 172)] (n := 3) (Nat.le_of_ble_eq_true rfl)
  rw [lg_entry_eq]
  generalize (lg_sl [.ref (G.2.2 172)] ++ List.replicate (3 - (lg_sl [.ref (G.2.2 172)]).length) Slot.unset).toArray = ls at hl ⊢
  have hl : lv_has ls 3 [(0, .ref (G.2.2 172))] := hl
  unfold fn_X12_hungry at h
  refine lv_aload_n hx hb dX12_hungry_0 rfl (lv_at hl 0 rfl) ?_
  obtain ⟨z2, h1, h⟩ := bv_s h
  refine x_Vv (Rz := z2) (As := []) (rest := []) ⟨hx, hb, hml, hown, hts⟩ hK hP hS (kd_lt k_172 (by decide)) (cell_12 k_172) rfl (m_X12_load hG   h1) (cwV 0 hts (gV lw_1830 lw_1832 lw_73 lw_125 lw_1833) rfl rfl rfl (by decide +kernel) (rmd_ok (by decide) (by decide))) rfl hl.1 rfl (Nat.le_of_ble_eq_true rfl) dX12_hungry_1 ⟨Nat.le_refl _, Nat.le_refl _⟩ (fun H locs hP hS => ?_)
  refine lv_iconst (v := 0) hx hb dX12_hungry_4 (by decide) ?_
  refine lv_istore_n (lv' := [(1, .int 0), (0, .ref (G.2.2 172))]) hx hb dX12_hungry_5 rfl hl (by decide) rfl (fun ls hl => ?_)
  refine lv_iconst (v := 0) hx hb dX12_hungry_6 (by decide) ?_
  refine lv_istore_n (lv' := [(2, .int 0), (1, .int 0), (0, .ref (G.2.2 172))]) hx hb dX12_hungry_7 rfl hl (by decide) rfl (fun ls hl => ?_)
  exact pf_X12_hungry_8 C   fu 0 0 z2  _ _ _ hP hS (lv_sub hl [2, 1, 0] rfl) h
def fn_X12_law (v1 : Int32) (z : St) : Option (Int32 × St) := bd (fn_X12_isIn  v1 (-99) 99 z) (fun r2 z3 => (if r2 = 0 then some ((-1), z3) else bv (fn_X12_load   z3) (fun z6 => nm (sI z6 172 57 v1) (fun z7 => bd (fn_X12_servedBut  (-1) (-1) z7) (fun r9 z10 => nm (sI z10 172 57 0) (fun z11 => some (r9, z11)))))))
set_option maxHeartbeats 4000000 in
set_option maxRecDepth 100000 in
theorem m_X12_law {l : Launch} {G : wG} (hG : Ok G) {v1 : Int32} {z : St} {Rz : Int32 × St}  (h : fn_X12_law  v1 z = some Rz) : Met l yX12_law (wsU yX12_law cX12_law 3 (some .int)) (rmd 3) (va_Pc [.ref (G.2.2 172), .int v1] (Pre G z)) (va_Qi (fun r u => (r, u) = Rz) (Pre G) (AW G)) 0 0 (AW G) := by
  refine Met.ofW (cc := cX12_law) (maxL := 3) (ret := (some .int)) (by decide) rfl ?_
  intro p e s m args below meth c s₁ B hml hv
  obtain ⟨rfl, hP, hK⟩ := hv
  have C : CX p s m ([.ref (G.2.2 172), .int v1] : List Value).toArray meth c cX12_law 3 (wsU yX12_law cX12_law 3 (some .int)) RX12 (some .int) G := ⟨B.exec, B.bytes, hml, findClass_of_methodNamed B.named, atoms_spec (ws := (wsU yX12_law cX12_law 3 (some .int))) B.pre, B.returns, B.notSynchronized, hK, hG⟩
  obtain ⟨hx, hb, -, hown, hts, hr, hlocks, -, -⟩ := id C
  have hS : va_S (AW G) s.heap s.heap [] := va_S.rf
  have hl := lv_entry [.ref (G.2.2 172), .int v1] (n := 3) (Nat.le_of_ble_eq_true rfl)
  rw [lg_entry_eq]
  generalize (lg_sl [.ref (G.2.2 172), .int v1] ++ List.replicate (3 - (lg_sl [.ref (G.2.2 172), .int v1]).length) Slot.unset).toArray = ls at hl ⊢
  have hl : lv_has ls 3 [(0, .ref (G.2.2 172)), (1, .int v1)] := hl
  unfold fn_X12_law at h
  refine lv_iload_n hx hb dX12_law_0 rfl (lv_at hl 1 rfl) ?_
  refine lv_bipush (v := (-99)) hx hb dX12_law_1 (by decide) ?_
  refine lv_bipush (v := 99) hx hb dX12_law_3 (by decide) ?_
  obtain ⟨r2, z3, h1, h⟩ := bd_s h
  refine x_Si (Rz := (r2, z3)) (As := [.int v1, .int (-99), .int 99]) (rest := []) ⟨hx, hb, hml, hown, hts⟩ hK hP hS (m_X12_isIn hG   h1) (va_cwS 3 hts (gS lw_1827 lw_1828 lw_125 lw_1829) rfl rfl rfl (by decide +kernel) (rmd_ok (by decide) (by decide))) rfl hl.1 rfl (Nat.le_of_ble_eq_true rfl) dX12_law_5 ⟨Nat.le_refl _, Nat.le_refl _⟩ (fun H locs hP hS => ?_)
  refine lv_if_ne (tgt := 13) hx hb dX12_law_8 (by decide) (fun c4 => ?_) (fun c4 => ?_)
  · rw [if_neg c4] at h
    refine lv_aload_n hx hb dX12_law_13 rfl (lv_at hl 0 rfl) ?_
    obtain ⟨z6, h5, h⟩ := bv_s h
    refine x_Vv (Rz := z6) (As := []) (rest := []) ⟨hx, hb, hml, hown, hts⟩ hK hP hS (kd_lt k_172 (by decide)) (cell_12 k_172) rfl (m_X12_load hG   h5) (cwV 0 hts (gV lw_1830 lw_1832 lw_73 lw_125 lw_1833) rfl rfl rfl (by decide +kernel) (rmd_ok (by decide) (by decide))) rfl hl.1 rfl (Nat.le_of_ble_eq_true rfl) dX12_law_14 ⟨Nat.le_refl _, Nat.le_refl _⟩ (fun H locs hP hS => ?_)
    refine lv_aload_n hx hb dX12_law_17 rfl (lv_at hl 0 rfl) ?_
    refine lv_iload_n hx hb dX12_law_18 rfl (lv_at hl 1 rfl) ?_
    obtain ⟨z7, e_z7, h⟩ := nm_s h
    refine pu_12_57 hx hb hts (inU inW_X12) hown hK hG hP hS k_172 (hts _ (List.mem_cons_of_mem _ lw_1491)) dX12_law_19 (fun H locs hP hS => ?_)
    rw [← e_z7] at hP
    refine lv_aload_n hx hb dX12_law_22 rfl (lv_at hl 0 rfl) ?_
    refine lv_iconst (v := (-1)) hx hb dX12_law_23 (by decide) ?_
    refine lv_iconst (v := (-1)) hx hb dX12_law_24 (by decide) ?_
    obtain ⟨r9, z10, h8, h⟩ := bd_s h
    refine x_Vi (Rz := (r9, z10)) (As := [.int (-1), .int (-1)]) (rest := []) ⟨hx, hb, hml, hown, hts⟩ hK hP hS (kd_lt k_172 (by decide)) (cell_12 k_172) rfl (m_X12_servedBut hG   h8) (cwV 2 hts (gV lw_1937 lw_1939 lw_87 lw_125 lw_1940) rfl rfl rfl (by decide +kernel) (rmd_ok (by decide) (by decide))) rfl hl.1 rfl (Nat.le_of_ble_eq_true rfl) dX12_law_25 ⟨Nat.le_refl _, Nat.le_refl _⟩ (fun H locs hP hS => ?_)
    refine lv_istore_n (lv' := [(2, .int r9), (0, .ref (G.2.2 172)), (1, .int v1)]) hx hb dX12_law_28 rfl hl (by decide) rfl (fun ls hl => ?_)
    refine lv_aload_n hx hb dX12_law_29 rfl (lv_at hl 1 rfl) ?_
    refine lv_iconst (v := 0) hx hb dX12_law_30 (by decide) ?_
    obtain ⟨z11, e_z11, h⟩ := nm_s h
    refine pu_12_57 hx hb hts (inU inW_X12) hown hK hG hP hS k_172 (hts _ (List.mem_cons_of_mem _ lw_1491)) dX12_law_31 (fun H locs hP hS => ?_)
    rw [← e_z11] at hP
    refine lv_iload_n hx hb dX12_law_34 rfl (lv_at hl 0 rfl) ?_
    exact x_iret hx hb hr hlocks hK hP hS h dX12_law_35
  · rw [if_pos c4] at h
    refine lv_iconst (v := (-1)) hx hb dX12_law_11 (by decide) ?_
    exact x_iret hx hb hr hlocks hK hP hS h dX12_law_12
def fn_X12_left_38 (k8 : Int32 → Int32 → St → Option (Int32 × St)) (v2 : Int32) (tv0 : Int32) (tv1 : Int32) (z : St) : Option (Int32 × St) := nm (tv0 + tv1) (fun v1_1 => k8 v1_1 (v2 + 1) z)
set_option maxHeartbeats 4000000 in
set_option maxRecDepth 100000 in
theorem pf_X12_left_38 {p : Program} {l : Launch} {e : Env} {s : State} {m : MethodId} {args : Array Value} {below : List Frame} {meth : Method} {c : Code} {G : wG} (C : CX p s m args meth c cX12_left 3 (wsU yX12_left cX12_left 3 (some .int)) RX12 (some .int) G) {Rz : Int32 × St} {k8 : Int32 → Int32 → St → Option (Int32 × St)} (hk_8 : ∀ (v1 : Int32) (v2 : Int32) (z : St)  (H : Heap) (locs : List Loc) (ls : Array Slot), WP G z H → va_S (AW G) s.heap H locs → lv_has ls 3 [(0, .ref (G.2.2 172)), (1, .int v1), (2, .int v2)] → k8 v1 v2 z = some Rz → W p l e (rmd 2) s m args below meth c H locs 0 0 (QI below args s G Rz) (F0 m 8 ls [])) (v2 : Int32) (tv0 : Int32) (tv1 : Int32) (z : St)  {H : Heap} {locs : List Loc} {ls : Array Slot} (hP : WP G z H) (hS : va_S (AW G) s.heap H locs) (hl : lv_has ls 3 [(0, .ref (G.2.2 172)), (2, .int v2)]) (h : fn_X12_left_38  k8 v2 tv0 tv1 z = some Rz) : W p l e (rmd 2) s m args below meth c H locs 0 0 (QI below args s G Rz) (F0 m 38 ls [.int tv1, .int tv0]) := by
  obtain ⟨hx, hb, hml, hown, hts, hr, hlocks, hK, hG⟩ := id C
  unfold fn_X12_left_38 at h
  refine lv_iadd hx hb dX12_left_38 ?_
  obtain ⟨v1_1, e_v1_1, h⟩ := nm_s h
  refine x_top e_v1_1 ?_
  refine lv_istore_n (lv' := [(1, .int v1_1), (0, .ref (G.2.2 172)), (2, .int v2)]) hx hb dX12_left_39 rfl hl (by decide) rfl (fun ls hl => ?_)
  refine lv_iinc (v := (v2 + 1)) (lv' := [(2, .int (v2 + 1)), (1, .int v1_1), (0, .ref (G.2.2 172))]) hx hb dX12_left_40 hl (k := 2) rfl rfl (by decide) rfl (fun ls hl => ?_)
  refine lv_goto (tgt := 8) hx hb dX12_left_43 (by decide) ?_
  exact hk_8 v1_1 (v2 + 1) z  _ _ _ hP hS (lv_sub hl [2, 1, 0] rfl) h
def fn_X12_left_8 : Nat → Int32 → Int32 → St → Option (Int32 × St)
  | 0, _, _, _ => none
  | n + 1, v1, v2, z => (if (z.1 198 (Int32.toNatClampNeg 168)) ≤ v2 then some (v1, z) else bd (fn_X12_isFree  v2 z) (fun r3 z4 => (if r3 = 0 then fn_X12_left_38  (fn_X12_left_8   n) v2 v1 0 z4 else bd (fn_X12_areaOf  v2 z4) (fun r7 z8 => fn_X12_left_38  (fn_X12_left_8   n) v2 v1 r7 z8))))
set_option maxHeartbeats 4000000 in
set_option maxRecDepth 100000 in
theorem pf_X12_left_8 {p : Program} {l : Launch} {e : Env} {s : State} {m : MethodId} {args : Array Value} {below : List Frame} {meth : Method} {c : Code} {G : wG} (C : CX p s m args meth c cX12_left 3 (wsU yX12_left cX12_left 3 (some .int)) RX12 (some .int) G) {Rz : Int32 × St} : ∀ (n : Nat) (v1 : Int32) (v2 : Int32) (z : St)  (H : Heap) (locs : List Loc) (ls : Array Slot), WP G z H → va_S (AW G) s.heap H locs → lv_has ls 3 [(0, .ref (G.2.2 172)), (1, .int v1), (2, .int v2)] → fn_X12_left_8   n v1 v2 z = some Rz → W p l e (rmd 2) s m args below meth c H locs 0 0 (QI below args s G Rz) (F0 m 8 ls []) := by
  obtain ⟨hx, hb, hml, hown, hts, hr, hlocks, hK, hG⟩ := id C
  intro n
  induction n with
  | zero => intro v1 v2 z  H locs ls hP hS hl h; cases h
  | succ n ih =>
    intro v1 v2 z  H locs ls hP hS hl h
    rw [fn_X12_left_8] at h
    refine lv_iload_n hx hb dX12_left_8 rfl (lv_at hl 2 rfl) ?_
    refine lv_aload_n hx hb dX12_left_9 rfl (lv_at hl 0 rfl) ?_
    refine ge_12_49 hx hb hts (inU inW_X12) hown hK hP k_172 (hts _ (List.mem_cons_of_mem _ lw_1483)) dX12_left_10 ?_
    refine lv_sipush (v := 168) hx hb dX12_left_13 (by decide) ?_
    refine xl_14 hx hb hK hP k_198 l_198 (ix_in (by decide)) dX12_left_16 ?_
    refine lv_icmp_ge (tgt := 46) hx hb dX12_left_17 (by decide) (fun c1 => ?_) (fun c1 => ?_)
    · rw [if_pos c1] at h
      refine lv_iload_n hx hb dX12_left_46 rfl (lv_at hl 1 rfl) ?_
      exact x_iret hx hb hr hlocks hK hP hS h dX12_left_47
    · rw [if_neg c1] at h
      refine lv_iload_n hx hb dX12_left_20 rfl (lv_at hl 1 rfl) ?_
      refine lv_aload_n hx hb dX12_left_21 rfl (lv_at hl 0 rfl) ?_
      refine lv_iload_n hx hb dX12_left_22 rfl (lv_at hl 2 rfl) ?_
      obtain ⟨r3, z4, h2, h⟩ := bd_s h
      refine x_Vi (Rz := (r3, z4)) (As := [.int v2]) (rest := [.int v1]) ⟨hx, hb, hml, hown, hts⟩ hK hP hS (kd_lt k_172 (by decide)) (cell_12 k_172) rfl (m_X12_isFree hG   h2) (cwV 1 hts (gV lw_1885 lw_1887 lw_82 lw_125 lw_1888) rfl rfl rfl (by decide +kernel) (rmd_ok (by decide) (by decide))) rfl hl.1 rfl (Nat.le_of_ble_eq_true rfl) dX12_left_23 ⟨Nat.le_refl _, Nat.le_refl _⟩ (fun H locs hP hS => ?_)
      refine lv_if_eq (tgt := 37) hx hb dX12_left_26 (by decide) (fun c5 => ?_) (fun c5 => ?_)
      · rw [if_pos c5] at h
        refine lv_iconst (v := 0) hx hb dX12_left_37 (by decide) ?_
        exact pf_X12_left_38 C  ih v2 v1 0 z4  hP hS (lv_sub hl [0, 2] rfl) h
      · rw [if_neg c5] at h
        refine lv_aload_n hx hb dX12_left_29 rfl (lv_at hl 0 rfl) ?_
        refine lv_iload_n hx hb dX12_left_30 rfl (lv_at hl 2 rfl) ?_
        obtain ⟨r7, z8, h6, h⟩ := bd_s h
        refine x_Vi (Rz := (r7, z8)) (As := [.int v2]) (rest := [.int v1]) ⟨hx, hb, hml, hown, hts⟩ hK hP hS (kd_lt k_172 (by decide)) (cell_12 k_172) rfl (m_X12_areaOf hG   h6) (cwV 1 hts (gV lw_1834 lw_1836 lw_74 lw_125 lw_1837) rfl rfl rfl (by decide +kernel) (rmd_ok (by decide) (by decide))) rfl hl.1 rfl (Nat.le_of_ble_eq_true rfl) dX12_left_31 ⟨Nat.le_refl _, Nat.le_refl _⟩ (fun H locs hP hS => ?_)
        refine lv_goto (tgt := 38) hx hb dX12_left_34 (by decide) ?_
        exact pf_X12_left_38 C  ih v2 v1 r7 z8  hP hS (lv_sub hl [0, 2] rfl) h
def fn_X12_left  (z : St) : Option (Int32 × St) := bv (fn_X12_load   z) (fun z2 => fn_X12_left_8   fu 0 0 z2)
set_option maxHeartbeats 4000000 in
set_option maxRecDepth 100000 in
theorem m_X12_left {l : Launch} {G : wG} (hG : Ok G)  {z : St} {Rz : Int32 × St}  (h : fn_X12_left   z = some Rz) : Met l yX12_left (wsU yX12_left cX12_left 3 (some .int)) (rmd 2) (va_Pc [.ref (G.2.2 172)] (Pre G z)) (va_Qi (fun r u => (r, u) = Rz) (Pre G) (AW G)) 0 0 (AW G) := by
  refine Met.ofW (cc := cX12_left) (maxL := 3) (ret := (some .int)) (by decide) rfl ?_
  intro p e s m args below meth c s₁ B hml hv
  obtain ⟨rfl, hP, hK⟩ := hv
  have C : CX p s m ([.ref (G.2.2 172)] : List Value).toArray meth c cX12_left 3 (wsU yX12_left cX12_left 3 (some .int)) RX12 (some .int) G := ⟨B.exec, B.bytes, hml, findClass_of_methodNamed B.named, atoms_spec (ws := (wsU yX12_left cX12_left 3 (some .int))) B.pre, B.returns, B.notSynchronized, hK, hG⟩
  obtain ⟨hx, hb, -, hown, hts, hr, hlocks, -, -⟩ := id C
  have hS : va_S (AW G) s.heap s.heap [] := va_S.rf
  have hl := lv_entry [.ref (G.2.2 172)] (n := 3) (Nat.le_of_ble_eq_true rfl)
  rw [lg_entry_eq]
  generalize (lg_sl [.ref (G.2.2 172)] ++ List.replicate (3 - (lg_sl [.ref (G.2.2 172)]).length) Slot.unset).toArray = ls at hl ⊢
  have hl : lv_has ls 3 [(0, .ref (G.2.2 172))] := hl
  unfold fn_X12_left at h
  refine lv_aload_n hx hb dX12_left_0 rfl (lv_at hl 0 rfl) ?_
  obtain ⟨z2, h1, h⟩ := bv_s h
  refine x_Vv (Rz := z2) (As := []) (rest := []) ⟨hx, hb, hml, hown, hts⟩ hK hP hS (kd_lt k_172 (by decide)) (cell_12 k_172) rfl (m_X12_load hG   h1) (cwV 0 hts (gV lw_1830 lw_1832 lw_73 lw_125 lw_1833) rfl rfl rfl (by decide +kernel) (rmd_ok (by decide) (by decide))) rfl hl.1 rfl (Nat.le_of_ble_eq_true rfl) dX12_left_1 ⟨Nat.le_refl _, Nat.le_refl _⟩ (fun H locs hP hS => ?_)
  refine lv_iconst (v := 0) hx hb dX12_left_4 (by decide) ?_
  refine lv_istore_n (lv' := [(1, .int 0), (0, .ref (G.2.2 172))]) hx hb dX12_left_5 rfl hl (by decide) rfl (fun ls hl => ?_)
  refine lv_iconst (v := 0) hx hb dX12_left_6 (by decide) ?_
  refine lv_istore_n (lv' := [(2, .int 0), (1, .int 0), (0, .ref (G.2.2 172))]) hx hb dX12_left_7 rfl hl (by decide) rfl (fun ls hl => ?_)
  exact pf_X12_left_8 C   fu 0 0 z2  _ _ _ hP hS (lv_sub hl [2, 1, 0] rfl) h
def fn_X12_iced_55 (k20 : Int32 → Int32 → Int32 → St → Option (Int32 × St)) (v1 : Int32) (v3 : Int32) (tv0 : Int32) (tv1 : Int32) (z : St) : Option (Int32 × St) := bd (fn_X12_truth  tv1 z) (fun r2 z3 => nm (tv0 ||| (r2 <<< (v3 &&& 31))) (fun v2_4 => k20 v1 v2_4 (v3 + 1) z3))
set_option maxHeartbeats 4000000 in
set_option maxRecDepth 100000 in
theorem pf_X12_iced_55 {p : Program} {l : Launch} {e : Env} {s : State} {m : MethodId} {args : Array Value} {below : List Frame} {meth : Method} {c : Code} {G : wG} (C : CX p s m args meth c cX12_iced 4 (wsU yX12_iced cX12_iced 4 (some .int)) RX12 (some .int) G) {Rz : Int32 × St} {k20 : Int32 → Int32 → Int32 → St → Option (Int32 × St)} (hk_20 : ∀ (v1 : Int32) (v2 : Int32) (v3 : Int32) (z : St)  (H : Heap) (locs : List Loc) (ls : Array Slot), WP G z H → va_S (AW G) s.heap H locs → lv_has ls 4 [(0, .ref (G.2.2 172)), (1, .int v1), (2, .int v2), (3, .int v3)] → k20 v1 v2 v3 z = some Rz → W p l e (rmd 3) s m args below meth c H locs 0 0 (QI below args s G Rz) (F0 m 20 ls [])) (v1 : Int32) (v3 : Int32) (tv0 : Int32) (tv1 : Int32) (z : St)  {H : Heap} {locs : List Loc} {ls : Array Slot} (hP : WP G z H) (hS : va_S (AW G) s.heap H locs) (hl : lv_has ls 4 [(0, .ref (G.2.2 172)), (1, .int v1), (3, .int v3)]) (h : fn_X12_iced_55  k20 v1 v3 tv0 tv1 z = some Rz) : W p l e (rmd 3) s m args below meth c H locs 0 0 (QI below args s G Rz) (F0 m 55 ls [.int tv1, .int tv0]) := by
  obtain ⟨hx, hb, hml, hown, hts, hr, hlocks, hK, hG⟩ := id C
  unfold fn_X12_iced_55 at h
  obtain ⟨r2, z3, h1, h⟩ := bd_s h
  refine x_Si (Rz := (r2, z3)) (As := [.int tv1]) (rest := [.int tv0]) ⟨hx, hb, hml, hown, hts⟩ hK hP hS (m_X12_truth hG   h1) (va_cwS 1 hts (gS lw_1842 lw_1843 lw_125 lw_1844) rfl rfl rfl (by decide +kernel) (rmd_ok (by decide) (by decide))) rfl hl.1 rfl (Nat.le_of_ble_eq_true rfl) dX12_iced_55 ⟨Nat.le_refl _, Nat.le_refl _⟩ (fun H locs hP hS => ?_)
  refine lv_iload_n hx hb dX12_iced_58 rfl (lv_at hl 2 rfl) ?_
  refine lv_ishl hx hb dX12_iced_59 ?_
  refine lv_ior hx hb dX12_iced_60 ?_
  obtain ⟨v2_4, e_v2_4, h⟩ := nm_s h
  refine x_top e_v2_4 ?_
  refine lv_istore_n (lv' := [(2, .int v2_4), (0, .ref (G.2.2 172)), (1, .int v1), (3, .int v3)]) hx hb dX12_iced_61 rfl hl (by decide) rfl (fun ls hl => ?_)
  refine lv_iinc (v := (v3 + 1)) (lv' := [(3, .int (v3 + 1)), (2, .int v2_4), (0, .ref (G.2.2 172)), (1, .int v1)]) hx hb dX12_iced_62 hl (k := 3) rfl rfl (by decide) rfl (fun ls hl => ?_)
  refine lv_goto (tgt := 20) hx hb dX12_iced_65 (by decide) ?_
  exact hk_20 v1 v2_4 (v3 + 1) z3  _ _ _ hP hS (lv_sub hl [2, 3, 1, 0] rfl) h
def fn_X12_iced_54 (k20 : Int32 → Int32 → Int32 → St → Option (Int32 × St)) (v1 : Int32) (v3 : Int32) (tv0 : Int32) (z : St) : Option (Int32 × St) := fn_X12_iced_55  k20 v1 v3 tv0 0 z
set_option maxHeartbeats 4000000 in
set_option maxRecDepth 100000 in
theorem pf_X12_iced_54 {p : Program} {l : Launch} {e : Env} {s : State} {m : MethodId} {args : Array Value} {below : List Frame} {meth : Method} {c : Code} {G : wG} (C : CX p s m args meth c cX12_iced 4 (wsU yX12_iced cX12_iced 4 (some .int)) RX12 (some .int) G) {Rz : Int32 × St} {k20 : Int32 → Int32 → Int32 → St → Option (Int32 × St)} (hk_20 : ∀ (v1 : Int32) (v2 : Int32) (v3 : Int32) (z : St)  (H : Heap) (locs : List Loc) (ls : Array Slot), WP G z H → va_S (AW G) s.heap H locs → lv_has ls 4 [(0, .ref (G.2.2 172)), (1, .int v1), (2, .int v2), (3, .int v3)] → k20 v1 v2 v3 z = some Rz → W p l e (rmd 3) s m args below meth c H locs 0 0 (QI below args s G Rz) (F0 m 20 ls [])) (v1 : Int32) (v3 : Int32) (tv0 : Int32) (z : St)  {H : Heap} {locs : List Loc} {ls : Array Slot} (hP : WP G z H) (hS : va_S (AW G) s.heap H locs) (hl : lv_has ls 4 [(0, .ref (G.2.2 172)), (1, .int v1), (3, .int v3)]) (h : fn_X12_iced_54  k20 v1 v3 tv0 z = some Rz) : W p l e (rmd 3) s m args below meth c H locs 0 0 (QI below args s G Rz) (F0 m 54 ls [.int tv0]) := by
  obtain ⟨hx, hb, hml, hown, hts, hr, hlocks, hK, hG⟩ := id C
  unfold fn_X12_iced_54 at h
  refine lv_iconst (v := 0) hx hb dX12_iced_54 (by decide) ?_
  exact pf_X12_iced_55 C  hk_20 v1 v3 tv0 0 z  hP hS (lv_sub hl [0, 1, 2] rfl) h
def fn_X12_iced_20 : Nat → Int32 → Int32 → Int32 → St → Option (Int32 × St)
  | 0, _, _, _, _ => none
  | n + 1, v1, v2, v3, z => (if (z.1 198 (Int32.toNatClampNeg 168)) ≤ v3 then some (v2, z) else bd (fn_X12_isFree  v3 z) (fun r3 z4 => (if r3 = 0 then fn_X12_iced_54  (fn_X12_iced_20   n) v1 v3 v2 z4 else bd (fn_X12_icingOf  v3 z4) (fun r7 z8 => (if r7 < v1 then fn_X12_iced_54  (fn_X12_iced_20   n) v1 v3 v2 z8 else fn_X12_iced_55  (fn_X12_iced_20   n) v1 v3 v2 1 z8)))))
set_option maxHeartbeats 4000000 in
set_option maxRecDepth 100000 in
theorem pf_X12_iced_20 {p : Program} {l : Launch} {e : Env} {s : State} {m : MethodId} {args : Array Value} {below : List Frame} {meth : Method} {c : Code} {G : wG} (C : CX p s m args meth c cX12_iced 4 (wsU yX12_iced cX12_iced 4 (some .int)) RX12 (some .int) G) {Rz : Int32 × St} : ∀ (n : Nat) (v1 : Int32) (v2 : Int32) (v3 : Int32) (z : St)  (H : Heap) (locs : List Loc) (ls : Array Slot), WP G z H → va_S (AW G) s.heap H locs → lv_has ls 4 [(0, .ref (G.2.2 172)), (1, .int v1), (2, .int v2), (3, .int v3)] → fn_X12_iced_20   n v1 v2 v3 z = some Rz → W p l e (rmd 3) s m args below meth c H locs 0 0 (QI below args s G Rz) (F0 m 20 ls []) := by
  obtain ⟨hx, hb, hml, hown, hts, hr, hlocks, hK, hG⟩ := id C
  intro n
  induction n with
  | zero => intro v1 v2 v3 z  H locs ls hP hS hl h; cases h
  | succ n ih =>
    intro v1 v2 v3 z  H locs ls hP hS hl h
    rw [fn_X12_iced_20] at h
    refine lv_iload_n hx hb dX12_iced_20 rfl (lv_at hl 3 rfl) ?_
    refine lv_aload_n hx hb dX12_iced_21 rfl (lv_at hl 0 rfl) ?_
    refine ge_12_49 hx hb hts (inU inW_X12) hown hK hP k_172 (hts _ (List.mem_cons_of_mem _ lw_1483)) dX12_iced_22 ?_
    refine lv_sipush (v := 168) hx hb dX12_iced_25 (by decide) ?_
    refine xl_14 hx hb hK hP k_198 l_198 (ix_in (by decide)) dX12_iced_28 ?_
    refine lv_icmp_ge (tgt := 68) hx hb dX12_iced_29 (by decide) (fun c1 => ?_) (fun c1 => ?_)
    · rw [if_pos c1] at h
      refine lv_iload_n hx hb dX12_iced_68 rfl (lv_at hl 2 rfl) ?_
      exact x_iret hx hb hr hlocks hK hP hS h dX12_iced_69
    · rw [if_neg c1] at h
      refine lv_iload_n hx hb dX12_iced_32 rfl (lv_at hl 2 rfl) ?_
      refine lv_aload_n hx hb dX12_iced_33 rfl (lv_at hl 0 rfl) ?_
      refine lv_iload_n hx hb dX12_iced_34 rfl (lv_at hl 3 rfl) ?_
      obtain ⟨r3, z4, h2, h⟩ := bd_s h
      refine x_Vi (Rz := (r3, z4)) (As := [.int v3]) (rest := [.int v2]) ⟨hx, hb, hml, hown, hts⟩ hK hP hS (kd_lt k_172 (by decide)) (cell_12 k_172) rfl (m_X12_isFree hG   h2) (cwV 1 hts (gV lw_1885 lw_1887 lw_82 lw_125 lw_1888) rfl rfl rfl (by decide +kernel) (rmd_ok (by decide) (by decide))) rfl hl.1 rfl (Nat.le_of_ble_eq_true rfl) dX12_iced_35 ⟨Nat.le_refl _, Nat.le_refl _⟩ (fun H locs hP hS => ?_)
      refine lv_if_eq (tgt := 54) hx hb dX12_iced_38 (by decide) (fun c5 => ?_) (fun c5 => ?_)
      · rw [if_pos c5] at h
        exact pf_X12_iced_54 C  ih v1 v3 v2 z4  hP hS (lv_sub hl [0, 1, 3] rfl) h
      · rw [if_neg c5] at h
        refine lv_aload_n hx hb dX12_iced_41 rfl (lv_at hl 0 rfl) ?_
        refine lv_iload_n hx hb dX12_iced_42 rfl (lv_at hl 3 rfl) ?_
        obtain ⟨r7, z8, h6, h⟩ := bd_s h
        refine x_Vi (Rz := (r7, z8)) (As := [.int v3]) (rest := [.int v2]) ⟨hx, hb, hml, hown, hts⟩ hK hP hS (kd_lt k_172 (by decide)) (cell_12 k_172) rfl (m_X12_icingOf hG   h6) (cwV 1 hts (gV lw_1838 lw_1840 lw_75 lw_125 lw_1841) rfl rfl rfl (by decide +kernel) (rmd_ok (by decide) (by decide))) rfl hl.1 rfl (Nat.le_of_ble_eq_true rfl) dX12_iced_43 ⟨Nat.le_refl _, Nat.le_refl _⟩ (fun H locs hP hS => ?_)
        refine lv_iload_n hx hb dX12_iced_46 rfl (lv_at hl 1 rfl) ?_
        refine lv_icmp_lt (tgt := 54) hx hb dX12_iced_47 (by decide) (fun c9 => ?_) (fun c9 => ?_)
        · rw [if_pos c9] at h
          exact pf_X12_iced_54 C  ih v1 v3 v2 z8  hP hS (lv_sub hl [0, 1, 3] rfl) h
        · rw [if_neg c9] at h
          refine lv_iconst (v := 1) hx hb dX12_iced_50 (by decide) ?_
          refine lv_goto (tgt := 55) hx hb dX12_iced_51 (by decide) ?_
          exact pf_X12_iced_55 C  ih v1 v3 v2 1 z8  hP hS (lv_sub hl [0, 1, 3] rfl) h
def fn_X12_iced (v1 : Int32) (z : St) : Option (Int32 × St) := bd (fn_X12_isIn  v1 0 32 z) (fun r2 z3 => (if r2 = 0 then some ((-1), z3) else bv (fn_X12_load   z3) (fun z6 => fn_X12_iced_20   fu v1 0 0 z6)))
set_option maxHeartbeats 4000000 in
set_option maxRecDepth 100000 in
theorem m_X12_iced {l : Launch} {G : wG} (hG : Ok G) {v1 : Int32} {z : St} {Rz : Int32 × St}  (h : fn_X12_iced  v1 z = some Rz) : Met l yX12_iced (wsU yX12_iced cX12_iced 4 (some .int)) (rmd 3) (va_Pc [.ref (G.2.2 172), .int v1] (Pre G z)) (va_Qi (fun r u => (r, u) = Rz) (Pre G) (AW G)) 0 0 (AW G) := by
  refine Met.ofW (cc := cX12_iced) (maxL := 4) (ret := (some .int)) (by decide) rfl ?_
  intro p e s m args below meth c s₁ B hml hv
  obtain ⟨rfl, hP, hK⟩ := hv
  have C : CX p s m ([.ref (G.2.2 172), .int v1] : List Value).toArray meth c cX12_iced 4 (wsU yX12_iced cX12_iced 4 (some .int)) RX12 (some .int) G := ⟨B.exec, B.bytes, hml, findClass_of_methodNamed B.named, atoms_spec (ws := (wsU yX12_iced cX12_iced 4 (some .int))) B.pre, B.returns, B.notSynchronized, hK, hG⟩
  obtain ⟨hx, hb, -, hown, hts, hr, hlocks, -, -⟩ := id C
  have hS : va_S (AW G) s.heap s.heap [] := va_S.rf
  have hl := lv_entry [.ref (G.2.2 172), .int v1] (n := 4) (Nat.le_of_ble_eq_true rfl)
  rw [lg_entry_eq]
  generalize (lg_sl [.ref (G.2.2 172), .int v1] ++ List.replicate (4 - (lg_sl [.ref (G.2.2 172), .int v1]).length) Slot.unset).toArray = ls at hl ⊢
  have hl : lv_has ls 4 [(0, .ref (G.2.2 172)), (1, .int v1)] := hl
  unfold fn_X12_iced at h
  refine lv_iload_n hx hb dX12_iced_0 rfl (lv_at hl 1 rfl) ?_
  refine lv_iconst (v := 0) hx hb dX12_iced_1 (by decide) ?_
  refine lv_bipush (v := 32) hx hb dX12_iced_2 (by decide) ?_
  obtain ⟨r2, z3, h1, h⟩ := bd_s h
  refine x_Si (Rz := (r2, z3)) (As := [.int v1, .int 0, .int 32]) (rest := []) ⟨hx, hb, hml, hown, hts⟩ hK hP hS (m_X12_isIn hG   h1) (va_cwS 3 hts (gS lw_1827 lw_1828 lw_125 lw_1829) rfl rfl rfl (by decide +kernel) (rmd_ok (by decide) (by decide))) rfl hl.1 rfl (Nat.le_of_ble_eq_true rfl) dX12_iced_4 ⟨Nat.le_refl _, Nat.le_refl _⟩ (fun H locs hP hS => ?_)
  refine lv_if_ne (tgt := 12) hx hb dX12_iced_7 (by decide) (fun c4 => ?_) (fun c4 => ?_)
  · rw [if_neg c4] at h
    refine lv_aload_n hx hb dX12_iced_12 rfl (lv_at hl 0 rfl) ?_
    obtain ⟨z6, h5, h⟩ := bv_s h
    refine x_Vv (Rz := z6) (As := []) (rest := []) ⟨hx, hb, hml, hown, hts⟩ hK hP hS (kd_lt k_172 (by decide)) (cell_12 k_172) rfl (m_X12_load hG   h5) (cwV 0 hts (gV lw_1830 lw_1832 lw_73 lw_125 lw_1833) rfl rfl rfl (by decide +kernel) (rmd_ok (by decide) (by decide))) rfl hl.1 rfl (Nat.le_of_ble_eq_true rfl) dX12_iced_13 ⟨Nat.le_refl _, Nat.le_refl _⟩ (fun H locs hP hS => ?_)
    refine lv_iconst (v := 0) hx hb dX12_iced_16 (by decide) ?_
    refine lv_istore_n (lv' := [(2, .int 0), (0, .ref (G.2.2 172)), (1, .int v1)]) hx hb dX12_iced_17 rfl hl (by decide) rfl (fun ls hl => ?_)
    refine lv_iconst (v := 0) hx hb dX12_iced_18 (by decide) ?_
    refine lv_istore_n (lv' := [(3, .int 0), (2, .int 0), (0, .ref (G.2.2 172)), (1, .int v1)]) hx hb dX12_iced_19 rfl hl (by decide) rfl (fun ls hl => ?_)
    exact pf_X12_iced_20 C   fu v1 0 0 z6  _ _ _ hP hS (lv_sub hl [2, 3, 1, 0] rfl) h
  · rw [if_pos c4] at h
    refine lv_iconst (v := (-1)) hx hb dX12_iced_10 (by decide) ?_
    exact x_iret hx hb hr hlocks hK hP hS h dX12_iced_11
def fn_X12_divisor_4 : Nat → Int32 → Int32 → St → Option (Int32 × St)
  | 0, _, _, _ => none
  | n + 1, v2, v3, z => (if v3 ≤ 0 then some (v2, z) else gd (v3 != 0) (nm (v2 - v2 / v3 * v3) (fun v4_3 => fn_X12_divisor_4   n v3 v4_3 z)))
set_option maxHeartbeats 4000000 in
set_option maxRecDepth 100000 in
theorem pf_X12_divisor_4 {p : Program} {l : Launch} {e : Env} {s : State} {m : MethodId} {args : Array Value} {below : List Frame} {meth : Method} {c : Code} {G : wG} (C : CX p s m args meth c cX12_divisor 5 (wsU yX12_divisor cX12_divisor 5 (some .int)) RX12 (some .int) G) {Rz : Int32 × St} : ∀ (n : Nat) (v2 : Int32) (v3 : Int32) (z : St)  (H : Heap) (locs : List Loc) (ls : Array Slot), WP G z H → va_S (AW G) s.heap H locs → lv_has ls 5 [(2, .int v2), (3, .int v3)] → fn_X12_divisor_4   n v2 v3 z = some Rz → W p l e (rmd 1) s m args below meth c H locs 0 0 (QI below args s G Rz) (F0 m 4 ls []) := by
  obtain ⟨hx, hb, hml, hown, hts, hr, hlocks, hK, hG⟩ := id C
  intro n
  induction n with
  | zero => intro v2 v3 z  H locs ls hP hS hl h; cases h
  | succ n ih =>
    intro v2 v3 z  H locs ls hP hS hl h
    rw [fn_X12_divisor_4] at h
    refine lv_iload_n hx hb dX12_divisor_4 rfl (lv_at hl 1 rfl) ?_
    refine lv_if_le (tgt := 21) hx hb dX12_divisor_5 (by decide) (fun c1 => ?_) (fun c1 => ?_)
    · rw [if_pos c1] at h
      refine lv_iload_n hx hb dX12_divisor_21 rfl (lv_at hl 0 rfl) ?_
      exact x_iret hx hb hr hlocks hK hP hS h dX12_divisor_22
    · rw [if_neg c1] at h
      refine lv_iload_n hx hb dX12_divisor_8 rfl (lv_at hl 0 rfl) ?_
      refine lv_iload_n hx hb dX12_divisor_9 rfl (lv_at hl 1 rfl) ?_
      obtain ⟨g2, h⟩ := gd_s h
      refine lv_irem hx hb dX12_divisor_10 (bne_z g2) ?_
      obtain ⟨v4_3, e_v4_3, h⟩ := nm_s h
      refine x_top e_v4_3 ?_
      refine lv_istore (lv' := [(4, .int v4_3), (2, .int v2), (3, .int v3)]) hx hb dX12_divisor_11 hl (by decide) rfl (fun ls hl => ?_)
      refine lv_iload_n hx hb dX12_divisor_13 rfl (lv_at hl 2 rfl) ?_
      refine lv_istore_n (lv' := [(2, .int v3), (4, .int v4_3), (3, .int v3)]) hx hb dX12_divisor_14 rfl hl (by decide) rfl (fun ls hl => ?_)
      refine lv_iload hx hb dX12_divisor_15 (lv_at hl 1 rfl) ?_
      refine lv_istore_n (lv' := [(3, .int v4_3), (2, .int v3), (4, .int v4_3)]) hx hb dX12_divisor_17 rfl hl (by decide) rfl (fun ls hl => ?_)
      refine lv_goto (tgt := 4) hx hb dX12_divisor_18 (by decide) ?_
      exact ih v3 v4_3 z  _ _ _ hP hS (lv_sub hl [1, 0] rfl) h
def fn_X12_divisor (v0 : Int32) (v1 : Int32) (z : St) : Option (Int32 × St) := fn_X12_divisor_4   fu v0 v1 z
set_option maxHeartbeats 4000000 in
set_option maxRecDepth 100000 in
theorem m_X12_divisor {l : Launch} {G : wG} (hG : Ok G) {v0 : Int32} {v1 : Int32} {z : St} {Rz : Int32 × St}  (h : fn_X12_divisor  v0 v1 z = some Rz) : Met l yX12_divisor (wsU yX12_divisor cX12_divisor 5 (some .int)) (rmd 1) (va_Pc [.int v0, .int v1] (Pre G z)) (va_Qi (fun r u => (r, u) = Rz) (Pre G) (AW G)) 0 0 (AW G) := by
  refine Met.ofW (cc := cX12_divisor) (maxL := 5) (ret := (some .int)) (by decide) rfl ?_
  intro p e s m args below meth c s₁ B hml hv
  obtain ⟨rfl, hP, hK⟩ := hv
  have C : CX p s m ([.int v0, .int v1] : List Value).toArray meth c cX12_divisor 5 (wsU yX12_divisor cX12_divisor 5 (some .int)) RX12 (some .int) G := ⟨B.exec, B.bytes, hml, findClass_of_methodNamed B.named, atoms_spec (ws := (wsU yX12_divisor cX12_divisor 5 (some .int))) B.pre, B.returns, B.notSynchronized, hK, hG⟩
  obtain ⟨hx, hb, -, hown, hts, hr, hlocks, -, -⟩ := id C
  have hS : va_S (AW G) s.heap s.heap [] := va_S.rf
  have hl := lv_entry [.int v0, .int v1] (n := 5) (Nat.le_of_ble_eq_true rfl)
  rw [lg_entry_eq]
  generalize (lg_sl [.int v0, .int v1] ++ List.replicate (5 - (lg_sl [.int v0, .int v1]).length) Slot.unset).toArray = ls at hl ⊢
  have hl : lv_has ls 5 [(0, .int v0), (1, .int v1)] := hl
  unfold fn_X12_divisor at h
  refine lv_iload_n hx hb dX12_divisor_0 rfl (lv_at hl 0 rfl) ?_
  refine lv_istore_n (lv' := [(2, .int v0), (0, .int v0), (1, .int v1)]) hx hb dX12_divisor_1 rfl hl (by decide) rfl (fun ls hl => ?_)
  refine lv_iload_n hx hb dX12_divisor_2 rfl (lv_at hl 2 rfl) ?_
  refine lv_istore_n (lv' := [(3, .int v1), (2, .int v0), (0, .int v0), (1, .int v1)]) hx hb dX12_divisor_3 rfl hl (by decide) rfl (fun ls hl => ?_)
  exact pf_X12_divisor_4 C   fu v0 v1 z  _ _ _ hP hS (lv_sub hl [1, 0] rfl) h
def fn_X12_come_88 (k38 : Int32 → Int32 → Int32 → Int32 → Int32 → Int32 → St → Option (Int32 × St)) (v1 : Int32) (v2 : Int32) (v3 : Int32) (v4 : Int32) (v5 : Int32) (v6 : Int32) (z : St) : Option (Int32 × St) := k38 v1 v2 v3 v4 v5 (v6 + 1) z
set_option maxHeartbeats 4000000 in
set_option maxRecDepth 100000 in
theorem pf_X12_come_88 {p : Program} {l : Launch} {e : Env} {s : State} {m : MethodId} {args : Array Value} {below : List Frame} {meth : Method} {c : Code} {G : wG} (C : CX p s m args meth c cX12_come 7 (wsU yX12_come cX12_come 7 (some .int)) RX12 (some .int) G) {Rz : Int32 × St} {k38 : Int32 → Int32 → Int32 → Int32 → Int32 → Int32 → St → Option (Int32 × St)} (hk_38 : ∀ (v1 : Int32) (v2 : Int32) (v3 : Int32) (v4 : Int32) (v5 : Int32) (v6 : Int32) (z : St)  (H : Heap) (locs : List Loc) (ls : Array Slot), WP G z H → va_S (AW G) s.heap H locs → lv_has ls 7 [(0, .ref (G.2.2 172)), (1, .int v1), (2, .int v2), (3, .int v3), (4, .int v4), (5, .int v5), (6, .int v6)] → k38 v1 v2 v3 v4 v5 v6 z = some Rz → W p l e (rmd 2) s m args below meth c H locs 0 0 (QI below args s G Rz) (F0 m 38 ls [])) (v1 : Int32) (v2 : Int32) (v3 : Int32) (v4 : Int32) (v5 : Int32) (v6 : Int32) (z : St)  {H : Heap} {locs : List Loc} {ls : Array Slot} (hP : WP G z H) (hS : va_S (AW G) s.heap H locs) (hl : lv_has ls 7 [(0, .ref (G.2.2 172)), (1, .int v1), (2, .int v2), (3, .int v3), (4, .int v4), (5, .int v5), (6, .int v6)]) (h : fn_X12_come_88  k38 v1 v2 v3 v4 v5 v6 z = some Rz) : W p l e (rmd 2) s m args below meth c H locs 0 0 (QI below args s G Rz) (F0 m 88 ls []) := by
  obtain ⟨hx, hb, hml, hown, hts, hr, hlocks, hK, hG⟩ := id C
  unfold fn_X12_come_88 at h
  refine lv_iinc (v := (v6 + 1)) (lv' := [(6, .int (v6 + 1)), (0, .ref (G.2.2 172)), (1, .int v1), (2, .int v2), (3, .int v3), (4, .int v4), (5, .int v5)]) hx hb dX12_come_88 hl (k := 6) rfl rfl (by decide) rfl (fun ls hl => ?_)
  refine lv_goto (tgt := 38) hx hb dX12_come_91 (by decide) ?_
  exact hk_38 v1 v2 v3 v4 v5 (v6 + 1) z  _ _ _ hP hS (lv_sub hl [1, 2, 3, 4, 5, 6, 0] rfl) h
def fn_X12_come_38 : Nat → Int32 → Int32 → Int32 → Int32 → Int32 → Int32 → St → Option (Int32 × St)
  | 0, _, _, _, _, _, _, _ => none
  | n + 1, v1, v2, v3, v4, v5, v6, z => (if (z.1 172 44) ≤ v6 then bd (fn_X12_divisor  v5 v4 z) (fun r3 z4 => (if v2 = 0 then gd (r3 != 0) (some ((v4 / r3), z4)) else gd (r3 != 0) (some ((v5 / r3), z4)))) else (if ((v1 >>> (v6 &&& 31)) &&& 1) = 0 then fn_X12_come_88  (fn_X12_come_38   n) v1 v2 v3 v4 v5 v6 z else (if (v3 + 1) ≤ 4 then gd (ix v6 6) (nm (v4 * (z.1 196 (Int32.toNatClampNeg v6))) (fun v4_11 => nm (v5 * 100) (fun v5_12 => fn_X12_come_88  (fn_X12_come_38   n) v1 v2 (v3 + 1) v4_11 v5_12 v6 z))) else some ((-1), z))))
set_option maxHeartbeats 4000000 in
set_option maxRecDepth 100000 in
theorem pf_X12_come_38 {p : Program} {l : Launch} {e : Env} {s : State} {m : MethodId} {args : Array Value} {below : List Frame} {meth : Method} {c : Code} {G : wG} (C : CX p s m args meth c cX12_come 7 (wsU yX12_come cX12_come 7 (some .int)) RX12 (some .int) G) {Rz : Int32 × St} : ∀ (n : Nat) (v1 : Int32) (v2 : Int32) (v3 : Int32) (v4 : Int32) (v5 : Int32) (v6 : Int32) (z : St)  (H : Heap) (locs : List Loc) (ls : Array Slot), WP G z H → va_S (AW G) s.heap H locs → lv_has ls 7 [(0, .ref (G.2.2 172)), (1, .int v1), (2, .int v2), (3, .int v3), (4, .int v4), (5, .int v5), (6, .int v6)] → fn_X12_come_38   n v1 v2 v3 v4 v5 v6 z = some Rz → W p l e (rmd 2) s m args below meth c H locs 0 0 (QI below args s G Rz) (F0 m 38 ls []) := by
  obtain ⟨hx, hb, hml, hown, hts, hr, hlocks, hK, hG⟩ := id C
  intro n
  induction n with
  | zero => intro v1 v2 v3 v4 v5 v6 z  H locs ls hP hS hl h; cases h
  | succ n ih =>
    intro v1 v2 v3 v4 v5 v6 z  H locs ls hP hS hl h
    rw [fn_X12_come_38] at h
    refine lv_iload hx hb dX12_come_38 (lv_at hl 6 rfl) ?_
    refine lv_aload_n hx hb dX12_come_40 rfl (lv_at hl 0 rfl) ?_
    refine ge_12_44 hx hb hts (inU inW_X12) hown hK hP k_172 (hts _ (List.mem_cons_of_mem _ lw_1478)) dX12_come_41 ?_
    refine lv_icmp_ge (tgt := 94) hx hb dX12_come_44 (by decide) (fun c1 => ?_) (fun c1 => ?_)
    · rw [if_pos c1] at h
      refine lv_iload hx hb dX12_come_94 (lv_at hl 5 rfl) ?_
      refine lv_iload hx hb dX12_come_96 (lv_at hl 4 rfl) ?_
      obtain ⟨r3, z4, h2, h⟩ := bd_s h
      refine x_Si (Rz := (r3, z4)) (As := [.int v5, .int v4]) (rest := []) ⟨hx, hb, hml, hown, hts⟩ hK hP hS (m_X12_divisor hG   h2) (va_cwS 2 hts (gS lw_2077 lw_2078 lw_125 lw_2079) rfl rfl rfl (by decide +kernel) (rmd_ok (by decide) (by decide))) rfl hl.1 rfl (Nat.le_of_ble_eq_true rfl) dX12_come_98 ⟨Nat.le_refl _, Nat.le_refl _⟩ (fun H locs hP hS => ?_)
      refine lv_istore (lv' := [(6, .int r3), (0, .ref (G.2.2 172)), (1, .int v1), (2, .int v2), (3, .int v3), (4, .int v4), (5, .int v5)]) hx hb dX12_come_101 hl (by decide) rfl (fun ls hl => ?_)
      refine lv_iload_n hx hb dX12_come_103 rfl (lv_at hl 3 rfl) ?_
      refine lv_if_ne (tgt := 115) hx hb dX12_come_104 (by decide) (fun c5 => ?_) (fun c5 => ?_)
      · rw [if_neg c5] at h
        refine lv_iload hx hb dX12_come_115 (lv_at hl 6 rfl) ?_
        refine lv_iload hx hb dX12_come_117 (lv_at hl 0 rfl) ?_
        obtain ⟨g6, h⟩ := gd_s h
        refine lv_idiv hx hb dX12_come_119 (bne_z g6) ?_
        exact x_iret hx hb hr hlocks hK hP hS h dX12_come_120
      · rw [if_pos c5] at h
        refine lv_iload hx hb dX12_come_107 (lv_at hl 5 rfl) ?_
        refine lv_iload hx hb dX12_come_109 (lv_at hl 0 rfl) ?_
        obtain ⟨g7, h⟩ := gd_s h
        refine lv_idiv hx hb dX12_come_111 (bne_z g7) ?_
        refine lv_goto (tgt := 120) hx hb dX12_come_112 (by decide) ?_
        exact x_iret hx hb hr hlocks hK hP hS h dX12_come_120
    · rw [if_neg c1] at h
      refine lv_iload_n hx hb dX12_come_47 rfl (lv_at hl 1 rfl) ?_
      refine lv_iload hx hb dX12_come_48 (lv_at hl 6 rfl) ?_
      refine lv_ishr hx hb dX12_come_50 ?_
      refine lv_iconst (v := 1) hx hb dX12_come_51 (by decide) ?_
      refine lv_iand hx hb dX12_come_52 ?_
      refine lv_if_ne (tgt := 59) hx hb dX12_come_53 (by decide) (fun c8 => ?_) (fun c8 => ?_)
      · rw [if_neg c8] at h
        refine lv_iinc (v := (v3 + 1)) (lv' := [(3, .int (v3 + 1)), (0, .ref (G.2.2 172)), (1, .int v1), (2, .int v2), (4, .int v4), (5, .int v5), (6, .int v6)]) hx hb dX12_come_59 hl (k := 3) rfl rfl (by decide) rfl (fun ls hl => ?_)
        refine lv_iload_n hx hb dX12_come_62 rfl (lv_at hl 0 rfl) ?_
        refine lv_iconst (v := 4) hx hb dX12_come_63 (by decide) ?_
        refine lv_icmp_le (tgt := 69) hx hb dX12_come_64 (by decide) (fun c9 => ?_) (fun c9 => ?_)
        · rw [if_pos c9] at h
          refine lv_iload hx hb dX12_come_69 (lv_at hl 4 rfl) ?_
          refine lv_aload_n hx hb dX12_come_71 rfl (lv_at hl 1 rfl) ?_
          refine ge_12_38 hx hb hts (inU inW_X12) hown hK hP k_172 (hts _ (List.mem_cons_of_mem _ lw_1472)) dX12_come_72 ?_
          refine lv_iload hx hb dX12_come_75 (lv_at hl 6 rfl) ?_
          obtain ⟨g10, h⟩ := gd_s h
          refine xl_14 hx hb hK hP k_196 l_196 (ix_in g10) dX12_come_77 ?_
          refine lv_imul hx hb dX12_come_78 ?_
          obtain ⟨v4_11, e_v4_11, h⟩ := nm_s h
          refine x_top e_v4_11 ?_
          refine lv_istore (lv' := [(4, .int v4_11), (3, .int (v3 + 1)), (0, .ref (G.2.2 172)), (1, .int v1), (2, .int v2), (5, .int v5), (6, .int v6)]) hx hb dX12_come_79 hl (by decide) rfl (fun ls hl => ?_)
          refine lv_iload hx hb dX12_come_81 (lv_at hl 5 rfl) ?_
          refine lv_bipush (v := 100) hx hb dX12_come_83 (by decide) ?_
          refine lv_imul hx hb dX12_come_85 ?_
          obtain ⟨v5_12, e_v5_12, h⟩ := nm_s h
          refine x_top e_v5_12 ?_
          refine lv_istore (lv' := [(5, .int v5_12), (4, .int v4_11), (3, .int (v3 + 1)), (0, .ref (G.2.2 172)), (1, .int v1), (2, .int v2), (6, .int v6)]) hx hb dX12_come_86 hl (by decide) rfl (fun ls hl => ?_)
          exact pf_X12_come_88 C  ih v1 v2 (v3 + 1) v4_11 v5_12 v6 z  hP hS (lv_sub hl [3, 4, 5, 2, 1, 0, 6] rfl) h
        · rw [if_neg c9] at h
          refine lv_iconst (v := (-1)) hx hb dX12_come_67 (by decide) ?_
          exact x_iret hx hb hr hlocks hK hP hS h dX12_come_68
      · rw [if_pos c8] at h
        refine lv_goto (tgt := 88) hx hb dX12_come_56 (by decide) ?_
        exact pf_X12_come_88 C  ih v1 v2 v3 v4 v5 v6 z  hP hS (lv_sub hl [0, 1, 2, 3, 4, 5, 6] rfl) h
def fn_X12_come (v1 : Int32) (v2 : Int32) (z : St) : Option (Int32 × St) := bd (fn_X12_isIn  v1 0 ((1 <<< ((z.1 172 44) &&& 31)) - 1) z) (fun r2 z3 => (if r2 = 0 then some ((-1), z3) else bd (fn_X12_isIn  v2 0 1 z3) (fun r6 z7 => (if r6 = 0 then some ((-1), z7) else fn_X12_come_38   fu v1 v2 0 1 1 0 z7))))
set_option maxHeartbeats 4000000 in
set_option maxRecDepth 100000 in
theorem m_X12_come {l : Launch} {G : wG} (hG : Ok G) {v1 : Int32} {v2 : Int32} {z : St} {Rz : Int32 × St}  (h : fn_X12_come  v1 v2 z = some Rz) : Met l yX12_come (wsU yX12_come cX12_come 7 (some .int)) (rmd 2) (va_Pc [.ref (G.2.2 172), .int v1, .int v2] (Pre G z)) (va_Qi (fun r u => (r, u) = Rz) (Pre G) (AW G)) 0 0 (AW G) := by
  refine Met.ofW (cc := cX12_come) (maxL := 7) (ret := (some .int)) (by decide) rfl ?_
  intro p e s m args below meth c s₁ B hml hv
  obtain ⟨rfl, hP, hK⟩ := hv
  have C : CX p s m ([.ref (G.2.2 172), .int v1, .int v2] : List Value).toArray meth c cX12_come 7 (wsU yX12_come cX12_come 7 (some .int)) RX12 (some .int) G := ⟨B.exec, B.bytes, hml, findClass_of_methodNamed B.named, atoms_spec (ws := (wsU yX12_come cX12_come 7 (some .int))) B.pre, B.returns, B.notSynchronized, hK, hG⟩
  obtain ⟨hx, hb, -, hown, hts, hr, hlocks, -, -⟩ := id C
  have hS : va_S (AW G) s.heap s.heap [] := va_S.rf
  have hl := lv_entry [.ref (G.2.2 172), .int v1, .int v2] (n := 7) (Nat.le_of_ble_eq_true rfl)
  rw [lg_entry_eq]
  generalize (lg_sl [.ref (G.2.2 172), .int v1, .int v2] ++ List.replicate (7 - (lg_sl [.ref (G.2.2 172), .int v1, .int v2]).length) Slot.unset).toArray = ls at hl ⊢
  have hl : lv_has ls 7 [(0, .ref (G.2.2 172)), (1, .int v1), (2, .int v2)] := hl
  unfold fn_X12_come at h
  refine lv_iload_n hx hb dX12_come_0 rfl (lv_at hl 1 rfl) ?_
  refine lv_iconst (v := 0) hx hb dX12_come_1 (by decide) ?_
  refine lv_iconst (v := 1) hx hb dX12_come_2 (by decide) ?_
  refine lv_aload_n hx hb dX12_come_3 rfl (lv_at hl 0 rfl) ?_
  refine ge_12_44 hx hb hts (inU inW_X12) hown hK hP k_172 (hts _ (List.mem_cons_of_mem _ lw_1478)) dX12_come_4 ?_
  refine lv_ishl hx hb dX12_come_7 ?_
  refine lv_iconst (v := 1) hx hb dX12_come_8 (by decide) ?_
  refine lv_isub hx hb dX12_come_9 ?_
  obtain ⟨r2, z3, h1, h⟩ := bd_s h
  refine x_Si (Rz := (r2, z3)) (As := [.int v1, .int 0, .int ((1 <<< ((z.1 172 44) &&& 31)) - 1)]) (rest := []) ⟨hx, hb, hml, hown, hts⟩ hK hP hS (m_X12_isIn hG   h1) (va_cwS 3 hts (gS lw_1827 lw_1828 lw_125 lw_1829) rfl rfl rfl (by decide +kernel) (rmd_ok (by decide) (by decide))) rfl hl.1 rfl (Nat.le_of_ble_eq_true rfl) dX12_come_10 ⟨Nat.le_refl _, Nat.le_refl _⟩ (fun H locs hP hS => ?_)
  refine lv_if_eq (tgt := 25) hx hb dX12_come_13 (by decide) (fun c4 => ?_) (fun c4 => ?_)
  · rw [if_pos c4] at h
    refine lv_iconst (v := (-1)) hx hb dX12_come_25 (by decide) ?_
    exact x_iret hx hb hr hlocks hK hP hS h dX12_come_26
  · rw [if_neg c4] at h
    refine lv_iload_n hx hb dX12_come_16 rfl (lv_at hl 2 rfl) ?_
    refine lv_iconst (v := 0) hx hb dX12_come_17 (by decide) ?_
    refine lv_iconst (v := 1) hx hb dX12_come_18 (by decide) ?_
    obtain ⟨r6, z7, h5, h⟩ := bd_s h
    refine x_Si (Rz := (r6, z7)) (As := [.int v2, .int 0, .int 1]) (rest := []) ⟨hx, hb, hml, hown, hts⟩ hK hP hS (m_X12_isIn hG   h5) (va_cwS 3 hts (gS lw_1827 lw_1828 lw_125 lw_1829) rfl rfl rfl (by decide +kernel) (rmd_ok (by decide) (by decide))) rfl hl.1 rfl (Nat.le_of_ble_eq_true rfl) dX12_come_19 ⟨Nat.le_refl _, Nat.le_refl _⟩ (fun H locs hP hS => ?_)
    refine lv_if_ne (tgt := 27) hx hb dX12_come_22 (by decide) (fun c8 => ?_) (fun c8 => ?_)
    · rw [if_neg c8] at h
      refine lv_iconst (v := 0) hx hb dX12_come_27 (by decide) ?_
      refine lv_istore_n (lv' := [(3, .int 0), (0, .ref (G.2.2 172)), (1, .int v1), (2, .int v2)]) hx hb dX12_come_28 rfl hl (by decide) rfl (fun ls hl => ?_)
      refine lv_iconst (v := 1) hx hb dX12_come_29 (by decide) ?_
      refine lv_istore (lv' := [(4, .int 1), (3, .int 0), (0, .ref (G.2.2 172)), (1, .int v1), (2, .int v2)]) hx hb dX12_come_30 hl (by decide) rfl (fun ls hl => ?_)
      refine lv_iconst (v := 1) hx hb dX12_come_32 (by decide) ?_
      refine lv_istore (lv' := [(5, .int 1), (4, .int 1), (3, .int 0), (0, .ref (G.2.2 172)), (1, .int v1), (2, .int v2)]) hx hb dX12_come_33 hl (by decide) rfl (fun ls hl => ?_)
      refine lv_iconst (v := 0) hx hb dX12_come_35 (by decide) ?_
      refine lv_istore (lv' := [(6, .int 0), (5, .int 1), (4, .int 1), (3, .int 0), (0, .ref (G.2.2 172)), (1, .int v1), (2, .int v2)]) hx hb dX12_come_36 hl (by decide) rfl (fun ls hl => ?_)
      exact pf_X12_come_38 C   fu v1 v2 0 1 1 0 z7  _ _ _ hP hS (lv_sub hl [4, 5, 6, 3, 2, 1, 0] rfl) h
    · rw [if_pos c8] at h
      refine lv_iconst (v := (-1)) hx hb dX12_come_25 (by decide) ?_
      exact x_iret hx hb hr hlocks hK hP hS h dX12_come_26
def fn_X12_lies (v1 : Int32) (z : St) : Option (Int32 × St) := bd (fn_X12_isIn  v1 0 ((z.1 172 65) - 1) z) (fun r2 z3 => (if r2 = 0 then some ((-2), z3) else gd (ix v1 6) (some ((z3.1 205 (Int32.toNatClampNeg v1)), z3))))
set_option maxHeartbeats 4000000 in
set_option maxRecDepth 100000 in
theorem m_X12_lies {l : Launch} {G : wG} (hG : Ok G) {v1 : Int32} {z : St} {Rz : Int32 × St}  (h : fn_X12_lies  v1 z = some Rz) : Met l yX12_lies (wsU yX12_lies cX12_lies 2 (some .int)) (rmd 2) (va_Pc [.ref (G.2.2 172), .int v1] (Pre G z)) (va_Qi (fun r u => (r, u) = Rz) (Pre G) (AW G)) 0 0 (AW G) := by
  refine Met.ofW (cc := cX12_lies) (maxL := 2) (ret := (some .int)) (by decide) rfl ?_
  intro p e s m args below meth c s₁ B hml hv
  obtain ⟨rfl, hP, hK⟩ := hv
  have C : CX p s m ([.ref (G.2.2 172), .int v1] : List Value).toArray meth c cX12_lies 2 (wsU yX12_lies cX12_lies 2 (some .int)) RX12 (some .int) G := ⟨B.exec, B.bytes, hml, findClass_of_methodNamed B.named, atoms_spec (ws := (wsU yX12_lies cX12_lies 2 (some .int))) B.pre, B.returns, B.notSynchronized, hK, hG⟩
  obtain ⟨hx, hb, -, hown, hts, hr, hlocks, -, -⟩ := id C
  have hS : va_S (AW G) s.heap s.heap [] := va_S.rf
  have hl := lv_entry [.ref (G.2.2 172), .int v1] (n := 2) (Nat.le_of_ble_eq_true rfl)
  rw [lg_entry_eq]
  generalize (lg_sl [.ref (G.2.2 172), .int v1] ++ List.replicate (2 - (lg_sl [.ref (G.2.2 172), .int v1]).length) Slot.unset).toArray = ls at hl ⊢
  have hl : lv_has ls 2 [(0, .ref (G.2.2 172)), (1, .int v1)] := hl
  unfold fn_X12_lies at h
  refine lv_iload_n hx hb dX12_lies_0 rfl (lv_at hl 1 rfl) ?_
  refine lv_iconst (v := 0) hx hb dX12_lies_1 (by decide) ?_
  refine lv_aload_n hx hb dX12_lies_2 rfl (lv_at hl 0 rfl) ?_
  refine ge_12_65 hx hb hts (inU inW_X12) hown hK hP k_172 (hts _ (List.mem_cons_of_mem _ lw_1499)) dX12_lies_3 ?_
  refine lv_iconst (v := 1) hx hb dX12_lies_6 (by decide) ?_
  refine lv_isub hx hb dX12_lies_7 ?_
  obtain ⟨r2, z3, h1, h⟩ := bd_s h
  refine x_Si (Rz := (r2, z3)) (As := [.int v1, .int 0, .int ((z.1 172 65) - 1)]) (rest := []) ⟨hx, hb, hml, hown, hts⟩ hK hP hS (m_X12_isIn hG   h1) (va_cwS 3 hts (gS lw_1827 lw_1828 lw_125 lw_1829) rfl rfl rfl (by decide +kernel) (rmd_ok (by decide) (by decide))) rfl hl.1 rfl (Nat.le_of_ble_eq_true rfl) dX12_lies_8 ⟨Nat.le_refl _, Nat.le_refl _⟩ (fun H locs hP hS => ?_)
  refine lv_if_eq (tgt := 23) hx hb dX12_lies_11 (by decide) (fun c4 => ?_) (fun c4 => ?_)
  · rw [if_pos c4] at h
    refine lv_bipush (v := (-2)) hx hb dX12_lies_23 (by decide) ?_
    exact x_iret hx hb hr hlocks hK hP hS h dX12_lies_25
  · rw [if_neg c4] at h
    refine lv_aload_n hx hb dX12_lies_14 rfl (lv_at hl 0 rfl) ?_
    refine ge_12_64 hx hb hts (inU inW_X12) hown hK hP k_172 (hts _ (List.mem_cons_of_mem _ lw_1498)) dX12_lies_15 ?_
    refine lv_iload_n hx hb dX12_lies_18 rfl (lv_at hl 1 rfl) ?_
    obtain ⟨g5, h⟩ := gd_s h
    refine xl_14 hx hb hK hP k_205 l_205 (ix_in g5) dX12_lies_19 ?_
    refine lv_goto (tgt := 25) hx hb dX12_lies_20 (by decide) ?_
    exact x_iret hx hb hr hlocks hK hP hS h dX12_lies_25
def fn_X12_tell (v1 : Int32) (v2 : Int32) (v3 : Int32) (z : St) : Option (Int32 × St) := (if (z.1 172 71) = 30 then some ((-1), z) else (if (z.1 172 43) = 0 then some ((-1), z) else gd (ix (z.1 172 71) 30) (nm (sI z 206 (Int32.toNatClampNeg (z.1 172 71)) v1) (fun z4 => gd (ix (z4.1 172 71) 30) (nm (sI z4 207 (Int32.toNatClampNeg (z4.1 172 71)) v2) (fun z6 => gd (ix (z6.1 172 71) 30) (gd (zok v3) (nm (sI z6 210 (Int32.toNatClampNeg (z6.1 172 71)) v3) (fun z9 => gd (ix (z9.1 172 71) 30) (nm (sI z9 208 (Int32.toNatClampNeg (z9.1 172 71)) (z9.1 172 72)) (fun z11 => gd (ix (z11.1 172 71) 30) (nm (sI z11 209 (Int32.toNatClampNeg (z11.1 172 71)) (-1)) (fun z13 => nm (sI z13 172 71 ((z13.1 172 71) + 1)) (fun z14 => some (((z14.1 172 71) - 1), z14)))))))))))))))
set_option maxHeartbeats 4000000 in
set_option maxRecDepth 100000 in
theorem m_X12_tell {l : Launch} {G : wG} (hG : Ok G) {v1 : Int32} {v2 : Int32} {v3 : Int32} {z : St} {Rz : Int32 × St}  (h : fn_X12_tell  v1 v2 v3 z = some Rz) : Met l yX12_tell (wsU yX12_tell cX12_tell 4 (some .int)) (rmd 1) (va_Pc [.ref (G.2.2 172), .int v1, .int v2, .int v3] (Pre G z)) (va_Qi (fun r u => (r, u) = Rz) (Pre G) (AW G)) 0 0 (AW G) := by
  refine Met.ofW (cc := cX12_tell) (maxL := 4) (ret := (some .int)) (by decide) rfl ?_
  intro p e s m args below meth c s₁ B hml hv
  obtain ⟨rfl, hP, hK⟩ := hv
  have C : CX p s m ([.ref (G.2.2 172), .int v1, .int v2, .int v3] : List Value).toArray meth c cX12_tell 4 (wsU yX12_tell cX12_tell 4 (some .int)) RX12 (some .int) G := ⟨B.exec, B.bytes, hml, findClass_of_methodNamed B.named, atoms_spec (ws := (wsU yX12_tell cX12_tell 4 (some .int))) B.pre, B.returns, B.notSynchronized, hK, hG⟩
  obtain ⟨hx, hb, -, hown, hts, hr, hlocks, -, -⟩ := id C
  have hS : va_S (AW G) s.heap s.heap [] := va_S.rf
  have hl := lv_entry [.ref (G.2.2 172), .int v1, .int v2, .int v3] (n := 4) (Nat.le_of_ble_eq_true rfl)
  rw [lg_entry_eq]
  generalize (lg_sl [.ref (G.2.2 172), .int v1, .int v2, .int v3] ++ List.replicate (4 - (lg_sl [.ref (G.2.2 172), .int v1, .int v2, .int v3]).length) Slot.unset).toArray = ls at hl ⊢
  have hl : lv_has ls 4 [(0, .ref (G.2.2 172)), (1, .int v1), (2, .int v2), (3, .int v3)] := hl
  unfold fn_X12_tell at h
  refine lv_aload_n hx hb dX12_tell_0 rfl (lv_at hl 0 rfl) ?_
  refine ge_12_71 hx hb hts (inU inW_X12) hown hK hP k_172 (hts _ (List.mem_cons_of_mem _ lw_1505)) dX12_tell_1 ?_
  refine lv_bipush (v := 30) hx hb dX12_tell_4 (by decide) ?_
  refine lv_icmp_eq (tgt := 16) hx hb dX12_tell_6 (by decide) (fun c1 => ?_) (fun c1 => ?_)
  · rw [if_pos c1] at h
    refine lv_iconst (v := (-1)) hx hb dX12_tell_16 (by decide) ?_
    exact x_iret hx hb hr hlocks hK hP hS h dX12_tell_17
  · rw [if_neg c1] at h
    refine lv_aload_n hx hb dX12_tell_9 rfl (lv_at hl 0 rfl) ?_
    refine ge_12_43 hx hb hts (inU inW_X12) hown hK hP k_172 (hts _ (List.mem_cons_of_mem _ lw_1477)) dX12_tell_10 ?_
    refine lv_if_ne (tgt := 18) hx hb dX12_tell_13 (by decide) (fun c2 => ?_) (fun c2 => ?_)
    · rw [if_neg c2] at h
      refine lv_aload_n hx hb dX12_tell_18 rfl (lv_at hl 0 rfl) ?_
      refine ge_12_66 hx hb hts (inU inW_X12) hown hK hP k_172 (hts _ (List.mem_cons_of_mem _ lw_1500)) dX12_tell_19 ?_
      refine lv_aload_n hx hb dX12_tell_22 rfl (lv_at hl 0 rfl) ?_
      refine ge_12_71 hx hb hts (inU inW_X12) hown hK hP k_172 (hts _ (List.mem_cons_of_mem _ lw_1505)) dX12_tell_23 ?_
      refine lv_iload_n hx hb dX12_tell_26 rfl (lv_at hl 1 rfl) ?_
      obtain ⟨g3, h⟩ := gd_s h
      obtain ⟨z4, e_z4, h⟩ := nm_s h
      refine xs_14 hx hb hK hG hP hS k_206 l_206 (ix_in g3) dX12_tell_27 (fun H locs hP hS => ?_)
      rw [← e_z4] at hP
      refine lv_aload_n hx hb dX12_tell_28 rfl (lv_at hl 0 rfl) ?_
      refine ge_12_67 hx hb hts (inU inW_X12) hown hK hP k_172 (hts _ (List.mem_cons_of_mem _ lw_1501)) dX12_tell_29 ?_
      refine lv_aload_n hx hb dX12_tell_32 rfl (lv_at hl 0 rfl) ?_
      refine ge_12_71 hx hb hts (inU inW_X12) hown hK hP k_172 (hts _ (List.mem_cons_of_mem _ lw_1505)) dX12_tell_33 ?_
      refine lv_iload_n hx hb dX12_tell_36 rfl (lv_at hl 2 rfl) ?_
      obtain ⟨g5, h⟩ := gd_s h
      obtain ⟨z6, e_z6, h⟩ := nm_s h
      refine xs_14 hx hb hK hG hP hS k_207 l_207 (ix_in g5) dX12_tell_37 (fun H locs hP hS => ?_)
      rw [← e_z6] at hP
      refine lv_aload_n hx hb dX12_tell_38 rfl (lv_at hl 0 rfl) ?_
      refine ge_12_70 hx hb hts (inU inW_X12) hown hK hP k_172 (hts _ (List.mem_cons_of_mem _ lw_1504)) dX12_tell_39 ?_
      refine lv_aload_n hx hb dX12_tell_42 rfl (lv_at hl 0 rfl) ?_
      refine ge_12_71 hx hb hts (inU inW_X12) hown hK hP k_172 (hts _ (List.mem_cons_of_mem _ lw_1505)) dX12_tell_43 ?_
      refine lv_iload_n hx hb dX12_tell_46 rfl (lv_at hl 3 rfl) ?_
      obtain ⟨g7, h⟩ := gd_s h
      obtain ⟨g8, h⟩ := gd_s h
      obtain ⟨z9, e_z9, h⟩ := nm_s h
      refine xs_16 hx hb hK hG hP hS k_210 l_210 (ix_in g7) g8 dX12_tell_47 (fun H locs hP hS => ?_)
      rw [← e_z9] at hP
      refine lv_aload_n hx hb dX12_tell_48 rfl (lv_at hl 0 rfl) ?_
      refine ge_12_68 hx hb hts (inU inW_X12) hown hK hP k_172 (hts _ (List.mem_cons_of_mem _ lw_1502)) dX12_tell_49 ?_
      refine lv_aload_n hx hb dX12_tell_52 rfl (lv_at hl 0 rfl) ?_
      refine ge_12_71 hx hb hts (inU inW_X12) hown hK hP k_172 (hts _ (List.mem_cons_of_mem _ lw_1505)) dX12_tell_53 ?_
      refine lv_aload_n hx hb dX12_tell_56 rfl (lv_at hl 0 rfl) ?_
      refine ge_12_72 hx hb hts (inU inW_X12) hown hK hP k_172 (hts _ (List.mem_cons_of_mem _ lw_1506)) dX12_tell_57 ?_
      obtain ⟨g10, h⟩ := gd_s h
      obtain ⟨z11, e_z11, h⟩ := nm_s h
      refine xs_14 hx hb hK hG hP hS k_208 l_208 (ix_in g10) dX12_tell_60 (fun H locs hP hS => ?_)
      rw [← e_z11] at hP
      refine lv_aload_n hx hb dX12_tell_61 rfl (lv_at hl 0 rfl) ?_
      refine ge_12_69 hx hb hts (inU inW_X12) hown hK hP k_172 (hts _ (List.mem_cons_of_mem _ lw_1503)) dX12_tell_62 ?_
      refine lv_aload_n hx hb dX12_tell_65 rfl (lv_at hl 0 rfl) ?_
      refine ge_12_71 hx hb hts (inU inW_X12) hown hK hP k_172 (hts _ (List.mem_cons_of_mem _ lw_1505)) dX12_tell_66 ?_
      refine lv_iconst (v := (-1)) hx hb dX12_tell_69 (by decide) ?_
      obtain ⟨g12, h⟩ := gd_s h
      obtain ⟨z13, e_z13, h⟩ := nm_s h
      refine xs_14 hx hb hK hG hP hS k_209 l_209 (ix_in g12) dX12_tell_70 (fun H locs hP hS => ?_)
      rw [← e_z13] at hP
      refine lv_aload_n hx hb dX12_tell_71 rfl (lv_at hl 0 rfl) ?_
      refine lv_dup hx hb dX12_tell_72 rfl ?_
      refine ge_12_71 hx hb hts (inU inW_X12) hown hK hP k_172 (hts _ (List.mem_cons_of_mem _ lw_1505)) dX12_tell_73 ?_
      refine lv_iconst (v := 1) hx hb dX12_tell_76 (by decide) ?_
      refine lv_iadd hx hb dX12_tell_77 ?_
      obtain ⟨z14, e_z14, h⟩ := nm_s h
      refine pu_12_71 hx hb hts (inU inW_X12) hown hK hG hP hS k_172 (hts _ (List.mem_cons_of_mem _ lw_1505)) dX12_tell_78 (fun H locs hP hS => ?_)
      rw [← e_z14] at hP
      refine lv_aload_n hx hb dX12_tell_81 rfl (lv_at hl 0 rfl) ?_
      refine ge_12_71 hx hb hts (inU inW_X12) hown hK hP k_172 (hts _ (List.mem_cons_of_mem _ lw_1505)) dX12_tell_82 ?_
      refine lv_iconst (v := 1) hx hb dX12_tell_85 (by decide) ?_
      refine lv_isub hx hb dX12_tell_86 ?_
      exact x_iret hx hb hr hlocks hK hP hS h dX12_tell_87
    · rw [if_pos c2] at h
      refine lv_iconst (v := (-1)) hx hb dX12_tell_16 (by decide) ?_
      exact x_iret hx hb hr hlocks hK hP hS h dX12_tell_17
