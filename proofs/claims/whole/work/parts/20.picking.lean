def fn_X5_findHalves_200 (k30 : Int32 → Int32 → Nat → Int32 → Int32 → St → Option (Int32 × St)) (k39 : Int32 → Int32 → Nat → Int32 → Int32 → Int32 → St → Option (Int32 × St)) (v2 : Int32) (v3 : Int32) (p4 : Nat) (v5 : Int32) (v6 : Int32) (v7 : Int32) (z : St) : Option (Int32 × St) := k39 v2 v3 p4 v5 v6 (v7 + 1) z
set_option maxHeartbeats 4000000 in
set_option maxRecDepth 100000 in
theorem pf_X5_findHalves_200 {p : Program} {l : Launch} {e : Env} {s : State} {m : MethodId} {args : Array Value} {below : List Frame} {meth : Method} {c : Code} {G : wG} (C : CX p s m args meth c cX5_findHalves 10 (wsU yX5_findHalves cX5_findHalves 10 (some .boolean)) RX5 (some .boolean) G) {Rz : Int32 × St} {k30 : Int32 → Int32 → Nat → Int32 → Int32 → St → Option (Int32 × St)} {k39 : Int32 → Int32 → Nat → Int32 → Int32 → Int32 → St → Option (Int32 × St)} (hk_30 : ∀ (v2 : Int32) (v3 : Int32) (p4 : Nat) (v5 : Int32) (v6 : Int32) (z : St) (hk4 : kd p4 = 9) (H : Heap) (locs : List Loc) (ls : Array Slot), WP G z H → va_S (AW G) s.heap H locs → lv_has ls 10 [(0, .ref (G.2.2 156)), (2, .int v2), (3, .int v3), (4, .ref (G.2.2 p4)), (5, .int v5), (6, .int v6)] → k30 v2 v3 p4 v5 v6 z = some Rz → W p l e (rmd 5) s m args below meth c H locs 0 0 (QI below args s G Rz) (F0 m 30 ls [])) (hk_39 : ∀ (v2 : Int32) (v3 : Int32) (p4 : Nat) (v5 : Int32) (v6 : Int32) (v7 : Int32) (z : St) (hk4 : kd p4 = 9) (H : Heap) (locs : List Loc) (ls : Array Slot), WP G z H → va_S (AW G) s.heap H locs → lv_has ls 10 [(0, .ref (G.2.2 156)), (2, .int v2), (3, .int v3), (4, .ref (G.2.2 p4)), (5, .int v5), (6, .int v6), (7, .int v7)] → k39 v2 v3 p4 v5 v6 v7 z = some Rz → W p l e (rmd 5) s m args below meth c H locs 0 0 (QI below args s G Rz) (F0 m 39 ls [])) (v2 : Int32) (v3 : Int32) (p4 : Nat) (v5 : Int32) (v6 : Int32) (v7 : Int32) (z : St) (hk4 : kd p4 = 9) {H : Heap} {locs : List Loc} {ls : Array Slot} (hP : WP G z H) (hS : va_S (AW G) s.heap H locs) (hl : lv_has ls 10 [(0, .ref (G.2.2 156)), (2, .int v2), (3, .int v3), (4, .ref (G.2.2 p4)), (5, .int v5), (6, .int v6), (7, .int v7)]) (h : fn_X5_findHalves_200  k30 k39 v2 v3 p4 v5 v6 v7 z = some Rz) : W p l e (rmd 5) s m args below meth c H locs 0 0 (QI below args s G Rz) (F0 m 200 ls []) := by
  obtain ⟨hx, hb, hml, hown, hts, hr, hlocks, hK, hG⟩ := id C
  unfold fn_X5_findHalves_200 at h
  refine lv_iinc (v := (v7 + 1)) (lv' := [(7, .int (v7 + 1)), (0, .ref (G.2.2 156)), (2, .int v2), (3, .int v3), (4, .ref (G.2.2 p4)), (5, .int v5), (6, .int v6)]) hx hb dX5_findHalves_200 hl (k := 6) rfl rfl (by decide) rfl (fun ls hl => ?_)
  refine lv_goto (tgt := 39) hx hb dX5_findHalves_203 (by decide) ?_
  exact hk_39 v2 v3 p4 v5 v6 (v7 + 1) z hk4 _ _ _ hP hS (lv_sub hl [1, 2, 3, 4, 5, 6, 0] rfl) h
def fn_X5_findHalves_191 (k30 : Int32 → Int32 → Nat → Int32 → Int32 → St → Option (Int32 × St)) (k39 : Int32 → Int32 → Nat → Int32 → Int32 → Int32 → St → Option (Int32 × St)) (v2 : Int32) (v3 : Int32) (p4 : Nat) (v5 : Int32) (v6 : Int32) (v7 : Int32) (v9 : Int32) (tv1 : Int32) (z : St) : Option (Int32 × St) := nm (sI z 156 14 tv1) (fun z1 => nm (sI z1 156 15 v9) (fun z2 => fn_X5_findHalves_200  k30 k39 v2 v3 p4 v5 v6 v7 z2))
set_option maxHeartbeats 4000000 in
set_option maxRecDepth 100000 in
theorem pf_X5_findHalves_191 {p : Program} {l : Launch} {e : Env} {s : State} {m : MethodId} {args : Array Value} {below : List Frame} {meth : Method} {c : Code} {G : wG} (C : CX p s m args meth c cX5_findHalves 10 (wsU yX5_findHalves cX5_findHalves 10 (some .boolean)) RX5 (some .boolean) G) {Rz : Int32 × St} {k30 : Int32 → Int32 → Nat → Int32 → Int32 → St → Option (Int32 × St)} {k39 : Int32 → Int32 → Nat → Int32 → Int32 → Int32 → St → Option (Int32 × St)} (hk_30 : ∀ (v2 : Int32) (v3 : Int32) (p4 : Nat) (v5 : Int32) (v6 : Int32) (z : St) (hk4 : kd p4 = 9) (H : Heap) (locs : List Loc) (ls : Array Slot), WP G z H → va_S (AW G) s.heap H locs → lv_has ls 10 [(0, .ref (G.2.2 156)), (2, .int v2), (3, .int v3), (4, .ref (G.2.2 p4)), (5, .int v5), (6, .int v6)] → k30 v2 v3 p4 v5 v6 z = some Rz → W p l e (rmd 5) s m args below meth c H locs 0 0 (QI below args s G Rz) (F0 m 30 ls [])) (hk_39 : ∀ (v2 : Int32) (v3 : Int32) (p4 : Nat) (v5 : Int32) (v6 : Int32) (v7 : Int32) (z : St) (hk4 : kd p4 = 9) (H : Heap) (locs : List Loc) (ls : Array Slot), WP G z H → va_S (AW G) s.heap H locs → lv_has ls 10 [(0, .ref (G.2.2 156)), (2, .int v2), (3, .int v3), (4, .ref (G.2.2 p4)), (5, .int v5), (6, .int v6), (7, .int v7)] → k39 v2 v3 p4 v5 v6 v7 z = some Rz → W p l e (rmd 5) s m args below meth c H locs 0 0 (QI below args s G Rz) (F0 m 39 ls [])) (v2 : Int32) (v3 : Int32) (p4 : Nat) (v5 : Int32) (v6 : Int32) (v7 : Int32) (v9 : Int32) (tv1 : Int32) (z : St) (hk4 : kd p4 = 9) {H : Heap} {locs : List Loc} {ls : Array Slot} (hP : WP G z H) (hS : va_S (AW G) s.heap H locs) (hl : lv_has ls 10 [(0, .ref (G.2.2 156)), (2, .int v2), (3, .int v3), (4, .ref (G.2.2 p4)), (5, .int v5), (6, .int v6), (7, .int v7), (9, .int v9)]) (h : fn_X5_findHalves_191  k30 k39 v2 v3 p4 v5 v6 v7 v9 tv1 z = some Rz) : W p l e (rmd 5) s m args below meth c H locs 0 0 (QI below args s G Rz) (F0 m 191 ls [.int tv1, .ref (G.2.2 156)]) := by
  obtain ⟨hx, hb, hml, hown, hts, hr, hlocks, hK, hG⟩ := id C
  unfold fn_X5_findHalves_191 at h
  obtain ⟨z1, e_z1, h⟩ := nm_s h
  refine pu_5_14 hx hb hts (inU inW_X5) hown hK hG hP hS k_156 (hts _ (List.mem_cons_of_mem _ lw_584)) dX5_findHalves_191 (fun H locs hP hS => ?_)
  rw [← e_z1] at hP
  refine lv_aload_n hx hb dX5_findHalves_194 rfl (lv_at hl 0 rfl) ?_
  refine lv_iload hx hb dX5_findHalves_195 (lv_at hl 7 rfl) ?_
  obtain ⟨z2, e_z2, h⟩ := nm_s h
  refine pu_5_15 hx hb hts (inU inW_X5) hown hK hG hP hS k_156 (hts _ (List.mem_cons_of_mem _ lw_586)) dX5_findHalves_197 (fun H locs hP hS => ?_)
  rw [← e_z2] at hP
  exact pf_X5_findHalves_200 C  hk_30 hk_39 v2 v3 p4 v5 v6 v7 z2 hk4 hP hS (lv_sub hl [0, 1, 2, 3, 4, 5, 6] rfl) h
def fn_X5_findHalves_165 (k30 : Int32 → Int32 → Nat → Int32 → Int32 → St → Option (Int32 × St)) (k39 : Int32 → Int32 → Nat → Int32 → Int32 → Int32 → St → Option (Int32 × St)) (v2 : Int32) (v3 : Int32) (p4 : Nat) (v6 : Int32) (v7 : Int32) (v8 : Int32) (v9 : Int32) (z : St) : Option (Int32 × St) := nm (sI z 156 12 v6) (fun z1 => nm (sI z1 156 13 v7) (fun z2 => (if v8 = 0 then fn_X5_findHalves_191  k30 k39 v2 v3 p4 1 v6 v7 v9 0 z2 else fn_X5_findHalves_191  k30 k39 v2 v3 p4 1 v6 v7 v9 1 z2)))
set_option maxHeartbeats 4000000 in
set_option maxRecDepth 100000 in
theorem pf_X5_findHalves_165 {p : Program} {l : Launch} {e : Env} {s : State} {m : MethodId} {args : Array Value} {below : List Frame} {meth : Method} {c : Code} {G : wG} (C : CX p s m args meth c cX5_findHalves 10 (wsU yX5_findHalves cX5_findHalves 10 (some .boolean)) RX5 (some .boolean) G) {Rz : Int32 × St} {k30 : Int32 → Int32 → Nat → Int32 → Int32 → St → Option (Int32 × St)} {k39 : Int32 → Int32 → Nat → Int32 → Int32 → Int32 → St → Option (Int32 × St)} (hk_30 : ∀ (v2 : Int32) (v3 : Int32) (p4 : Nat) (v5 : Int32) (v6 : Int32) (z : St) (hk4 : kd p4 = 9) (H : Heap) (locs : List Loc) (ls : Array Slot), WP G z H → va_S (AW G) s.heap H locs → lv_has ls 10 [(0, .ref (G.2.2 156)), (2, .int v2), (3, .int v3), (4, .ref (G.2.2 p4)), (5, .int v5), (6, .int v6)] → k30 v2 v3 p4 v5 v6 z = some Rz → W p l e (rmd 5) s m args below meth c H locs 0 0 (QI below args s G Rz) (F0 m 30 ls [])) (hk_39 : ∀ (v2 : Int32) (v3 : Int32) (p4 : Nat) (v5 : Int32) (v6 : Int32) (v7 : Int32) (z : St) (hk4 : kd p4 = 9) (H : Heap) (locs : List Loc) (ls : Array Slot), WP G z H → va_S (AW G) s.heap H locs → lv_has ls 10 [(0, .ref (G.2.2 156)), (2, .int v2), (3, .int v3), (4, .ref (G.2.2 p4)), (5, .int v5), (6, .int v6), (7, .int v7)] → k39 v2 v3 p4 v5 v6 v7 z = some Rz → W p l e (rmd 5) s m args below meth c H locs 0 0 (QI below args s G Rz) (F0 m 39 ls [])) (v2 : Int32) (v3 : Int32) (p4 : Nat) (v6 : Int32) (v7 : Int32) (v8 : Int32) (v9 : Int32) (z : St) (hk4 : kd p4 = 9) {H : Heap} {locs : List Loc} {ls : Array Slot} (hP : WP G z H) (hS : va_S (AW G) s.heap H locs) (hl : lv_has ls 10 [(0, .ref (G.2.2 156)), (2, .int v2), (3, .int v3), (4, .ref (G.2.2 p4)), (6, .int v6), (7, .int v7), (8, .int v8), (9, .int v9)]) (h : fn_X5_findHalves_165  k30 k39 v2 v3 p4 v6 v7 v8 v9 z = some Rz) : W p l e (rmd 5) s m args below meth c H locs 0 0 (QI below args s G Rz) (F0 m 165 ls []) := by
  obtain ⟨hx, hb, hml, hown, hts, hr, hlocks, hK, hG⟩ := id C
  unfold fn_X5_findHalves_165 at h
  refine lv_iconst (v := 1) hx hb dX5_findHalves_165 (by decide) ?_
  refine lv_istore (lv' := [(5, .int 1), (0, .ref (G.2.2 156)), (2, .int v2), (3, .int v3), (4, .ref (G.2.2 p4)), (6, .int v6), (7, .int v7), (8, .int v8), (9, .int v9)]) hx hb dX5_findHalves_166 hl (by decide) rfl (fun ls hl => ?_)
  refine lv_aload_n hx hb dX5_findHalves_168 rfl (lv_at hl 1 rfl) ?_
  refine lv_iload hx hb dX5_findHalves_169 (lv_at hl 5 rfl) ?_
  obtain ⟨z1, e_z1, h⟩ := nm_s h
  refine pu_5_12 hx hb hts (inU inW_X5) hown hK hG hP hS k_156 (hts _ (List.mem_cons_of_mem _ lw_580)) dX5_findHalves_171 (fun H locs hP hS => ?_)
  rw [← e_z1] at hP
  refine lv_aload_n hx hb dX5_findHalves_174 rfl (lv_at hl 1 rfl) ?_
  refine lv_iload hx hb dX5_findHalves_175 (lv_at hl 6 rfl) ?_
  obtain ⟨z2, e_z2, h⟩ := nm_s h
  refine pu_5_13 hx hb hts (inU inW_X5) hown hK hG hP hS k_156 (hts _ (List.mem_cons_of_mem _ lw_582)) dX5_findHalves_177 (fun H locs hP hS => ?_)
  rw [← e_z2] at hP
  refine lv_aload_n hx hb dX5_findHalves_180 rfl (lv_at hl 1 rfl) ?_
  refine lv_iload hx hb dX5_findHalves_181 (lv_at hl 7 rfl) ?_
  refine lv_if_eq (tgt := 190) hx hb dX5_findHalves_183 (by decide) (fun c3 => ?_) (fun c3 => ?_)
  · rw [if_pos c3] at h
    refine lv_iconst (v := 0) hx hb dX5_findHalves_190 (by decide) ?_
    exact pf_X5_findHalves_191 C  hk_30 hk_39 v2 v3 p4 1 v6 v7 v9 0 z2 hk4 hP hS (lv_sub hl [1, 2, 3, 4, 0, 5, 6, 8] rfl) h
  · rw [if_neg c3] at h
    refine lv_iconst (v := 1) hx hb dX5_findHalves_186 (by decide) ?_
    refine lv_goto (tgt := 191) hx hb dX5_findHalves_187 (by decide) ?_
    exact pf_X5_findHalves_191 C  hk_30 hk_39 v2 v3 p4 1 v6 v7 v9 1 z2 hk4 hP hS (lv_sub hl [1, 2, 3, 4, 0, 5, 6, 8] rfl) h
def fn_X5_findHalves_146 (k30 : Int32 → Int32 → Nat → Int32 → Int32 → St → Option (Int32 × St)) (k39 : Int32 → Int32 → Nat → Int32 → Int32 → Int32 → St → Option (Int32 × St)) (v2 : Int32) (v3 : Int32) (p4 : Nat) (v5 : Int32) (v6 : Int32) (v7 : Int32) (v8 : Int32) (tv1 : Int32) (tp2 : Nat) (z : St) : Option (Int32 × St) := bd (fn_X10_ofSlab  tv1 tp2 z) (fun r2 z3 => (if v5 = 0 then fn_X5_findHalves_165  k30 k39 v2 v3 p4 v6 v7 v8 r2 z3 else (if r2 ≤ (z3.1 156 15) then fn_X5_findHalves_200  k30 k39 v2 v3 p4 v5 v6 v7 z3 else fn_X5_findHalves_165  k30 k39 v2 v3 p4 v6 v7 v8 r2 z3)))
set_option maxHeartbeats 4000000 in
set_option maxRecDepth 100000 in
theorem pf_X5_findHalves_146 {p : Program} {l : Launch} {e : Env} {s : State} {m : MethodId} {args : Array Value} {below : List Frame} {meth : Method} {c : Code} {G : wG} (C : CX p s m args meth c cX5_findHalves 10 (wsU yX5_findHalves cX5_findHalves 10 (some .boolean)) RX5 (some .boolean) G) {Rz : Int32 × St} {k30 : Int32 → Int32 → Nat → Int32 → Int32 → St → Option (Int32 × St)} {k39 : Int32 → Int32 → Nat → Int32 → Int32 → Int32 → St → Option (Int32 × St)} (hk_30 : ∀ (v2 : Int32) (v3 : Int32) (p4 : Nat) (v5 : Int32) (v6 : Int32) (z : St) (hk4 : kd p4 = 9) (H : Heap) (locs : List Loc) (ls : Array Slot), WP G z H → va_S (AW G) s.heap H locs → lv_has ls 10 [(0, .ref (G.2.2 156)), (2, .int v2), (3, .int v3), (4, .ref (G.2.2 p4)), (5, .int v5), (6, .int v6)] → k30 v2 v3 p4 v5 v6 z = some Rz → W p l e (rmd 5) s m args below meth c H locs 0 0 (QI below args s G Rz) (F0 m 30 ls [])) (hk_39 : ∀ (v2 : Int32) (v3 : Int32) (p4 : Nat) (v5 : Int32) (v6 : Int32) (v7 : Int32) (z : St) (hk4 : kd p4 = 9) (H : Heap) (locs : List Loc) (ls : Array Slot), WP G z H → va_S (AW G) s.heap H locs → lv_has ls 10 [(0, .ref (G.2.2 156)), (2, .int v2), (3, .int v3), (4, .ref (G.2.2 p4)), (5, .int v5), (6, .int v6), (7, .int v7)] → k39 v2 v3 p4 v5 v6 v7 z = some Rz → W p l e (rmd 5) s m args below meth c H locs 0 0 (QI below args s G Rz) (F0 m 39 ls [])) (v2 : Int32) (v3 : Int32) (p4 : Nat) (v5 : Int32) (v6 : Int32) (v7 : Int32) (v8 : Int32) (tv1 : Int32) (tp2 : Nat) (z : St) (hk4 : kd p4 = 9) (hkt2 : kd tp2 = 9) {H : Heap} {locs : List Loc} {ls : Array Slot} (hP : WP G z H) (hS : va_S (AW G) s.heap H locs) (hl : lv_has ls 10 [(0, .ref (G.2.2 156)), (2, .int v2), (3, .int v3), (4, .ref (G.2.2 p4)), (5, .int v5), (6, .int v6), (7, .int v7), (8, .int v8)]) (h : fn_X5_findHalves_146  k30 k39 v2 v3 p4 v5 v6 v7 v8 tv1 tp2 z = some Rz) : W p l e (rmd 5) s m args below meth c H locs 0 0 (QI below args s G Rz) (F0 m 146 ls [.ref (G.2.2 tp2), .int tv1, .ref (G.2.2 143)]) := by
  obtain ⟨hx, hb, hml, hown, hts, hr, hlocks, hK, hG⟩ := id C
  unfold fn_X5_findHalves_146 at h
  obtain ⟨r2, z3, h1, h⟩ := bd_s h
  refine x_Vi (Rz := (r2, z3)) (As := [.int tv1, .ref (G.2.2 tp2)]) (rest := []) ⟨hx, hb, hml, hown, hts⟩ hK hP hS (kd_lt k_143 (by decide)) (cell_10 k_143) rfl (m_X10_ofSlab hG  hkt2 h1) (cwV 2 hts (gV lw_1240 lw_972 lw_973 lw_119 lw_974) rfl rfl rfl (by decide +kernel) (rmd_ok (by decide) (by decide))) rfl hl.1 rfl (Nat.le_of_ble_eq_true rfl) dX5_findHalves_146 ⟨Nat.le_refl _, Nat.le_refl _⟩ (fun H locs hP hS => ?_)
  refine lv_istore (lv' := [(9, .int r2), (0, .ref (G.2.2 156)), (2, .int v2), (3, .int v3), (4, .ref (G.2.2 p4)), (5, .int v5), (6, .int v6), (7, .int v7), (8, .int v8)]) hx hb dX5_findHalves_149 hl (by decide) rfl (fun ls hl => ?_)
  refine lv_iload hx hb dX5_findHalves_151 (lv_at hl 5 rfl) ?_
  refine lv_if_eq (tgt := 165) hx hb dX5_findHalves_153 (by decide) (fun c4 => ?_) (fun c4 => ?_)
  · rw [if_pos c4] at h
    exact pf_X5_findHalves_165 C  hk_30 hk_39 v2 v3 p4 v6 v7 v8 r2 z3 hk4 hP hS (lv_sub hl [1, 2, 3, 4, 6, 7, 8, 0] rfl) h
  · rw [if_neg c4] at h
    refine lv_iload hx hb dX5_findHalves_156 (lv_at hl 0 rfl) ?_
    refine lv_aload_n hx hb dX5_findHalves_158 rfl (lv_at hl 1 rfl) ?_
    refine ge_5_15 hx hb hts (inU inW_X5) hown hK hP k_156 (hts _ (List.mem_cons_of_mem _ lw_586)) dX5_findHalves_159 ?_
    refine lv_icmp_le (tgt := 200) hx hb dX5_findHalves_162 (by decide) (fun c5 => ?_) (fun c5 => ?_)
    · rw [if_pos c5] at h
      exact pf_X5_findHalves_200 C  hk_30 hk_39 v2 v3 p4 v5 v6 v7 z3 hk4 hP hS (lv_sub hl [1, 2, 3, 4, 5, 6, 7] rfl) h
    · rw [if_neg c5] at h
      exact pf_X5_findHalves_165 C  hk_30 hk_39 v2 v3 p4 v6 v7 v8 r2 z3 hk4 hP hS (lv_sub hl [1, 2, 3, 4, 6, 7, 8, 0] rfl) h
def fn_X5_findHalves_123 (k30 : Int32 → Int32 → Nat → Int32 → Int32 → St → Option (Int32 × St)) (k39 : Int32 → Int32 → Nat → Int32 → Int32 → Int32 → St → Option (Int32 × St)) (v2 : Int32) (v3 : Int32) (p4 : Nat) (v5 : Int32) (v6 : Int32) (v7 : Int32) (tv0 : Int32) (z : St) : Option (Int32 × St) := (if tv0 = 0 then fn_X5_findHalves_146  k30 k39 v2 v3 p4 v5 v6 v7 tv0 v2 158 z else fn_X5_findHalves_146  k30 k39 v2 v3 p4 v5 v6 v7 tv0 v2 157 z)
set_option maxHeartbeats 4000000 in
set_option maxRecDepth 100000 in
theorem pf_X5_findHalves_123 {p : Program} {l : Launch} {e : Env} {s : State} {m : MethodId} {args : Array Value} {below : List Frame} {meth : Method} {c : Code} {G : wG} (C : CX p s m args meth c cX5_findHalves 10 (wsU yX5_findHalves cX5_findHalves 10 (some .boolean)) RX5 (some .boolean) G) {Rz : Int32 × St} {k30 : Int32 → Int32 → Nat → Int32 → Int32 → St → Option (Int32 × St)} {k39 : Int32 → Int32 → Nat → Int32 → Int32 → Int32 → St → Option (Int32 × St)} (hk_30 : ∀ (v2 : Int32) (v3 : Int32) (p4 : Nat) (v5 : Int32) (v6 : Int32) (z : St) (hk4 : kd p4 = 9) (H : Heap) (locs : List Loc) (ls : Array Slot), WP G z H → va_S (AW G) s.heap H locs → lv_has ls 10 [(0, .ref (G.2.2 156)), (2, .int v2), (3, .int v3), (4, .ref (G.2.2 p4)), (5, .int v5), (6, .int v6)] → k30 v2 v3 p4 v5 v6 z = some Rz → W p l e (rmd 5) s m args below meth c H locs 0 0 (QI below args s G Rz) (F0 m 30 ls [])) (hk_39 : ∀ (v2 : Int32) (v3 : Int32) (p4 : Nat) (v5 : Int32) (v6 : Int32) (v7 : Int32) (z : St) (hk4 : kd p4 = 9) (H : Heap) (locs : List Loc) (ls : Array Slot), WP G z H → va_S (AW G) s.heap H locs → lv_has ls 10 [(0, .ref (G.2.2 156)), (2, .int v2), (3, .int v3), (4, .ref (G.2.2 p4)), (5, .int v5), (6, .int v6), (7, .int v7)] → k39 v2 v3 p4 v5 v6 v7 z = some Rz → W p l e (rmd 5) s m args below meth c H locs 0 0 (QI below args s G Rz) (F0 m 39 ls [])) (v2 : Int32) (v3 : Int32) (p4 : Nat) (v5 : Int32) (v6 : Int32) (v7 : Int32) (tv0 : Int32) (z : St) (hk4 : kd p4 = 9) {H : Heap} {locs : List Loc} {ls : Array Slot} (hP : WP G z H) (hS : va_S (AW G) s.heap H locs) (hl : lv_has ls 10 [(0, .ref (G.2.2 156)), (2, .int v2), (3, .int v3), (4, .ref (G.2.2 p4)), (5, .int v5), (6, .int v6), (7, .int v7)]) (h : fn_X5_findHalves_123  k30 k39 v2 v3 p4 v5 v6 v7 tv0 z = some Rz) : W p l e (rmd 5) s m args below meth c H locs 0 0 (QI below args s G Rz) (F0 m 123 ls [.int tv0]) := by
  obtain ⟨hx, hb, hml, hown, hts, hr, hlocks, hK, hG⟩ := id C
  unfold fn_X5_findHalves_123 at h
  refine lv_istore (lv' := [(8, .int tv0), (0, .ref (G.2.2 156)), (2, .int v2), (3, .int v3), (4, .ref (G.2.2 p4)), (5, .int v5), (6, .int v6), (7, .int v7)]) hx hb dX5_findHalves_123 hl (by decide) rfl (fun ls hl => ?_)
  refine lv_aload_n hx hb dX5_findHalves_125 rfl (lv_at hl 1 rfl) ?_
  refine ge_5_2 hx hb hts (inU inW_X5) hown hK hP k_156 (hts _ (List.mem_cons_of_mem _ lw_569)) dX5_findHalves_126 ?_
  refine lv_iload_n hx hb dX5_findHalves_129 rfl (lv_at hl 2 rfl) ?_
  refine lv_iload hx hb dX5_findHalves_130 (lv_at hl 0 rfl) ?_
  refine lv_if_eq (tgt := 142) hx hb dX5_findHalves_132 (by decide) (fun c1 => ?_) (fun c1 => ?_)
  · rw [if_pos c1] at h
    refine lv_aload_n hx hb dX5_findHalves_142 rfl (lv_at hl 1 rfl) ?_
    refine ge_5_4 hx hb hts (inU inW_X5) hown hK hP k_156 (hts _ (List.mem_cons_of_mem _ lw_571)) dX5_findHalves_143 ?_
    exact pf_X5_findHalves_146 C  hk_30 hk_39 v2 v3 p4 v5 v6 v7 tv0 v2 158 z hk4 k_158 hP hS (lv_sub hl [1, 2, 3, 4, 5, 6, 7, 0] rfl) h
  · rw [if_neg c1] at h
    refine lv_aload_n hx hb dX5_findHalves_135 rfl (lv_at hl 1 rfl) ?_
    refine ge_5_3 hx hb hts (inU inW_X5) hown hK hP k_156 (hts _ (List.mem_cons_of_mem _ lw_570)) dX5_findHalves_136 ?_
    refine lv_goto (tgt := 146) hx hb dX5_findHalves_139 (by decide) ?_
    exact pf_X5_findHalves_146 C  hk_30 hk_39 v2 v3 p4 v5 v6 v7 tv0 v2 157 z hk4 k_157 hP hS (lv_sub hl [1, 2, 3, 4, 5, 6, 7, 0] rfl) h
def fn_X5_findHalves_39 (k30 : Int32 → Int32 → Nat → Int32 → Int32 → St → Option (Int32 × St)) : Nat → Int32 → Int32 → Nat → Int32 → Int32 → Int32 → St → Option (Int32 × St)
  | 0, _, _, _, _, _, _, _ => none
  | n + 1, v2, v3, p4, v5, v6, v7, z => bd (fn_X9_extent  p4 v6 z) (fun r2 z3 => (if r2 ≤ v7 then k30 v2 v3 p4 v5 (v6 + 1) z3 else bv (fn_X9_takeFrom  157 p4 z3) (fun z6 => bv (fn_X9_keepAhead  157 v6 v7 z6) (fun z8 => bv (fn_X9_takeFrom  158 p4 z8) (fun z10 => bv (fn_X9_keepBehind  158 v6 v7 z10) (fun z12 => bd (fn_X10_ofSlab  v3 158 z12) (fun r14 z15 => bd (fn_X10_ofSlab  v3 157 z15) (fun r17 z18 => (if r14 ≤ r17 then fn_X5_findHalves_123  k30 (fn_X5_findHalves_39  k30 n) v2 v3 p4 v5 v6 v7 0 z18 else fn_X5_findHalves_123  k30 (fn_X5_findHalves_39  k30 n) v2 v3 p4 v5 v6 v7 1 z18)))))))))
set_option maxHeartbeats 4000000 in
set_option maxRecDepth 100000 in
theorem pf_X5_findHalves_39 {p : Program} {l : Launch} {e : Env} {s : State} {m : MethodId} {args : Array Value} {below : List Frame} {meth : Method} {c : Code} {G : wG} (C : CX p s m args meth c cX5_findHalves 10 (wsU yX5_findHalves cX5_findHalves 10 (some .boolean)) RX5 (some .boolean) G) {Rz : Int32 × St} {k30 : Int32 → Int32 → Nat → Int32 → Int32 → St → Option (Int32 × St)} (hk_30 : ∀ (v2 : Int32) (v3 : Int32) (p4 : Nat) (v5 : Int32) (v6 : Int32) (z : St) (hk4 : kd p4 = 9) (H : Heap) (locs : List Loc) (ls : Array Slot), WP G z H → va_S (AW G) s.heap H locs → lv_has ls 10 [(0, .ref (G.2.2 156)), (2, .int v2), (3, .int v3), (4, .ref (G.2.2 p4)), (5, .int v5), (6, .int v6)] → k30 v2 v3 p4 v5 v6 z = some Rz → W p l e (rmd 5) s m args below meth c H locs 0 0 (QI below args s G Rz) (F0 m 30 ls [])) : ∀ (n : Nat) (v2 : Int32) (v3 : Int32) (p4 : Nat) (v5 : Int32) (v6 : Int32) (v7 : Int32) (z : St) (hk4 : kd p4 = 9) (H : Heap) (locs : List Loc) (ls : Array Slot), WP G z H → va_S (AW G) s.heap H locs → lv_has ls 10 [(0, .ref (G.2.2 156)), (2, .int v2), (3, .int v3), (4, .ref (G.2.2 p4)), (5, .int v5), (6, .int v6), (7, .int v7)] → fn_X5_findHalves_39  k30 n v2 v3 p4 v5 v6 v7 z = some Rz → W p l e (rmd 5) s m args below meth c H locs 0 0 (QI below args s G Rz) (F0 m 39 ls []) := by
  obtain ⟨hx, hb, hml, hown, hts, hr, hlocks, hK, hG⟩ := id C
  intro n
  induction n with
  | zero => intro v2 v3 p4 v5 v6 v7 z hk4 H locs ls hP hS hl h; cases h
  | succ n ih =>
    intro v2 v3 p4 v5 v6 v7 z hk4 H locs ls hP hS hl h
    rw [fn_X5_findHalves_39] at h
    refine lv_iload hx hb dX5_findHalves_39 (lv_at hl 6 rfl) ?_
    refine lv_aload hx hb dX5_findHalves_41 (lv_at hl 3 rfl) ?_
    refine lv_iload hx hb dX5_findHalves_43 (lv_at hl 5 rfl) ?_
    obtain ⟨r2, z3, h1, h⟩ := bd_s h
    refine x_Vi (Rz := (r2, z3)) (As := [.int v6]) (rest := [.int v7]) ⟨hx, hb, hml, hown, hts⟩ hK hP hS (kd_lt hk4 (by decide)) (cell_9 hk4) rfl (m_X9_extent hG  hk4 h1) (cwV 1 hts (gV lw_1236 lw_1015 lw_1016 lw_118 lw_1017) rfl rfl rfl (by decide +kernel) (rmd_ok (by decide) (by decide))) rfl hl.1 rfl (Nat.le_of_ble_eq_true rfl) dX5_findHalves_45 ⟨Nat.le_refl _, Nat.le_refl _⟩ (fun H locs hP hS => ?_)
    refine lv_icmp_ge (tgt := 206) hx hb dX5_findHalves_48 (by decide) (fun c4 => ?_) (fun c4 => ?_)
    · rw [if_pos c4] at h
      refine lv_iinc (v := (v6 + 1)) (lv' := [(6, .int (v6 + 1)), (0, .ref (G.2.2 156)), (2, .int v2), (3, .int v3), (4, .ref (G.2.2 p4)), (5, .int v5), (7, .int v7)]) hx hb dX5_findHalves_206 hl (k := 5) rfl rfl (by decide) rfl (fun ls hl => ?_)
      refine lv_goto (tgt := 30) hx hb dX5_findHalves_209 (by decide) ?_
      exact hk_30 v2 v3 p4 v5 (v6 + 1) z3 hk4 _ _ _ hP hS (lv_sub hl [1, 2, 3, 4, 5, 0] rfl) h
    · rw [if_neg c4] at h
      refine lv_aload_n hx hb dX5_findHalves_51 rfl (lv_at hl 0 rfl) ?_
      refine ge_5_3 hx hb hts (inU inW_X5) hown hK hP k_156 (hts _ (List.mem_cons_of_mem _ lw_570)) dX5_findHalves_52 ?_
      refine lv_aload hx hb dX5_findHalves_55 (lv_at hl 3 rfl) ?_
      obtain ⟨z6, h5, h⟩ := bv_s h
      refine x_Vv (Rz := z6) (As := [.ref (G.2.2 p4)]) (rest := []) ⟨hx, hb, hml, hown, hts⟩ hK hP hS (kd_lt k_157 (by decide)) (cell_9 k_157) rfl (m_X9_takeFrom hG  k_157 hk4 h5) (cwV 1 hts (gV lw_1237 lw_1053 lw_1054 lw_118 lw_1055) rfl rfl rfl (by decide +kernel) (rmd_ok (by decide) (by decide))) rfl hl.1 rfl (Nat.le_of_ble_eq_true rfl) dX5_findHalves_57 ⟨Nat.le_refl _, Nat.le_refl _⟩ (fun H locs hP hS => ?_)
      refine lv_aload_n hx hb dX5_findHalves_60 rfl (lv_at hl 0 rfl) ?_
      refine ge_5_3 hx hb hts (inU inW_X5) hown hK hP k_156 (hts _ (List.mem_cons_of_mem _ lw_570)) dX5_findHalves_61 ?_
      refine lv_iload hx hb dX5_findHalves_64 (lv_at hl 5 rfl) ?_
      refine lv_iload hx hb dX5_findHalves_66 (lv_at hl 6 rfl) ?_
      obtain ⟨z8, h7, h⟩ := bv_s h
      refine x_Vv (Rz := z8) (As := [.int v6, .int v7]) (rest := []) ⟨hx, hb, hml, hown, hts⟩ hK hP hS (kd_lt k_157 (by decide)) (cell_9 k_157) rfl (m_X9_keepAhead hG  k_157 h7) (cwV 2 hts (gV lw_1238 lw_1061 lw_1062 lw_118 lw_1063) rfl rfl rfl (by decide +kernel) (rmd_ok (by decide) (by decide))) rfl hl.1 rfl (Nat.le_of_ble_eq_true rfl) dX5_findHalves_68 ⟨Nat.le_refl _, Nat.le_refl _⟩ (fun H locs hP hS => ?_)
      refine lv_aload_n hx hb dX5_findHalves_71 rfl (lv_at hl 0 rfl) ?_
      refine ge_5_4 hx hb hts (inU inW_X5) hown hK hP k_156 (hts _ (List.mem_cons_of_mem _ lw_571)) dX5_findHalves_72 ?_
      refine lv_aload hx hb dX5_findHalves_75 (lv_at hl 3 rfl) ?_
      obtain ⟨z10, h9, h⟩ := bv_s h
      refine x_Vv (Rz := z10) (As := [.ref (G.2.2 p4)]) (rest := []) ⟨hx, hb, hml, hown, hts⟩ hK hP hS (kd_lt k_158 (by decide)) (cell_9 k_158) rfl (m_X9_takeFrom hG  k_158 hk4 h9) (cwV 1 hts (gV lw_1237 lw_1053 lw_1054 lw_118 lw_1055) rfl rfl rfl (by decide +kernel) (rmd_ok (by decide) (by decide))) rfl hl.1 rfl (Nat.le_of_ble_eq_true rfl) dX5_findHalves_77 ⟨Nat.le_refl _, Nat.le_refl _⟩ (fun H locs hP hS => ?_)
      refine lv_aload_n hx hb dX5_findHalves_80 rfl (lv_at hl 0 rfl) ?_
      refine ge_5_4 hx hb hts (inU inW_X5) hown hK hP k_156 (hts _ (List.mem_cons_of_mem _ lw_571)) dX5_findHalves_81 ?_
      refine lv_iload hx hb dX5_findHalves_84 (lv_at hl 5 rfl) ?_
      refine lv_iload hx hb dX5_findHalves_86 (lv_at hl 6 rfl) ?_
      obtain ⟨z12, h11, h⟩ := bv_s h
      refine x_Vv (Rz := z12) (As := [.int v6, .int v7]) (rest := []) ⟨hx, hb, hml, hown, hts⟩ hK hP hS (kd_lt k_158 (by decide)) (cell_9 k_158) rfl (m_X9_keepBehind hG  k_158 h11) (cwV 2 hts (gV lw_1239 lw_1057 lw_1058 lw_118 lw_1059) rfl rfl rfl (by decide +kernel) (rmd_ok (by decide) (by decide))) rfl hl.1 rfl (Nat.le_of_ble_eq_true rfl) dX5_findHalves_88 ⟨Nat.le_refl _, Nat.le_refl _⟩ (fun H locs hP hS => ?_)
      refine lv_aload_n hx hb dX5_findHalves_91 rfl (lv_at hl 0 rfl) ?_
      refine ge_5_2 hx hb hts (inU inW_X5) hown hK hP k_156 (hts _ (List.mem_cons_of_mem _ lw_569)) dX5_findHalves_92 ?_
      refine lv_iload_n hx hb dX5_findHalves_95 rfl (lv_at hl 2 rfl) ?_
      refine lv_aload_n hx hb dX5_findHalves_96 rfl (lv_at hl 0 rfl) ?_
      refine ge_5_4 hx hb hts (inU inW_X5) hown hK hP k_156 (hts _ (List.mem_cons_of_mem _ lw_571)) dX5_findHalves_97 ?_
      obtain ⟨r14, z15, h13, h⟩ := bd_s h
      refine x_Vi (Rz := (r14, z15)) (As := [.int v3, .ref (G.2.2 158)]) (rest := []) ⟨hx, hb, hml, hown, hts⟩ hK hP hS (kd_lt k_143 (by decide)) (cell_10 k_143) rfl (m_X10_ofSlab hG  k_158 h13) (cwV 2 hts (gV lw_1240 lw_972 lw_973 lw_119 lw_974) rfl rfl rfl (by decide +kernel) (rmd_ok (by decide) (by decide))) rfl hl.1 rfl (Nat.le_of_ble_eq_true rfl) dX5_findHalves_100 ⟨Nat.le_refl _, Nat.le_refl _⟩ (fun H locs hP hS => ?_)
      refine lv_aload_n hx hb dX5_findHalves_103 rfl (lv_at hl 0 rfl) ?_
      refine ge_5_2 hx hb hts (inU inW_X5) hown hK hP k_156 (hts _ (List.mem_cons_of_mem _ lw_569)) dX5_findHalves_104 ?_
      refine lv_iload_n hx hb dX5_findHalves_107 rfl (lv_at hl 2 rfl) ?_
      refine lv_aload_n hx hb dX5_findHalves_108 rfl (lv_at hl 0 rfl) ?_
      refine ge_5_3 hx hb hts (inU inW_X5) hown hK hP k_156 (hts _ (List.mem_cons_of_mem _ lw_570)) dX5_findHalves_109 ?_
      obtain ⟨r17, z18, h16, h⟩ := bd_s h
      refine x_Vi (Rz := (r17, z18)) (As := [.int v3, .ref (G.2.2 157)]) (rest := [.int r14]) ⟨hx, hb, hml, hown, hts⟩ hK hP hS (kd_lt k_143 (by decide)) (cell_10 k_143) rfl (m_X10_ofSlab hG  k_157 h16) (cwV 2 hts (gV lw_1240 lw_972 lw_973 lw_119 lw_974) rfl rfl rfl (by decide +kernel) (rmd_ok (by decide) (by decide))) rfl hl.1 rfl (Nat.le_of_ble_eq_true rfl) dX5_findHalves_112 ⟨Nat.le_refl _, Nat.le_refl _⟩ (fun H locs hP hS => ?_)
      refine lv_icmp_le (tgt := 122) hx hb dX5_findHalves_115 (by decide) (fun c19 => ?_) (fun c19 => ?_)
      · rw [if_pos c19] at h
        refine lv_iconst (v := 0) hx hb dX5_findHalves_122 (by decide) ?_
        exact pf_X5_findHalves_123 C  hk_30 ih v2 v3 p4 v5 v6 v7 0 z18 hk4 hP hS (lv_sub hl [0, 1, 2, 3, 4, 5, 6] rfl) h
      · rw [if_neg c19] at h
        refine lv_iconst (v := 1) hx hb dX5_findHalves_118 (by decide) ?_
        refine lv_goto (tgt := 123) hx hb dX5_findHalves_119 (by decide) ?_
        exact pf_X5_findHalves_123 C  hk_30 ih v2 v3 p4 v5 v6 v7 1 z18 hk4 hP hS (lv_sub hl [0, 1, 2, 3, 4, 5, 6] rfl) h
def fn_X5_findHalves_30 : Nat → Int32 → Int32 → Nat → Int32 → Int32 → St → Option (Int32 × St)
  | 0, _, _, _, _, _, _ => none
  | n + 1, v2, v3, p4, v5, v6, z => (if 1 < v6 then gd (zok v5) (some (v5, z)) else fn_X5_findHalves_39  (fn_X5_findHalves_30   n) fu v2 v3 p4 v5 v6 1 z)
set_option maxHeartbeats 4000000 in
set_option maxRecDepth 100000 in
theorem pf_X5_findHalves_30 {p : Program} {l : Launch} {e : Env} {s : State} {m : MethodId} {args : Array Value} {below : List Frame} {meth : Method} {c : Code} {G : wG} (C : CX p s m args meth c cX5_findHalves 10 (wsU yX5_findHalves cX5_findHalves 10 (some .boolean)) RX5 (some .boolean) G) {Rz : Int32 × St} : ∀ (n : Nat) (v2 : Int32) (v3 : Int32) (p4 : Nat) (v5 : Int32) (v6 : Int32) (z : St) (hk4 : kd p4 = 9) (H : Heap) (locs : List Loc) (ls : Array Slot), WP G z H → va_S (AW G) s.heap H locs → lv_has ls 10 [(0, .ref (G.2.2 156)), (2, .int v2), (3, .int v3), (4, .ref (G.2.2 p4)), (5, .int v5), (6, .int v6)] → fn_X5_findHalves_30   n v2 v3 p4 v5 v6 z = some Rz → W p l e (rmd 5) s m args below meth c H locs 0 0 (QI below args s G Rz) (F0 m 30 ls []) := by
  obtain ⟨hx, hb, hml, hown, hts, hr, hlocks, hK, hG⟩ := id C
  intro n
  induction n with
  | zero => intro v2 v3 p4 v5 v6 z hk4 H locs ls hP hS hl h; cases h
  | succ n ih =>
    intro v2 v3 p4 v5 v6 z hk4 H locs ls hP hS hl h
    rw [fn_X5_findHalves_30] at h
    refine lv_iload hx hb dX5_findHalves_30 (lv_at hl 5 rfl) ?_
    refine lv_iconst (v := 1) hx hb dX5_findHalves_32 (by decide) ?_
    refine lv_icmp_gt (tgt := 212) hx hb dX5_findHalves_33 (by decide) (fun c1 => ?_) (fun c1 => ?_)
    · rw [if_pos c1] at h
      refine lv_iload hx hb dX5_findHalves_212 (lv_at hl 4 rfl) ?_
      obtain ⟨g2, h⟩ := gd_s h
      exact x_zret hx hb hr hlocks hK hP hS g2 h dX5_findHalves_214
    · rw [if_neg c1] at h
      refine lv_iconst (v := 1) hx hb dX5_findHalves_36 (by decide) ?_
      refine lv_istore (lv' := [(7, .int 1), (0, .ref (G.2.2 156)), (2, .int v2), (3, .int v3), (4, .ref (G.2.2 p4)), (5, .int v5), (6, .int v6)]) hx hb dX5_findHalves_37 hl (by decide) rfl (fun ls hl => ?_)
      exact pf_X5_findHalves_39 C  ih fu v2 v3 p4 v5 v6 1 z hk4 _ _ _ hP hS (lv_sub hl [1, 2, 3, 4, 5, 6, 0] rfl) h
def fn_X5_findHalves (v1 : Int32) (v2 : Int32) (v3 : Int32) (z : St) : Option (Int32 × St) := bd (fn_X1_isCuttable  34 v1 z) (fun r2 z3 => (if r2 = 0 then some (0, z3) else gd (ix v1 24) (fn_X5_findHalves_30   fu v2 v3 (35 + 1 + (Int32.toNatClampNeg v1)) 0 0 z3)))
set_option maxHeartbeats 4000000 in
set_option maxRecDepth 100000 in
theorem m_X5_findHalves {l : Launch} {G : wG} (hG : Ok G) {v1 : Int32} {v2 : Int32} {v3 : Int32} {z : St} {Rz : Int32 × St}  (h : fn_X5_findHalves  v1 v2 v3 z = some Rz) : Met l yX5_findHalves (wsU yX5_findHalves cX5_findHalves 10 (some .boolean)) (rmd 5) (va_Pc [.ref (G.2.2 156), .int v1, .int v2, .int v3] (Pre G z)) (va_Qi (fun r u => (r, u) = Rz) (Pre G) (AW G)) 0 0 (AW G) := by
  refine Met.ofW (cc := cX5_findHalves) (maxL := 10) (ret := (some .boolean)) (by decide) rfl ?_
  intro p e s m args below meth c s₁ B hml hv
  obtain ⟨rfl, hP, hK⟩ := hv
  have C : CX p s m ([.ref (G.2.2 156), .int v1, .int v2, .int v3] : List Value).toArray meth c cX5_findHalves 10 (wsU yX5_findHalves cX5_findHalves 10 (some .boolean)) RX5 (some .boolean) G := ⟨B.exec, B.bytes, hml, findClass_of_methodNamed B.named, atoms_spec (ws := (wsU yX5_findHalves cX5_findHalves 10 (some .boolean))) B.pre, B.returns, B.notSynchronized, hK, hG⟩
  obtain ⟨hx, hb, -, hown, hts, hr, hlocks, -, -⟩ := id C
  have hS : va_S (AW G) s.heap s.heap [] := va_S.rf
  have hl := lv_entry [.ref (G.2.2 156), .int v1, .int v2, .int v3] (n := 10) (Nat.le_of_ble_eq_true rfl)
  rw [lg_entry_eq]
  generalize (lg_sl [.ref (G.2.2 156), .int v1, .int v2, .int v3] ++ List.replicate (10 - (lg_sl [.ref (G.2.2 156), .int v1, .int v2, .int v3]).length) Slot.unset).toArray = ls at hl ⊢
  have hl : lv_has ls 10 [(0, .ref (G.2.2 156)), (1, .int v1), (2, .int v2), (3, .int v3)] := hl
  unfold fn_X5_findHalves at h
  refine lv_aload_n hx hb dX5_findHalves_0 rfl (lv_at hl 0 rfl) ?_
  refine ge_5_1 hx hb hts (inU inW_X5) hown hK hP k_156 (hts _ (List.mem_cons_of_mem _ lw_568)) dX5_findHalves_1 ?_
  refine lv_iload_n hx hb dX5_findHalves_4 rfl (lv_at hl 1 rfl) ?_
  obtain ⟨r2, z3, h1, h⟩ := bd_s h
  refine x_Vi (Rz := (r2, z3)) (As := [.int v1]) (rest := []) ⟨hx, hb, hml, hown, hts⟩ hK hP hS (kd_lt k_34 (by decide)) (cell_1 k_34) rfl (m_X1_isCuttable hG  k_34 h1) (cwV 1 hts (gV lw_1235 lw_1006 lw_1007 lw_117 lw_1008) rfl rfl rfl (by decide +kernel) (rmd_ok (by decide) (by decide))) rfl hl.1 rfl (Nat.le_of_ble_eq_true rfl) dX5_findHalves_5 ⟨Nat.le_refl _, Nat.le_refl _⟩ (fun H locs hP hS => ?_)
  refine lv_if_ne (tgt := 13) hx hb dX5_findHalves_8 (by decide) (fun c4 => ?_) (fun c4 => ?_)
  · rw [if_neg c4] at h
    refine lv_aload_n hx hb dX5_findHalves_13 rfl (lv_at hl 0 rfl) ?_
    refine ge_5_1 hx hb hts (inU inW_X5) hown hK hP k_156 (hts _ (List.mem_cons_of_mem _ lw_568)) dX5_findHalves_14 ?_
    refine ge_1_0 hx hb hts (inU inW_X1) hown hK hP k_34 (hts _ (List.mem_cons_of_mem _ lw_413)) dX5_findHalves_17 ?_
    refine lv_iload_n hx hb dX5_findHalves_20 rfl (lv_at hl 1 rfl) ?_
    obtain ⟨g5, h⟩ := gd_s h
    refine xl_18 hx hb hK hP k_35 l_35 (ix_in g5) dX5_findHalves_21 ?_
    refine lv_astore (lv' := [(4, .ref (G.2.2 (35 + 1 + (Int32.toNatClampNeg v1)))), (0, .ref (G.2.2 156)), (1, .int v1), (2, .int v2), (3, .int v3)]) hx hb dX5_findHalves_22 hl (by decide) rfl (fun ls hl => ?_)
    refine lv_iconst (v := 0) hx hb dX5_findHalves_24 (by decide) ?_
    refine lv_istore (lv' := [(5, .int 0), (4, .ref (G.2.2 (35 + 1 + (Int32.toNatClampNeg v1)))), (0, .ref (G.2.2 156)), (1, .int v1), (2, .int v2), (3, .int v3)]) hx hb dX5_findHalves_25 hl (by decide) rfl (fun ls hl => ?_)
    refine lv_iconst (v := 0) hx hb dX5_findHalves_27 (by decide) ?_
    refine lv_istore (lv' := [(6, .int 0), (5, .int 0), (4, .ref (G.2.2 (35 + 1 + (Int32.toNatClampNeg v1)))), (0, .ref (G.2.2 156)), (1, .int v1), (2, .int v2), (3, .int v3)]) hx hb dX5_findHalves_28 hl (by decide) rfl (fun ls hl => ?_)
    exact pf_X5_findHalves_30 C   fu v2 v3 (35 + 1 + (Int32.toNatClampNeg v1)) 0 0 z3 (ke_18 k_35 (ix_lt g5)) _ _ _ hP hS (lv_sub hl [3, 5, 6, 2, 1, 0] rfl) h
  · rw [if_pos c4] at h
    refine lv_iconst (v := 0) hx hb dX5_findHalves_11 (by decide) ?_
    exact x_zret hx hb hr hlocks hK hP hS rfl h dX5_findHalves_12
def fn_X5_prepare_98 (k12 : Int32 → St → Option (St)) (v1 : Int32) (z : St) : Option (St) := k12 (v1 + 1) z
set_option maxHeartbeats 4000000 in
set_option maxRecDepth 100000 in
theorem pf_X5_prepare_98 {p : Program} {l : Launch} {e : Env} {s : State} {m : MethodId} {args : Array Value} {below : List Frame} {meth : Method} {c : Code} {G : wG} (C : CX p s m args meth c cX5_prepare 3 (wsU yX5_prepare cX5_prepare 3 none) RX5 none G) {Rz : St} {k12 : Int32 → St → Option (St)} (hk_12 : ∀ (v1 : Int32) (z : St)  (H : Heap) (locs : List Loc) (ls : Array Slot), WP G z H → va_S (AW G) s.heap H locs → lv_has ls 3 [(0, .ref (G.2.2 156)), (1, .int v1)] → k12 v1 z = some Rz → W p l e (rmd 6) s m args below meth c H locs 0 0 (QV below args s G Rz) (F0 m 12 ls [])) (v1 : Int32) (z : St)  {H : Heap} {locs : List Loc} {ls : Array Slot} (hP : WP G z H) (hS : va_S (AW G) s.heap H locs) (hl : lv_has ls 3 [(0, .ref (G.2.2 156)), (1, .int v1)]) (h : fn_X5_prepare_98  k12 v1 z = some Rz) : W p l e (rmd 6) s m args below meth c H locs 0 0 (QV below args s G Rz) (F0 m 98 ls []) := by
  obtain ⟨hx, hb, hml, hown, hts, hr, hlocks, hK, hG⟩ := id C
  unfold fn_X5_prepare_98 at h
  refine lv_iinc (v := (v1 + 1)) (lv' := [(1, .int (v1 + 1)), (0, .ref (G.2.2 156))]) hx hb dX5_prepare_98 hl (k := 1) rfl rfl (by decide) rfl (fun ls hl => ?_)
  refine lv_goto (tgt := 12) hx hb dX5_prepare_101 (by decide) ?_
  exact hk_12 (v1 + 1) z  _ _ _ hP hS (lv_sub hl [1, 0] rfl) h
def fn_X5_prepare_60 (k12 : Int32 → St → Option (St)) : Nat → Int32 → Int32 → St → Option (St)
  | 0, _, _, _ => none
  | n + 1, v1, v2, z => (if (z.1 34 2) ≤ v2 then fn_X5_prepare_98  k12 v1 z else bd (fn_X10_ofPiece  v1 v2 0 z) (fun r3 z4 => gd (ix ((v1 * 24) + v2) 144) (nm (sI z4 159 (Int32.toNatClampNeg ((v1 * 24) + v2)) r3) (fun z6 => fn_X5_prepare_60  k12 n v1 (v2 + 1) z6))))
set_option maxHeartbeats 4000000 in
set_option maxRecDepth 100000 in
theorem pf_X5_prepare_60 {p : Program} {l : Launch} {e : Env} {s : State} {m : MethodId} {args : Array Value} {below : List Frame} {meth : Method} {c : Code} {G : wG} (C : CX p s m args meth c cX5_prepare 3 (wsU yX5_prepare cX5_prepare 3 none) RX5 none G) {Rz : St} {k12 : Int32 → St → Option (St)} (hk_12 : ∀ (v1 : Int32) (z : St)  (H : Heap) (locs : List Loc) (ls : Array Slot), WP G z H → va_S (AW G) s.heap H locs → lv_has ls 3 [(0, .ref (G.2.2 156)), (1, .int v1)] → k12 v1 z = some Rz → W p l e (rmd 6) s m args below meth c H locs 0 0 (QV below args s G Rz) (F0 m 12 ls [])) : ∀ (n : Nat) (v1 : Int32) (v2 : Int32) (z : St)  (H : Heap) (locs : List Loc) (ls : Array Slot), WP G z H → va_S (AW G) s.heap H locs → lv_has ls 3 [(0, .ref (G.2.2 156)), (1, .int v1), (2, .int v2)] → fn_X5_prepare_60  k12 n v1 v2 z = some Rz → W p l e (rmd 6) s m args below meth c H locs 0 0 (QV below args s G Rz) (F0 m 60 ls []) := by
  obtain ⟨hx, hb, hml, hown, hts, hr, hlocks, hK, hG⟩ := id C
  intro n
  induction n with
  | zero => intro v1 v2 z  H locs ls hP hS hl h; cases h
  | succ n ih =>
    intro v1 v2 z  H locs ls hP hS hl h
    rw [fn_X5_prepare_60] at h
    refine lv_iload_n hx hb dX5_prepare_60 rfl (lv_at hl 2 rfl) ?_
    refine lv_aload_n hx hb dX5_prepare_61 rfl (lv_at hl 0 rfl) ?_
    refine ge_5_1 hx hb hts (inU inW_X5) hown hK hP k_156 (hts _ (List.mem_cons_of_mem _ lw_568)) dX5_prepare_62 ?_
    refine ge_1_2 hx hb hts (inU inW_X1) hown hK hP k_34 (hts _ (List.mem_cons_of_mem _ lw_424)) dX5_prepare_65 ?_
    refine lv_icmp_ge (tgt := 98) hx hb dX5_prepare_68 (by decide) (fun c1 => ?_) (fun c1 => ?_)
    · rw [if_pos c1] at h
      exact pf_X5_prepare_98 C  hk_12 v1 z  hP hS (lv_sub hl [0, 1] rfl) h
    · rw [if_neg c1] at h
      refine lv_aload_n hx hb dX5_prepare_71 rfl (lv_at hl 0 rfl) ?_
      refine ge_5_5 hx hb hts (inU inW_X5) hown hK hP k_156 (hts _ (List.mem_cons_of_mem _ lw_572)) dX5_prepare_72 ?_
      refine lv_iload_n hx hb dX5_prepare_75 rfl (lv_at hl 1 rfl) ?_
      refine lv_bipush (v := 24) hx hb dX5_prepare_76 (by decide) ?_
      refine lv_imul hx hb dX5_prepare_78 ?_
      refine lv_iload_n hx hb dX5_prepare_79 rfl (lv_at hl 2 rfl) ?_
      refine lv_iadd hx hb dX5_prepare_80 ?_
      refine lv_aload_n hx hb dX5_prepare_81 rfl (lv_at hl 0 rfl) ?_
      refine ge_5_2 hx hb hts (inU inW_X5) hown hK hP k_156 (hts _ (List.mem_cons_of_mem _ lw_569)) dX5_prepare_82 ?_
      refine lv_iload_n hx hb dX5_prepare_85 rfl (lv_at hl 1 rfl) ?_
      refine lv_iload_n hx hb dX5_prepare_86 rfl (lv_at hl 2 rfl) ?_
      refine lv_iconst (v := 0) hx hb dX5_prepare_87 (by decide) ?_
      obtain ⟨r3, z4, h2, h⟩ := bd_s h
      refine x_Vi (Rz := (r3, z4)) (As := [.int v1, .int v2, .int 0]) (rest := [.int ((v1 * 24) + v2), .ref (G.2.2 159)]) ⟨hx, hb, hml, hown, hts⟩ hK hP hS (kd_lt k_143 (by decide)) (cell_10 k_143) rfl (m_X10_ofPiece hG   h2) (cwV 3 hts (gV lw_1257 lw_967 lw_968 lw_119 lw_969) rfl rfl rfl (by decide +kernel) (rmd_ok (by decide) (by decide))) rfl hl.1 rfl (Nat.le_of_ble_eq_true rfl) dX5_prepare_88 ⟨Nat.le_refl _, Nat.le_refl _⟩ (fun H locs hP hS => ?_)
      obtain ⟨g5, h⟩ := gd_s h
      obtain ⟨z6, e_z6, h⟩ := nm_s h
      refine xs_14 hx hb hK hG hP hS k_159 l_159 (ix_in g5) dX5_prepare_91 (fun H locs hP hS => ?_)
      rw [← e_z6] at hP
      refine lv_iinc (v := (v2 + 1)) (lv' := [(2, .int (v2 + 1)), (0, .ref (G.2.2 156)), (1, .int v1)]) hx hb dX5_prepare_92 hl (k := 2) rfl rfl (by decide) rfl (fun ls hl => ?_)
      refine lv_goto (tgt := 60) hx hb dX5_prepare_95 (by decide) ?_
      exact ih v1 (v2 + 1) z6  _ _ _ hP hS (lv_sub hl [1, 2, 0] rfl) h
def fn_X5_prepare_145 (k111 : Int32 → St → Option (St)) (v1 : Int32) (z : St) : Option (St) := k111 (v1 + 1) z
set_option maxHeartbeats 4000000 in
set_option maxRecDepth 100000 in
theorem pf_X5_prepare_145 {p : Program} {l : Launch} {e : Env} {s : State} {m : MethodId} {args : Array Value} {below : List Frame} {meth : Method} {c : Code} {G : wG} (C : CX p s m args meth c cX5_prepare 3 (wsU yX5_prepare cX5_prepare 3 none) RX5 none G) {Rz : St} {k111 : Int32 → St → Option (St)} (hk_111 : ∀ (v1 : Int32) (z : St)  (H : Heap) (locs : List Loc) (ls : Array Slot), WP G z H → va_S (AW G) s.heap H locs → lv_has ls 3 [(0, .ref (G.2.2 156)), (1, .int v1)] → k111 v1 z = some Rz → W p l e (rmd 6) s m args below meth c H locs 0 0 (QV below args s G Rz) (F0 m 111 ls [])) (v1 : Int32) (z : St)  {H : Heap} {locs : List Loc} {ls : Array Slot} (hP : WP G z H) (hS : va_S (AW G) s.heap H locs) (hl : lv_has ls 3 [(0, .ref (G.2.2 156)), (1, .int v1)]) (h : fn_X5_prepare_145  k111 v1 z = some Rz) : W p l e (rmd 6) s m args below meth c H locs 0 0 (QV below args s G Rz) (F0 m 145 ls []) := by
  obtain ⟨hx, hb, hml, hown, hts, hr, hlocks, hK, hG⟩ := id C
  unfold fn_X5_prepare_145 at h
  refine lv_iinc (v := (v1 + 1)) (lv' := [(1, .int (v1 + 1)), (0, .ref (G.2.2 156))]) hx hb dX5_prepare_145 hl (k := 1) rfl rfl (by decide) rfl (fun ls hl => ?_)
  refine lv_goto (tgt := 111) hx hb dX5_prepare_148 (by decide) ?_
  exact hk_111 (v1 + 1) z  _ _ _ hP hS (lv_sub hl [1, 0] rfl) h
def fn_X5_prepare_111 : Nat → Int32 → St → Option (St)
  | 0, _, _ => none
  | n + 1, v1, z => (if (z.1 34 2) ≤ v1 then some z else bd (fn_X1_isFree  34 v1 z) (fun r3 z4 => (if r3 = 0 then fn_X5_prepare_145  (fn_X5_prepare_111   n) v1 z4 else nm (sI z4 156 9 ((z4.1 156 9) ||| (1 <<< (v1 &&& 31)))) (fun z6 => fn_X5_prepare_145  (fn_X5_prepare_111   n) v1 z6))))
set_option maxHeartbeats 4000000 in
set_option maxRecDepth 100000 in
theorem pf_X5_prepare_111 {p : Program} {l : Launch} {e : Env} {s : State} {m : MethodId} {args : Array Value} {below : List Frame} {meth : Method} {c : Code} {G : wG} (C : CX p s m args meth c cX5_prepare 3 (wsU yX5_prepare cX5_prepare 3 none) RX5 none G) {Rz : St} : ∀ (n : Nat) (v1 : Int32) (z : St)  (H : Heap) (locs : List Loc) (ls : Array Slot), WP G z H → va_S (AW G) s.heap H locs → lv_has ls 3 [(0, .ref (G.2.2 156)), (1, .int v1)] → fn_X5_prepare_111   n v1 z = some Rz → W p l e (rmd 6) s m args below meth c H locs 0 0 (QV below args s G Rz) (F0 m 111 ls []) := by
  obtain ⟨hx, hb, hml, hown, hts, hr, hlocks, hK, hG⟩ := id C
  intro n
  induction n with
  | zero => intro v1 z  H locs ls hP hS hl h; cases h
  | succ n ih =>
    intro v1 z  H locs ls hP hS hl h
    rw [fn_X5_prepare_111] at h
    refine lv_iload_n hx hb dX5_prepare_111 rfl (lv_at hl 1 rfl) ?_
    refine lv_aload_n hx hb dX5_prepare_112 rfl (lv_at hl 0 rfl) ?_
    refine ge_5_1 hx hb hts (inU inW_X5) hown hK hP k_156 (hts _ (List.mem_cons_of_mem _ lw_568)) dX5_prepare_113 ?_
    refine ge_1_2 hx hb hts (inU inW_X1) hown hK hP k_34 (hts _ (List.mem_cons_of_mem _ lw_424)) dX5_prepare_116 ?_
    refine lv_icmp_ge (tgt := 151) hx hb dX5_prepare_119 (by decide) (fun c1 => ?_) (fun c1 => ?_)
    · rw [if_pos c1] at h
      exact x_vret hx hb hr hlocks hK hP hS h dX5_prepare_151
    · rw [if_neg c1] at h
      refine lv_aload_n hx hb dX5_prepare_122 rfl (lv_at hl 0 rfl) ?_
      refine ge_5_1 hx hb hts (inU inW_X5) hown hK hP k_156 (hts _ (List.mem_cons_of_mem _ lw_568)) dX5_prepare_123 ?_
      refine lv_iload_n hx hb dX5_prepare_126 rfl (lv_at hl 1 rfl) ?_
      obtain ⟨r3, z4, h2, h⟩ := bd_s h
      refine x_Vi (Rz := (r3, z4)) (As := [.int v1]) (rest := []) ⟨hx, hb, hml, hown, hts⟩ hK hP hS (kd_lt k_34 (by decide)) (cell_1 k_34) rfl (m_X1_isFree hG  k_34 h2) (cwV 1 hts (gV lw_1258 lw_1010 lw_1011 lw_117 lw_1012) rfl rfl rfl (by decide +kernel) (rmd_ok (by decide) (by decide))) rfl hl.1 rfl (Nat.le_of_ble_eq_true rfl) dX5_prepare_127 ⟨Nat.le_refl _, Nat.le_refl _⟩ (fun H locs hP hS => ?_)
      refine lv_if_eq (tgt := 145) hx hb dX5_prepare_130 (by decide) (fun c5 => ?_) (fun c5 => ?_)
      · rw [if_pos c5] at h
        exact pf_X5_prepare_145 C  ih v1 z4  hP hS (lv_sub hl [0, 1] rfl) h
      · rw [if_neg c5] at h
        refine lv_aload_n hx hb dX5_prepare_133 rfl (lv_at hl 0 rfl) ?_
        refine lv_dup hx hb dX5_prepare_134 rfl ?_
        refine ge_5_9 hx hb hts (inU inW_X5) hown hK hP k_156 (hts _ (List.mem_cons_of_mem _ lw_576)) dX5_prepare_135 ?_
        refine lv_iconst (v := 1) hx hb dX5_prepare_138 (by decide) ?_
        refine lv_iload_n hx hb dX5_prepare_139 rfl (lv_at hl 1 rfl) ?_
        refine lv_ishl hx hb dX5_prepare_140 ?_
        refine lv_ior hx hb dX5_prepare_141 ?_
        obtain ⟨z6, e_z6, h⟩ := nm_s h
        refine pu_5_9 hx hb hts (inU inW_X5) hown hK hG hP hS k_156 (hts _ (List.mem_cons_of_mem _ lw_576)) dX5_prepare_142 (fun H locs hP hS => ?_)
        rw [← e_z6] at hP
        exact pf_X5_prepare_145 C  ih v1 z6  hP hS (lv_sub hl [0, 1] rfl) h
def fn_X5_prepare_12 : Nat → Int32 → St → Option (St)
  | 0, _, _ => none
  | n + 1, v1, z => (if (z.1 2 5) ≤ v1 then nm (sI z 156 9 0) (fun z2 => fn_X5_prepare_111   fu 0 z2) else gd (ix v1 6) ((if (z.1 60 (Int32.toNatClampNeg v1)) = (-1) then nm (sI z 156 7 ((z.1 156 7) ||| (1 <<< (v1 &&& 31)))) (fun z5 => nm (sI z5 156 8 ((z5.1 156 8) + 1)) (fun z6 => fn_X5_prepare_60  (fn_X5_prepare_12   n) fu v1 0 z6)) else fn_X5_prepare_98  (fn_X5_prepare_12   n) v1 z)))
set_option maxHeartbeats 4000000 in
set_option maxRecDepth 100000 in
theorem pf_X5_prepare_12 {p : Program} {l : Launch} {e : Env} {s : State} {m : MethodId} {args : Array Value} {below : List Frame} {meth : Method} {c : Code} {G : wG} (C : CX p s m args meth c cX5_prepare 3 (wsU yX5_prepare cX5_prepare 3 none) RX5 none G) {Rz : St} : ∀ (n : Nat) (v1 : Int32) (z : St)  (H : Heap) (locs : List Loc) (ls : Array Slot), WP G z H → va_S (AW G) s.heap H locs → lv_has ls 3 [(0, .ref (G.2.2 156)), (1, .int v1)] → fn_X5_prepare_12   n v1 z = some Rz → W p l e (rmd 6) s m args below meth c H locs 0 0 (QV below args s G Rz) (F0 m 12 ls []) := by
  obtain ⟨hx, hb, hml, hown, hts, hr, hlocks, hK, hG⟩ := id C
  intro n
  induction n with
  | zero => intro v1 z  H locs ls hP hS hl h; cases h
  | succ n ih =>
    intro v1 z  H locs ls hP hS hl h
    rw [fn_X5_prepare_12] at h
    refine lv_iload_n hx hb dX5_prepare_12 rfl (lv_at hl 1 rfl) ?_
    refine lv_aload_n hx hb dX5_prepare_13 rfl (lv_at hl 0 rfl) ?_
    refine ge_5_0 hx hb hts (inU inW_X5) hown hK hP k_156 (hts _ (List.mem_cons_of_mem _ lw_567)) dX5_prepare_14 ?_
    refine ge_7_5 hx hb hts (inU inW_X7) hown hK hP k_2 (hts _ (List.mem_cons_of_mem _ lw_195)) dX5_prepare_17 ?_
    refine lv_icmp_ge (tgt := 104) hx hb dX5_prepare_20 (by decide) (fun c1 => ?_) (fun c1 => ?_)
    · rw [if_pos c1] at h
      refine lv_aload_n hx hb dX5_prepare_104 rfl (lv_at hl 0 rfl) ?_
      refine lv_iconst (v := 0) hx hb dX5_prepare_105 (by decide) ?_
      obtain ⟨z2, e_z2, h⟩ := nm_s h
      refine pu_5_9 hx hb hts (inU inW_X5) hown hK hG hP hS k_156 (hts _ (List.mem_cons_of_mem _ lw_576)) dX5_prepare_106 (fun H locs hP hS => ?_)
      rw [← e_z2] at hP
      refine lv_iconst (v := 0) hx hb dX5_prepare_109 (by decide) ?_
      refine lv_istore_n (lv' := [(1, .int 0), (0, .ref (G.2.2 156))]) hx hb dX5_prepare_110 rfl hl (by decide) rfl (fun ls hl => ?_)
      exact pf_X5_prepare_111 C   fu 0 z2  _ _ _ hP hS (lv_sub hl [1, 0] rfl) h
    · rw [if_neg c1] at h
      refine lv_aload_n hx hb dX5_prepare_23 rfl (lv_at hl 0 rfl) ?_
      refine ge_5_1 hx hb hts (inU inW_X5) hown hK hP k_156 (hts _ (List.mem_cons_of_mem _ lw_568)) dX5_prepare_24 ?_
      refine ge_1_1 hx hb hts (inU inW_X1) hown hK hP k_34 (hts _ (List.mem_cons_of_mem _ lw_418)) dX5_prepare_27 ?_
      refine lv_iload_n hx hb dX5_prepare_30 rfl (lv_at hl 1 rfl) ?_
      obtain ⟨g3, h⟩ := gd_s h
      refine xl_14 hx hb hK hP k_60 l_60 (ix_in g3) dX5_prepare_31 ?_
      refine lv_iconst (v := (-1)) hx hb dX5_prepare_32 (by decide) ?_
      refine lv_icmp_ne (tgt := 98) hx hb dX5_prepare_33 (by decide) (fun c4 => ?_) (fun c4 => ?_)
      · rw [if_neg c4] at h
        exact pf_X5_prepare_98 C  ih v1 z  hP hS (lv_sub hl [0, 1] rfl) h
      · rw [if_pos c4] at h
        refine lv_aload_n hx hb dX5_prepare_36 rfl (lv_at hl 0 rfl) ?_
        refine lv_dup hx hb dX5_prepare_37 rfl ?_
        refine ge_5_7 hx hb hts (inU inW_X5) hown hK hP k_156 (hts _ (List.mem_cons_of_mem _ lw_574)) dX5_prepare_38 ?_
        refine lv_iconst (v := 1) hx hb dX5_prepare_41 (by decide) ?_
        refine lv_iload_n hx hb dX5_prepare_42 rfl (lv_at hl 1 rfl) ?_
        refine lv_ishl hx hb dX5_prepare_43 ?_
        refine lv_ior hx hb dX5_prepare_44 ?_
        obtain ⟨z5, e_z5, h⟩ := nm_s h
        refine pu_5_7 hx hb hts (inU inW_X5) hown hK hG hP hS k_156 (hts _ (List.mem_cons_of_mem _ lw_574)) dX5_prepare_45 (fun H locs hP hS => ?_)
        rw [← e_z5] at hP
        refine lv_aload_n hx hb dX5_prepare_48 rfl (lv_at hl 0 rfl) ?_
        refine lv_dup hx hb dX5_prepare_49 rfl ?_
        refine ge_5_8 hx hb hts (inU inW_X5) hown hK hP k_156 (hts _ (List.mem_cons_of_mem _ lw_575)) dX5_prepare_50 ?_
        refine lv_iconst (v := 1) hx hb dX5_prepare_53 (by decide) ?_
        refine lv_iadd hx hb dX5_prepare_54 ?_
        obtain ⟨z6, e_z6, h⟩ := nm_s h
        refine pu_5_8 hx hb hts (inU inW_X5) hown hK hG hP hS k_156 (hts _ (List.mem_cons_of_mem _ lw_575)) dX5_prepare_55 (fun H locs hP hS => ?_)
        rw [← e_z6] at hP
        refine lv_iconst (v := 0) hx hb dX5_prepare_58 (by decide) ?_
        refine lv_istore_n (lv' := [(2, .int 0), (0, .ref (G.2.2 156)), (1, .int v1)]) hx hb dX5_prepare_59 rfl hl (by decide) rfl (fun ls hl => ?_)
        exact pf_X5_prepare_60 C  ih fu v1 0 z6  _ _ _ hP hS (lv_sub hl [1, 2, 0] rfl) h
def fn_X5_prepare  (z : St) : Option (St) := nm (sI z 156 7 0) (fun z1 => nm (sI z1 156 8 0) (fun z2 => fn_X5_prepare_12   fu 0 z2))
set_option maxHeartbeats 4000000 in
set_option maxRecDepth 100000 in
theorem m_X5_prepare {l : Launch} {G : wG} (hG : Ok G)  {z : St} {Rz : St}  (h : fn_X5_prepare   z = some Rz) : Met l yX5_prepare (wsU yX5_prepare cX5_prepare 3 none) (rmd 6) (va_Pc [.ref (G.2.2 156)] (Pre G z)) (va_Qv (fun u => u = Rz) (Pre G) (AW G)) 0 0 (AW G) := by
  refine Met.ofW (cc := cX5_prepare) (maxL := 3) (ret := none) (by decide) rfl ?_
  intro p e s m args below meth c s₁ B hml hv
  obtain ⟨rfl, hP, hK⟩ := hv
  have C : CX p s m ([.ref (G.2.2 156)] : List Value).toArray meth c cX5_prepare 3 (wsU yX5_prepare cX5_prepare 3 none) RX5 none G := ⟨B.exec, B.bytes, hml, findClass_of_methodNamed B.named, atoms_spec (ws := (wsU yX5_prepare cX5_prepare 3 none)) B.pre, B.returns, B.notSynchronized, hK, hG⟩
  obtain ⟨hx, hb, -, hown, hts, hr, hlocks, -, -⟩ := id C
  have hS : va_S (AW G) s.heap s.heap [] := va_S.rf
  have hl := lv_entry [.ref (G.2.2 156)] (n := 3) (Nat.le_of_ble_eq_true rfl)
  rw [lg_entry_eq]
  generalize (lg_sl [.ref (G.2.2 156)] ++ List.replicate (3 - (lg_sl [.ref (G.2.2 156)]).length) Slot.unset).toArray = ls at hl ⊢
  have hl : lv_has ls 3 [(0, .ref (G.2.2 156))] := hl
  unfold fn_X5_prepare at h
  refine lv_aload_n hx hb dX5_prepare_0 rfl (lv_at hl 0 rfl) ?_
  refine lv_iconst (v := 0) hx hb dX5_prepare_1 (by decide) ?_
  obtain ⟨z1, e_z1, h⟩ := nm_s h
  refine pu_5_7 hx hb hts (inU inW_X5) hown hK hG hP hS k_156 (hts _ (List.mem_cons_of_mem _ lw_574)) dX5_prepare_2 (fun H locs hP hS => ?_)
  rw [← e_z1] at hP
  refine lv_aload_n hx hb dX5_prepare_5 rfl (lv_at hl 0 rfl) ?_
  refine lv_iconst (v := 0) hx hb dX5_prepare_6 (by decide) ?_
  obtain ⟨z2, e_z2, h⟩ := nm_s h
  refine pu_5_8 hx hb hts (inU inW_X5) hown hK hG hP hS k_156 (hts _ (List.mem_cons_of_mem _ lw_575)) dX5_prepare_7 (fun H locs hP hS => ?_)
  rw [← e_z2] at hP
  refine lv_iconst (v := 0) hx hb dX5_prepare_10 (by decide) ?_
  refine lv_istore_n (lv' := [(1, .int 0), (0, .ref (G.2.2 156))]) hx hb dX5_prepare_11 rfl hl (by decide) rfl (fun ls hl => ?_)
  exact pf_X5_prepare_12 C   fu 0 z2  _ _ _ hP hS (lv_sub hl [1, 0] rfl) h
def fn_X5_pickOf_63 (k8 : Int32 → Int32 → Int32 → Int32 → Int32 → St → Option (Int32 × St)) (v1 : Int32) (v2 : Int32) (v3 : Int32) (v4 : Int32) (v5 : Int32) (z : St) : Option (Int32 × St) := k8 v1 v2 v3 v4 (v5 + 1) z
set_option maxHeartbeats 4000000 in
set_option maxRecDepth 100000 in
theorem pf_X5_pickOf_63 {p : Program} {l : Launch} {e : Env} {s : State} {m : MethodId} {args : Array Value} {below : List Frame} {meth : Method} {c : Code} {G : wG} (C : CX p s m args meth c cX5_pickOf 7 (wsU yX5_pickOf cX5_pickOf 7 (some .int)) RX5 (some .int) G) {Rz : Int32 × St} {k8 : Int32 → Int32 → Int32 → Int32 → Int32 → St → Option (Int32 × St)} (hk_8 : ∀ (v1 : Int32) (v2 : Int32) (v3 : Int32) (v4 : Int32) (v5 : Int32) (z : St)  (H : Heap) (locs : List Loc) (ls : Array Slot), WP G z H → va_S (AW G) s.heap H locs → lv_has ls 7 [(0, .ref (G.2.2 156)), (1, .int v1), (2, .int v2), (3, .int v3), (4, .int v4), (5, .int v5)] → k8 v1 v2 v3 v4 v5 z = some Rz → W p l e (rmd 1) s m args below meth c H locs 0 0 (QI below args s G Rz) (F0 m 8 ls [])) (v1 : Int32) (v2 : Int32) (v3 : Int32) (v4 : Int32) (v5 : Int32) (z : St)  {H : Heap} {locs : List Loc} {ls : Array Slot} (hP : WP G z H) (hS : va_S (AW G) s.heap H locs) (hl : lv_has ls 7 [(0, .ref (G.2.2 156)), (1, .int v1), (2, .int v2), (3, .int v3), (4, .int v4), (5, .int v5)]) (h : fn_X5_pickOf_63  k8 v1 v2 v3 v4 v5 z = some Rz) : W p l e (rmd 1) s m args below meth c H locs 0 0 (QI below args s G Rz) (F0 m 63 ls []) := by
  obtain ⟨hx, hb, hml, hown, hts, hr, hlocks, hK, hG⟩ := id C
  unfold fn_X5_pickOf_63 at h
  refine lv_iinc (v := (v5 + 1)) (lv' := [(5, .int (v5 + 1)), (0, .ref (G.2.2 156)), (1, .int v1), (2, .int v2), (3, .int v3), (4, .int v4)]) hx hb dX5_pickOf_63 hl (k := 5) rfl rfl (by decide) rfl (fun ls hl => ?_)
  refine lv_goto (tgt := 8) hx hb dX5_pickOf_66 (by decide) ?_
  exact hk_8 v1 v2 v3 v4 (v5 + 1) z  _ _ _ hP hS (lv_sub hl [1, 2, 3, 4, 5, 0] rfl) h
def fn_X5_pickOf_56 (k8 : Int32 → Int32 → Int32 → Int32 → Int32 → St → Option (Int32 × St)) (v1 : Int32) (v2 : Int32) (v5 : Int32) (v6 : Int32) (z : St) : Option (Int32 × St) := fn_X5_pickOf_63  k8 v1 v2 v5 v6 v5 z
set_option maxHeartbeats 4000000 in
set_option maxRecDepth 100000 in
theorem pf_X5_pickOf_56 {p : Program} {l : Launch} {e : Env} {s : State} {m : MethodId} {args : Array Value} {below : List Frame} {meth : Method} {c : Code} {G : wG} (C : CX p s m args meth c cX5_pickOf 7 (wsU yX5_pickOf cX5_pickOf 7 (some .int)) RX5 (some .int) G) {Rz : Int32 × St} {k8 : Int32 → Int32 → Int32 → Int32 → Int32 → St → Option (Int32 × St)} (hk_8 : ∀ (v1 : Int32) (v2 : Int32) (v3 : Int32) (v4 : Int32) (v5 : Int32) (z : St)  (H : Heap) (locs : List Loc) (ls : Array Slot), WP G z H → va_S (AW G) s.heap H locs → lv_has ls 7 [(0, .ref (G.2.2 156)), (1, .int v1), (2, .int v2), (3, .int v3), (4, .int v4), (5, .int v5)] → k8 v1 v2 v3 v4 v5 z = some Rz → W p l e (rmd 1) s m args below meth c H locs 0 0 (QI below args s G Rz) (F0 m 8 ls [])) (v1 : Int32) (v2 : Int32) (v5 : Int32) (v6 : Int32) (z : St)  {H : Heap} {locs : List Loc} {ls : Array Slot} (hP : WP G z H) (hS : va_S (AW G) s.heap H locs) (hl : lv_has ls 7 [(0, .ref (G.2.2 156)), (1, .int v1), (2, .int v2), (5, .int v5), (6, .int v6)]) (h : fn_X5_pickOf_56  k8 v1 v2 v5 v6 z = some Rz) : W p l e (rmd 1) s m args below meth c H locs 0 0 (QI below args s G Rz) (F0 m 56 ls []) := by
  obtain ⟨hx, hb, hml, hown, hts, hr, hlocks, hK, hG⟩ := id C
  unfold fn_X5_pickOf_56 at h
  refine lv_iload hx hb dX5_pickOf_56 (lv_at hl 3 rfl) ?_
  refine lv_istore_n (lv' := [(3, .int v5), (0, .ref (G.2.2 156)), (1, .int v1), (2, .int v2), (5, .int v5), (6, .int v6)]) hx hb dX5_pickOf_58 rfl hl (by decide) rfl (fun ls hl => ?_)
  refine lv_iload hx hb dX5_pickOf_59 (lv_at hl 5 rfl) ?_
  refine lv_istore (lv' := [(4, .int v6), (3, .int v5), (0, .ref (G.2.2 156)), (1, .int v1), (2, .int v2), (5, .int v5), (6, .int v6)]) hx hb dX5_pickOf_61 hl (by decide) rfl (fun ls hl => ?_)
  exact pf_X5_pickOf_63 C  hk_8 v1 v2 v5 v6 v5 z  hP hS (lv_sub hl [2, 3, 4, 1, 0, 5] rfl) h
def fn_X5_pickOf_8 : Nat → Int32 → Int32 → Int32 → Int32 → Int32 → St → Option (Int32 × St)
  | 0, _, _, _, _, _, _ => none
  | n + 1, v1, v2, v3, v4, v5, z => (if (z.1 34 2) ≤ v5 then some (v3, z) else (if ((v2 >>> (v5 &&& 31)) &&& 1) = 1 then gd (ix ((v1 * 24) + v5) 144) (nm (z.1 159 (Int32.toNatClampNeg ((v1 * 24) + v5))) (fun v6_4 => (if v3 = (-1) then fn_X5_pickOf_56  (fn_X5_pickOf_8   n) v1 v2 v5 v6_4 z else (if v6_4 ≤ v4 then fn_X5_pickOf_63  (fn_X5_pickOf_8   n) v1 v2 v3 v4 v5 z else fn_X5_pickOf_56  (fn_X5_pickOf_8   n) v1 v2 v5 v6_4 z)))) else fn_X5_pickOf_63  (fn_X5_pickOf_8   n) v1 v2 v3 v4 v5 z))
set_option maxHeartbeats 4000000 in
set_option maxRecDepth 100000 in
theorem pf_X5_pickOf_8 {p : Program} {l : Launch} {e : Env} {s : State} {m : MethodId} {args : Array Value} {below : List Frame} {meth : Method} {c : Code} {G : wG} (C : CX p s m args meth c cX5_pickOf 7 (wsU yX5_pickOf cX5_pickOf 7 (some .int)) RX5 (some .int) G) {Rz : Int32 × St} : ∀ (n : Nat) (v1 : Int32) (v2 : Int32) (v3 : Int32) (v4 : Int32) (v5 : Int32) (z : St)  (H : Heap) (locs : List Loc) (ls : Array Slot), WP G z H → va_S (AW G) s.heap H locs → lv_has ls 7 [(0, .ref (G.2.2 156)), (1, .int v1), (2, .int v2), (3, .int v3), (4, .int v4), (5, .int v5)] → fn_X5_pickOf_8   n v1 v2 v3 v4 v5 z = some Rz → W p l e (rmd 1) s m args below meth c H locs 0 0 (QI below args s G Rz) (F0 m 8 ls []) := by
  obtain ⟨hx, hb, hml, hown, hts, hr, hlocks, hK, hG⟩ := id C
  intro n
  induction n with
  | zero => intro v1 v2 v3 v4 v5 z  H locs ls hP hS hl h; cases h
  | succ n ih =>
    intro v1 v2 v3 v4 v5 z  H locs ls hP hS hl h
    rw [fn_X5_pickOf_8] at h
    refine lv_iload hx hb dX5_pickOf_8 (lv_at hl 5 rfl) ?_
    refine lv_aload_n hx hb dX5_pickOf_10 rfl (lv_at hl 0 rfl) ?_
    refine ge_5_1 hx hb hts (inU inW_X5) hown hK hP k_156 (hts _ (List.mem_cons_of_mem _ lw_568)) dX5_pickOf_11 ?_
    refine ge_1_2 hx hb hts (inU inW_X1) hown hK hP k_34 (hts _ (List.mem_cons_of_mem _ lw_424)) dX5_pickOf_14 ?_
    refine lv_icmp_ge (tgt := 69) hx hb dX5_pickOf_17 (by decide) (fun c1 => ?_) (fun c1 => ?_)
    · rw [if_pos c1] at h
      refine lv_iload_n hx hb dX5_pickOf_69 rfl (lv_at hl 3 rfl) ?_
      exact x_iret hx hb hr hlocks hK hP hS h dX5_pickOf_70
    · rw [if_neg c1] at h
      refine lv_iload_n hx hb dX5_pickOf_20 rfl (lv_at hl 2 rfl) ?_
      refine lv_iload hx hb dX5_pickOf_21 (lv_at hl 5 rfl) ?_
      refine lv_ishr hx hb dX5_pickOf_23 ?_
      refine lv_iconst (v := 1) hx hb dX5_pickOf_24 (by decide) ?_
      refine lv_iand hx hb dX5_pickOf_25 ?_
      refine lv_iconst (v := 1) hx hb dX5_pickOf_26 (by decide) ?_
      refine lv_icmp_ne (tgt := 63) hx hb dX5_pickOf_27 (by decide) (fun c2 => ?_) (fun c2 => ?_)
      · rw [if_neg c2] at h
        exact pf_X5_pickOf_63 C  ih v1 v2 v3 v4 v5 z  hP hS (lv_sub hl [0, 1, 2, 3, 4, 5] rfl) h
      · rw [if_pos c2] at h
        refine lv_aload_n hx hb dX5_pickOf_30 rfl (lv_at hl 0 rfl) ?_
        refine ge_5_5 hx hb hts (inU inW_X5) hown hK hP k_156 (hts _ (List.mem_cons_of_mem _ lw_572)) dX5_pickOf_31 ?_
        refine lv_iload_n hx hb dX5_pickOf_34 rfl (lv_at hl 1 rfl) ?_
        refine lv_bipush (v := 24) hx hb dX5_pickOf_35 (by decide) ?_
        refine lv_imul hx hb dX5_pickOf_37 ?_
        refine lv_iload hx hb dX5_pickOf_38 (lv_at hl 5 rfl) ?_
        refine lv_iadd hx hb dX5_pickOf_40 ?_
        obtain ⟨g3, h⟩ := gd_s h
        refine xl_14 hx hb hK hP k_159 l_159 (ix_in g3) dX5_pickOf_41 ?_
        obtain ⟨v6_4, e_v6_4, h⟩ := nm_s h
        refine x_top e_v6_4 ?_
        refine lv_istore (lv' := [(6, .int v6_4), (0, .ref (G.2.2 156)), (1, .int v1), (2, .int v2), (3, .int v3), (4, .int v4), (5, .int v5)]) hx hb dX5_pickOf_42 hl (by decide) rfl (fun ls hl => ?_)
        refine lv_iload_n hx hb dX5_pickOf_44 rfl (lv_at hl 4 rfl) ?_
        refine lv_iconst (v := (-1)) hx hb dX5_pickOf_45 (by decide) ?_
        refine lv_icmp_eq (tgt := 56) hx hb dX5_pickOf_46 (by decide) (fun c5 => ?_) (fun c5 => ?_)
        · rw [if_pos c5] at h
          exact pf_X5_pickOf_56 C  ih v1 v2 v5 v6_4 z  hP hS (lv_sub hl [1, 2, 3, 6, 0] rfl) h
        · rw [if_neg c5] at h
          refine lv_iload hx hb dX5_pickOf_49 (lv_at hl 0 rfl) ?_
          refine lv_iload hx hb dX5_pickOf_51 (lv_at hl 5 rfl) ?_
          refine lv_icmp_le (tgt := 63) hx hb dX5_pickOf_53 (by decide) (fun c6 => ?_) (fun c6 => ?_)
          · rw [if_pos c6] at h
            exact pf_X5_pickOf_63 C  ih v1 v2 v3 v4 v5 z  hP hS (lv_sub hl [1, 2, 3, 4, 5, 6] rfl) h
          · rw [if_neg c6] at h
            exact pf_X5_pickOf_56 C  ih v1 v2 v5 v6_4 z  hP hS (lv_sub hl [1, 2, 3, 6, 0] rfl) h
def fn_X5_pickOf (v1 : Int32) (v2 : Int32) (z : St) : Option (Int32 × St) := fn_X5_pickOf_8   fu v1 v2 (-1) 0 0 z
set_option maxHeartbeats 4000000 in
set_option maxRecDepth 100000 in
theorem m_X5_pickOf {l : Launch} {G : wG} (hG : Ok G) {v1 : Int32} {v2 : Int32} {z : St} {Rz : Int32 × St}  (h : fn_X5_pickOf  v1 v2 z = some Rz) : Met l yX5_pickOf (wsU yX5_pickOf cX5_pickOf 7 (some .int)) (rmd 1) (va_Pc [.ref (G.2.2 156), .int v1, .int v2] (Pre G z)) (va_Qi (fun r u => (r, u) = Rz) (Pre G) (AW G)) 0 0 (AW G) := by
  refine Met.ofW (cc := cX5_pickOf) (maxL := 7) (ret := (some .int)) (by decide) rfl ?_
  intro p e s m args below meth c s₁ B hml hv
  obtain ⟨rfl, hP, hK⟩ := hv
  have C : CX p s m ([.ref (G.2.2 156), .int v1, .int v2] : List Value).toArray meth c cX5_pickOf 7 (wsU yX5_pickOf cX5_pickOf 7 (some .int)) RX5 (some .int) G := ⟨B.exec, B.bytes, hml, findClass_of_methodNamed B.named, atoms_spec (ws := (wsU yX5_pickOf cX5_pickOf 7 (some .int))) B.pre, B.returns, B.notSynchronized, hK, hG⟩
  obtain ⟨hx, hb, -, hown, hts, hr, hlocks, -, -⟩ := id C
  have hS : va_S (AW G) s.heap s.heap [] := va_S.rf
  have hl := lv_entry [.ref (G.2.2 156), .int v1, .int v2] (n := 7) (Nat.le_of_ble_eq_true rfl)
  rw [lg_entry_eq]
  generalize (lg_sl [.ref (G.2.2 156), .int v1, .int v2] ++ List.replicate (7 - (lg_sl [.ref (G.2.2 156), .int v1, .int v2]).length) Slot.unset).toArray = ls at hl ⊢
  have hl : lv_has ls 7 [(0, .ref (G.2.2 156)), (1, .int v1), (2, .int v2)] := hl
  unfold fn_X5_pickOf at h
  refine lv_iconst (v := (-1)) hx hb dX5_pickOf_0 (by decide) ?_
  refine lv_istore_n (lv' := [(3, .int (-1)), (0, .ref (G.2.2 156)), (1, .int v1), (2, .int v2)]) hx hb dX5_pickOf_1 rfl hl (by decide) rfl (fun ls hl => ?_)
  refine lv_iconst (v := 0) hx hb dX5_pickOf_2 (by decide) ?_
  refine lv_istore (lv' := [(4, .int 0), (3, .int (-1)), (0, .ref (G.2.2 156)), (1, .int v1), (2, .int v2)]) hx hb dX5_pickOf_3 hl (by decide) rfl (fun ls hl => ?_)
  refine lv_iconst (v := 0) hx hb dX5_pickOf_5 (by decide) ?_
  refine lv_istore (lv' := [(5, .int 0), (4, .int 0), (3, .int (-1)), (0, .ref (G.2.2 156)), (1, .int v1), (2, .int v2)]) hx hb dX5_pickOf_6 hl (by decide) rfl (fun ls hl => ?_)
  exact pf_X5_pickOf_8 C   fu v1 v2 (-1) 0 0 z  _ _ _ hP hS (lv_sub hl [3, 4, 5, 2, 1, 0] rfl) h
def fn_X5_without (v0 : Int32) (v1 : Int32) (z : St) : Option (Int32 × St) := (if v1 = (-1) then some (v0, z) else some ((v0 &&& ((1 <<< (v1 &&& 31)) ^^^ (-1))), z))
set_option maxHeartbeats 4000000 in
set_option maxRecDepth 100000 in
theorem m_X5_without {l : Launch} {G : wG} (hG : Ok G) {v0 : Int32} {v1 : Int32} {z : St} {Rz : Int32 × St}  (h : fn_X5_without  v0 v1 z = some Rz) : Met l yX5_without (wsU yX5_without cX5_without 2 (some .int)) (rmd 1) (va_Pc [.int v0, .int v1] (Pre G z)) (va_Qi (fun r u => (r, u) = Rz) (Pre G) (AW G)) 0 0 (AW G) := by
  refine Met.ofW (cc := cX5_without) (maxL := 2) (ret := (some .int)) (by decide) rfl ?_
  intro p e s m args below meth c s₁ B hml hv
  obtain ⟨rfl, hP, hK⟩ := hv
  have C : CX p s m ([.int v0, .int v1] : List Value).toArray meth c cX5_without 2 (wsU yX5_without cX5_without 2 (some .int)) RX5 (some .int) G := ⟨B.exec, B.bytes, hml, findClass_of_methodNamed B.named, atoms_spec (ws := (wsU yX5_without cX5_without 2 (some .int))) B.pre, B.returns, B.notSynchronized, hK, hG⟩
  obtain ⟨hx, hb, -, hown, hts, hr, hlocks, -, -⟩ := id C
  have hS : va_S (AW G) s.heap s.heap [] := va_S.rf
  have hl := lv_entry [.int v0, .int v1] (n := 2) (Nat.le_of_ble_eq_true rfl)
  rw [lg_entry_eq]
  generalize (lg_sl [.int v0, .int v1] ++ List.replicate (2 - (lg_sl [.int v0, .int v1]).length) Slot.unset).toArray = ls at hl ⊢
  have hl : lv_has ls 2 [(0, .int v0), (1, .int v1)] := hl
  unfold fn_X5_without at h
  refine lv_iload_n hx hb dX5_without_0 rfl (lv_at hl 1 rfl) ?_
  refine lv_iconst (v := (-1)) hx hb dX5_without_1 (by decide) ?_
  refine lv_icmp_ne (tgt := 9) hx hb dX5_without_2 (by decide) (fun c1 => ?_) (fun c1 => ?_)
  · rw [if_neg c1] at h
    refine lv_iload_n hx hb dX5_without_9 rfl (lv_at hl 0 rfl) ?_
    refine lv_iconst (v := 1) hx hb dX5_without_10 (by decide) ?_
    refine lv_iload_n hx hb dX5_without_11 rfl (lv_at hl 1 rfl) ?_
    refine lv_ishl hx hb dX5_without_12 ?_
    refine lv_iconst (v := (-1)) hx hb dX5_without_13 (by decide) ?_
    refine lv_ixor hx hb dX5_without_14 ?_
    refine lv_iand hx hb dX5_without_15 ?_
    exact x_iret hx hb hr hlocks hK hP hS h dX5_without_16
  · rw [if_pos c1] at h
    refine lv_iload_n hx hb dX5_without_5 rfl (lv_at hl 0 rfl) ?_
    refine lv_goto (tgt := 16) hx hb dX5_without_6 (by decide) ?_
    exact x_iret hx hb hr hlocks hK hP hS h dX5_without_16
def fn_X5_pickByNumber_64 (k11 : Nat → Int32 → Int32 → St → Option (Int32 × St)) (p1 : Nat) (v2 : Int32) (v3 : Int32) (tv1 : Int32) (tv2 : Int32) (z : St) : Option (Int32 × St) := gd (ix tv1 (ln p1)) (nm (sI z p1 (Int32.toNatClampNeg tv1) tv2) (fun z2 => gd (ix v3 (ln p1)) (bd (fn_X5_without  v2 (z2.1 p1 (Int32.toNatClampNeg v3)) z2) (fun r5 z6 => k11 p1 r5 (v3 + 1) z6))))
set_option maxHeartbeats 4000000 in
set_option maxRecDepth 100000 in
theorem pf_X5_pickByNumber_64 {p : Program} {l : Launch} {e : Env} {s : State} {m : MethodId} {args : Array Value} {below : List Frame} {meth : Method} {c : Code} {G : wG} (C : CX p s m args meth c cX5_pickByNumber 5 (wsU yX5_pickByNumber cX5_pickByNumber 5 (some .int)) RX5 (some .int) G) {Rz : Int32 × St} {k11 : Nat → Int32 → Int32 → St → Option (Int32 × St)} (hk_11 : ∀ (p1 : Nat) (v2 : Int32) (v3 : Int32) (z : St) (hk1 : kd p1 = 14) (H : Heap) (locs : List Loc) (ls : Array Slot), WP G z H → va_S (AW G) s.heap H locs → lv_has ls 5 [(0, .ref (G.2.2 156)), (1, .ref (G.2.2 p1)), (2, .int v2), (3, .int v3)] → k11 p1 v2 v3 z = some Rz → W p l e (rmd 7) s m args below meth c H locs 0 0 (QI below args s G Rz) (F0 m 11 ls [])) (p1 : Nat) (v2 : Int32) (v3 : Int32) (tv1 : Int32) (tv2 : Int32) (z : St) (hk1 : kd p1 = 14) {H : Heap} {locs : List Loc} {ls : Array Slot} (hP : WP G z H) (hS : va_S (AW G) s.heap H locs) (hl : lv_has ls 5 [(0, .ref (G.2.2 156)), (1, .ref (G.2.2 p1)), (2, .int v2), (3, .int v3)]) (h : fn_X5_pickByNumber_64  k11 p1 v2 v3 tv1 tv2 z = some Rz) : W p l e (rmd 7) s m args below meth c H locs 0 0 (QI below args s G Rz) (F0 m 64 ls [.int tv2, .int tv1, .ref (G.2.2 p1)]) := by
  obtain ⟨hx, hb, hml, hown, hts, hr, hlocks, hK, hG⟩ := id C
  unfold fn_X5_pickByNumber_64 at h
  obtain ⟨g1, h⟩ := gd_s h
  obtain ⟨z2, e_z2, h⟩ := nm_s h
  refine xs_14 hx hb hK hG hP hS hk1 rfl (ix_in g1) dX5_pickByNumber_64 (fun H locs hP hS => ?_)
  rw [← e_z2] at hP
  refine lv_iload_n hx hb dX5_pickByNumber_65 rfl (lv_at hl 2 rfl) ?_
  refine lv_aload_n hx hb dX5_pickByNumber_66 rfl (lv_at hl 1 rfl) ?_
  refine lv_iload_n hx hb dX5_pickByNumber_67 rfl (lv_at hl 3 rfl) ?_
  obtain ⟨g3, h⟩ := gd_s h
  refine xl_14 hx hb hK hP hk1 rfl (ix_in g3) dX5_pickByNumber_68 ?_
  obtain ⟨r5, z6, h4, h⟩ := bd_s h
  refine x_Si (Rz := (r5, z6)) (As := [.int v2, .int (z2.1 p1 (Int32.toNatClampNeg v3))]) (rest := []) ⟨hx, hb, hml, hown, hts⟩ hK hP hS (m_X5_without hG   h4) (va_cwS 2 hts (gS lw_1263 lw_1264 lw_122 lw_1265) rfl rfl rfl (by decide +kernel) (rmd_ok (by decide) (by decide))) rfl hl.1 rfl (Nat.le_of_ble_eq_true rfl) dX5_pickByNumber_69 ⟨Nat.le_refl _, Nat.le_refl _⟩ (fun H locs hP hS => ?_)
  refine lv_istore_n (lv' := [(2, .int r5), (0, .ref (G.2.2 156)), (1, .ref (G.2.2 p1)), (3, .int v3)]) hx hb dX5_pickByNumber_72 rfl hl (by decide) rfl (fun ls hl => ?_)
  refine lv_iinc (v := (v3 + 1)) (lv' := [(3, .int (v3 + 1)), (2, .int r5), (0, .ref (G.2.2 156)), (1, .ref (G.2.2 p1))]) hx hb dX5_pickByNumber_73 hl (k := 3) rfl rfl (by decide) rfl (fun ls hl => ?_)
  refine lv_goto (tgt := 11) hx hb dX5_pickByNumber_76 (by decide) ?_
  exact hk_11 p1 r5 (v3 + 1) z6 hk1 _ _ _ hP hS (lv_sub hl [2, 3, 1, 0] rfl) h
def fn_X5_pickByNumber_45 (k11 : Nat → Int32 → Int32 → St → Option (Int32 × St)) (p1 : Nat) (v2 : Int32) (v3 : Int32) (tv0 : Int32) (z : St) : Option (Int32 × St) := (if tv0 = 0 then fn_X5_pickByNumber_64  k11 p1 v2 v3 v3 (-1) z else bd (fn_X5_pickOf  v3 v2 z) (fun r3 z4 => fn_X5_pickByNumber_64  k11 p1 v2 v3 v3 r3 z4))
set_option maxHeartbeats 4000000 in
set_option maxRecDepth 100000 in
theorem pf_X5_pickByNumber_45 {p : Program} {l : Launch} {e : Env} {s : State} {m : MethodId} {args : Array Value} {below : List Frame} {meth : Method} {c : Code} {G : wG} (C : CX p s m args meth c cX5_pickByNumber 5 (wsU yX5_pickByNumber cX5_pickByNumber 5 (some .int)) RX5 (some .int) G) {Rz : Int32 × St} {k11 : Nat → Int32 → Int32 → St → Option (Int32 × St)} (hk_11 : ∀ (p1 : Nat) (v2 : Int32) (v3 : Int32) (z : St) (hk1 : kd p1 = 14) (H : Heap) (locs : List Loc) (ls : Array Slot), WP G z H → va_S (AW G) s.heap H locs → lv_has ls 5 [(0, .ref (G.2.2 156)), (1, .ref (G.2.2 p1)), (2, .int v2), (3, .int v3)] → k11 p1 v2 v3 z = some Rz → W p l e (rmd 7) s m args below meth c H locs 0 0 (QI below args s G Rz) (F0 m 11 ls [])) (p1 : Nat) (v2 : Int32) (v3 : Int32) (tv0 : Int32) (z : St) (hk1 : kd p1 = 14) {H : Heap} {locs : List Loc} {ls : Array Slot} (hP : WP G z H) (hS : va_S (AW G) s.heap H locs) (hl : lv_has ls 5 [(0, .ref (G.2.2 156)), (1, .ref (G.2.2 p1)), (2, .int v2), (3, .int v3)]) (h : fn_X5_pickByNumber_45  k11 p1 v2 v3 tv0 z = some Rz) : W p l e (rmd 7) s m args below meth c H locs 0 0 (QI below args s G Rz) (F0 m 45 ls [.int tv0]) := by
  obtain ⟨hx, hb, hml, hown, hts, hr, hlocks, hK, hG⟩ := id C
  unfold fn_X5_pickByNumber_45 at h
  refine lv_istore (lv' := [(4, .int tv0), (0, .ref (G.2.2 156)), (1, .ref (G.2.2 p1)), (2, .int v2), (3, .int v3)]) hx hb dX5_pickByNumber_45 hl (by decide) rfl (fun ls hl => ?_)
  refine lv_aload_n hx hb dX5_pickByNumber_47 rfl (lv_at hl 2 rfl) ?_
  refine lv_iload_n hx hb dX5_pickByNumber_48 rfl (lv_at hl 4 rfl) ?_
  refine lv_iload hx hb dX5_pickByNumber_49 (lv_at hl 0 rfl) ?_
  refine lv_if_eq (tgt := 63) hx hb dX5_pickByNumber_51 (by decide) (fun c1 => ?_) (fun c1 => ?_)
  · rw [if_pos c1] at h
    refine lv_iconst (v := (-1)) hx hb dX5_pickByNumber_63 (by decide) ?_
    exact pf_X5_pickByNumber_64 C  hk_11 p1 v2 v3 v3 (-1) z hk1 hP hS (lv_sub hl [1, 2, 3, 4] rfl) h
  · rw [if_neg c1] at h
    refine lv_aload_n hx hb dX5_pickByNumber_54 rfl (lv_at hl 1 rfl) ?_
    refine lv_iload_n hx hb dX5_pickByNumber_55 rfl (lv_at hl 4 rfl) ?_
    refine lv_iload_n hx hb dX5_pickByNumber_56 rfl (lv_at hl 3 rfl) ?_
    obtain ⟨r3, z4, h2, h⟩ := bd_s h
    refine x_Vi (Rz := (r3, z4)) (As := [.int v3, .int v2]) (rest := [.int v3, .ref (G.2.2 p1)]) ⟨hx, hb, hml, hown, hts⟩ hK hP hS (kd_lt k_156 (by decide)) (cell_5 k_156) rfl (m_X5_pickOf hG   h2) (cwV 2 hts (gV lw_1259 lw_1261 lw_39 lw_122 lw_1262) rfl rfl rfl (by decide +kernel) (rmd_ok (by decide) (by decide))) rfl hl.1 rfl (Nat.le_of_ble_eq_true rfl) dX5_pickByNumber_57 ⟨Nat.le_refl _, Nat.le_refl _⟩ (fun H locs hP hS => ?_)
    refine lv_goto (tgt := 64) hx hb dX5_pickByNumber_60 (by decide) ?_
    exact pf_X5_pickByNumber_64 C  hk_11 p1 v2 v3 v3 r3 z4 hk1 hP hS (lv_sub hl [1, 2, 3, 4] rfl) h
def fn_X5_pickByNumber_79 (v2 : Int32) (z : St) : Option (Int32 × St) := bd (fn_J6_bitCount_0f7a4  ((z.1 156 9) &&& (v2 ^^^ (-1))) z) (fun r2 z3 => some (r2, z3))
set_option maxHeartbeats 4000000 in
set_option maxRecDepth 100000 in
theorem pf_X5_pickByNumber_79 {p : Program} {l : Launch} {e : Env} {s : State} {m : MethodId} {args : Array Value} {below : List Frame} {meth : Method} {c : Code} {G : wG} (C : CX p s m args meth c cX5_pickByNumber 5 (wsU yX5_pickByNumber cX5_pickByNumber 5 (some .int)) RX5 (some .int) G) {Rz : Int32 × St} (v2 : Int32) (z : St)  {H : Heap} {locs : List Loc} {ls : Array Slot} (hP : WP G z H) (hS : va_S (AW G) s.heap H locs) (hl : lv_has ls 5 [(0, .ref (G.2.2 156)), (2, .int v2)]) (h : fn_X5_pickByNumber_79   v2 z = some Rz) : W p l e (rmd 7) s m args below meth c H locs 0 0 (QI below args s G Rz) (F0 m 79 ls []) := by
  obtain ⟨hx, hb, hml, hown, hts, hr, hlocks, hK, hG⟩ := id C
  unfold fn_X5_pickByNumber_79 at h
  refine lv_aload_n hx hb dX5_pickByNumber_79 rfl (lv_at hl 0 rfl) ?_
  refine ge_5_9 hx hb hts (inU inW_X5) hown hK hP k_156 (hts _ (List.mem_cons_of_mem _ lw_576)) dX5_pickByNumber_80 ?_
  refine lv_iload_n hx hb dX5_pickByNumber_83 rfl (lv_at hl 1 rfl) ?_
  refine lv_iconst (v := (-1)) hx hb dX5_pickByNumber_84 (by decide) ?_
  refine lv_ixor hx hb dX5_pickByNumber_85 ?_
  refine lv_iand hx hb dX5_pickByNumber_86 ?_
  obtain ⟨r2, z3, h1, h⟩ := bd_s h
  refine x_Si (Rz := (r2, z3)) (As := [.int ((z.1 156 9) &&& (v2 ^^^ (-1)))]) (rest := []) ⟨hx, hb, hml, hown, hts⟩ hK hP hS (m_J6_bitCount_0f7a4 hG   h1) (va_cwS 1 hts (gS lw_1266 lw_1207 lw_127 lw_1208) rfl rfl rfl (by decide +kernel) (rmd_ok (by decide) (by decide))) rfl hl.1 rfl (Nat.le_of_ble_eq_true rfl) dX5_pickByNumber_87 ⟨Nat.le_refl _, Nat.le_refl _⟩ (fun H locs hP hS => ?_)
  exact x_iret hx hb hr hlocks hK hP hS h dX5_pickByNumber_90
def fn_X5_pickByNumber_11 : Nat → Nat → Int32 → Int32 → St → Option (Int32 × St)
  | 0, _, _, _, _ => none
  | n + 1, p1, v2, v3, z => (if (z.1 2 5) ≤ v3 then fn_X5_pickByNumber_79   v2 z else (if (Int32.ofNat (ln p1)) ≤ v3 then fn_X5_pickByNumber_79   v2 z else (if (((z.1 156 7) >>> (v3 &&& 31)) &&& 1) = 1 then fn_X5_pickByNumber_45  (fn_X5_pickByNumber_11   n) p1 v2 v3 1 z else fn_X5_pickByNumber_45  (fn_X5_pickByNumber_11   n) p1 v2 v3 0 z)))
set_option maxHeartbeats 4000000 in
set_option maxRecDepth 100000 in
theorem pf_X5_pickByNumber_11 {p : Program} {l : Launch} {e : Env} {s : State} {m : MethodId} {args : Array Value} {below : List Frame} {meth : Method} {c : Code} {G : wG} (C : CX p s m args meth c cX5_pickByNumber 5 (wsU yX5_pickByNumber cX5_pickByNumber 5 (some .int)) RX5 (some .int) G) {Rz : Int32 × St} : ∀ (n : Nat) (p1 : Nat) (v2 : Int32) (v3 : Int32) (z : St) (hk1 : kd p1 = 14) (H : Heap) (locs : List Loc) (ls : Array Slot), WP G z H → va_S (AW G) s.heap H locs → lv_has ls 5 [(0, .ref (G.2.2 156)), (1, .ref (G.2.2 p1)), (2, .int v2), (3, .int v3)] → fn_X5_pickByNumber_11   n p1 v2 v3 z = some Rz → W p l e (rmd 7) s m args below meth c H locs 0 0 (QI below args s G Rz) (F0 m 11 ls []) := by
  obtain ⟨hx, hb, hml, hown, hts, hr, hlocks, hK, hG⟩ := id C
  intro n
  induction n with
  | zero => intro p1 v2 v3 z hk1 H locs ls hP hS hl h; cases h
  | succ n ih =>
    intro p1 v2 v3 z hk1 H locs ls hP hS hl h
    rw [fn_X5_pickByNumber_11] at h
    refine lv_iload_n hx hb dX5_pickByNumber_11 rfl (lv_at hl 3 rfl) ?_
    refine lv_aload_n hx hb dX5_pickByNumber_12 rfl (lv_at hl 0 rfl) ?_
    refine ge_5_0 hx hb hts (inU inW_X5) hown hK hP k_156 (hts _ (List.mem_cons_of_mem _ lw_567)) dX5_pickByNumber_13 ?_
    refine ge_7_5 hx hb hts (inU inW_X7) hown hK hP k_2 (hts _ (List.mem_cons_of_mem _ lw_195)) dX5_pickByNumber_16 ?_
    refine lv_icmp_ge (tgt := 79) hx hb dX5_pickByNumber_19 (by decide) (fun c1 => ?_) (fun c1 => ?_)
    · rw [if_pos c1] at h
      exact pf_X5_pickByNumber_79 C   v2 z  hP hS (lv_sub hl [0, 2] rfl) h
    · rw [if_neg c1] at h
      refine lv_iload_n hx hb dX5_pickByNumber_22 rfl (lv_at hl 3 rfl) ?_
      refine lv_aload_n hx hb dX5_pickByNumber_23 rfl (lv_at hl 1 rfl) ?_
      refine xn_14 hx hb hK hP hk1 rfl rfl dX5_pickByNumber_24 ?_
      refine lv_icmp_ge (tgt := 79) hx hb dX5_pickByNumber_25 (by decide) (fun c2 => ?_) (fun c2 => ?_)
      · rw [if_pos c2] at h
        exact pf_X5_pickByNumber_79 C   v2 z  hP hS (lv_sub hl [0, 2] rfl) h
      · rw [if_neg c2] at h
        refine lv_aload_n hx hb dX5_pickByNumber_28 rfl (lv_at hl 0 rfl) ?_
        refine ge_5_7 hx hb hts (inU inW_X5) hown hK hP k_156 (hts _ (List.mem_cons_of_mem _ lw_574)) dX5_pickByNumber_29 ?_
        refine lv_iload_n hx hb dX5_pickByNumber_32 rfl (lv_at hl 3 rfl) ?_
        refine lv_ishr hx hb dX5_pickByNumber_33 ?_
        refine lv_iconst (v := 1) hx hb dX5_pickByNumber_34 (by decide) ?_
        refine lv_iand hx hb dX5_pickByNumber_35 ?_
        refine lv_iconst (v := 1) hx hb dX5_pickByNumber_36 (by decide) ?_
        refine lv_icmp_ne (tgt := 44) hx hb dX5_pickByNumber_37 (by decide) (fun c3 => ?_) (fun c3 => ?_)
        · rw [if_neg c3] at h
          refine lv_iconst (v := 0) hx hb dX5_pickByNumber_44 (by decide) ?_
          exact pf_X5_pickByNumber_45 C  ih p1 v2 v3 0 z hk1 hP hS (lv_sub hl [0, 1, 2, 3] rfl) h
        · rw [if_pos c3] at h
          refine lv_iconst (v := 1) hx hb dX5_pickByNumber_40 (by decide) ?_
          refine lv_goto (tgt := 45) hx hb dX5_pickByNumber_41 (by decide) ?_
          exact pf_X5_pickByNumber_45 C  ih p1 v2 v3 1 z hk1 hP hS (lv_sub hl [0, 1, 2, 3] rfl) h
def fn_X5_pickByNumber (p1 : Nat) (z : St) : Option (Int32 × St) := bv (fn_X5_prepare   z) (fun z2 => nm (z2.1 156 9) (fun v2_3 => fn_X5_pickByNumber_11   fu p1 v2_3 0 z2))
set_option maxHeartbeats 4000000 in
set_option maxRecDepth 100000 in
theorem m_X5_pickByNumber {l : Launch} {G : wG} (hG : Ok G) {p1 : Nat} {z : St} {Rz : Int32 × St} (hk1 : kd p1 = 14) (h : fn_X5_pickByNumber  p1 z = some Rz) : Met l yX5_pickByNumber (wsU yX5_pickByNumber cX5_pickByNumber 5 (some .int)) (rmd 7) (va_Pc [.ref (G.2.2 156), .ref (G.2.2 p1)] (Pre G z)) (va_Qi (fun r u => (r, u) = Rz) (Pre G) (AW G)) 0 0 (AW G) := by
  refine Met.ofW (cc := cX5_pickByNumber) (maxL := 5) (ret := (some .int)) (by decide) rfl ?_
  intro p e s m args below meth c s₁ B hml hv
  obtain ⟨rfl, hP, hK⟩ := hv
  have C : CX p s m ([.ref (G.2.2 156), .ref (G.2.2 p1)] : List Value).toArray meth c cX5_pickByNumber 5 (wsU yX5_pickByNumber cX5_pickByNumber 5 (some .int)) RX5 (some .int) G := ⟨B.exec, B.bytes, hml, findClass_of_methodNamed B.named, atoms_spec (ws := (wsU yX5_pickByNumber cX5_pickByNumber 5 (some .int))) B.pre, B.returns, B.notSynchronized, hK, hG⟩
  obtain ⟨hx, hb, -, hown, hts, hr, hlocks, -, -⟩ := id C
  have hS : va_S (AW G) s.heap s.heap [] := va_S.rf
  have hl := lv_entry [.ref (G.2.2 156), .ref (G.2.2 p1)] (n := 5) (Nat.le_of_ble_eq_true rfl)
  rw [lg_entry_eq]
  generalize (lg_sl [.ref (G.2.2 156), .ref (G.2.2 p1)] ++ List.replicate (5 - (lg_sl [.ref (G.2.2 156), .ref (G.2.2 p1)]).length) Slot.unset).toArray = ls at hl ⊢
  have hl : lv_has ls 5 [(0, .ref (G.2.2 156)), (1, .ref (G.2.2 p1))] := hl
  unfold fn_X5_pickByNumber at h
  refine lv_aload_n hx hb dX5_pickByNumber_0 rfl (lv_at hl 0 rfl) ?_
  obtain ⟨z2, h1, h⟩ := bv_s h
  refine x_Vv (Rz := z2) (As := []) (rest := []) ⟨hx, hb, hml, hown, hts⟩ hK hP hS (kd_lt k_156 (by decide)) (cell_5 k_156) rfl (m_X5_prepare hG   h1) (cwV 0 hts (gV lw_1253 lw_1255 lw_38 lw_122 lw_1256) rfl rfl rfl (by decide +kernel) (rmd_ok (by decide) (by decide))) rfl hl.1 rfl (Nat.le_of_ble_eq_true rfl) dX5_pickByNumber_1 ⟨Nat.le_refl _, Nat.le_refl _⟩ (fun H locs hP hS => ?_)
  refine lv_aload_n hx hb dX5_pickByNumber_4 rfl (lv_at hl 0 rfl) ?_
  refine ge_5_9 hx hb hts (inU inW_X5) hown hK hP k_156 (hts _ (List.mem_cons_of_mem _ lw_576)) dX5_pickByNumber_5 ?_
  obtain ⟨v2_3, e_v2_3, h⟩ := nm_s h
  refine x_top e_v2_3 ?_
  refine lv_istore_n (lv' := [(2, .int v2_3), (0, .ref (G.2.2 156)), (1, .ref (G.2.2 p1))]) hx hb dX5_pickByNumber_8 rfl hl (by decide) rfl (fun ls hl => ?_)
  refine lv_iconst (v := 0) hx hb dX5_pickByNumber_9 (by decide) ?_
  refine lv_istore_n (lv' := [(3, .int 0), (2, .int v2_3), (0, .ref (G.2.2 156)), (1, .ref (G.2.2 p1))]) hx hb dX5_pickByNumber_10 rfl hl (by decide) rfl (fun ls hl => ?_)
  exact pf_X5_pickByNumber_11 C   fu p1 v2_3 0 z2 hk1 _ _ _ hP hS (lv_sub hl [2, 3, 1, 0] rfl) h
