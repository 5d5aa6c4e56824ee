def fn_X5_tryOrders_47 (kT : Nat → Int32 → Int32 → Int32 → Int32 → St → Option St) : Nat → Nat → Int32 → St → Option (St)
  | 0, _, _, _ => none
  | n + 1, p1, v6, z => (if (z.1 156 8) ≤ v6 then some z else (if (Int32.ofNat (ln p1)) ≤ v6 then some z else gd (ix v6 6) (gd (ix v6 (ln p1)) (nm (sI z p1 (Int32.toNatClampNeg v6) (z.1 160 (Int32.toNatClampNeg v6))) (fun z5 => fn_X5_tryOrders_47 kT  n p1 (v6 + 1) z5)))))
set_option maxHeartbeats 4000000 in
set_option maxRecDepth 100000 in
theorem pf_X5_tryOrders_47 {p : Program} {l : Launch} {e : Env} {s : State} {m : MethodId} {args : Array Value} {below : List Frame} {meth : Method} {c : Code} {G : wG} (C : CX p s m args meth c cX5_tryOrders 9 (wsU yX5_tryOrders cX5_tryOrders 9 none) RX5 none G) {Rz : St} {kT : Nat → Int32 → Int32 → Int32 → Int32 → St → Option St} {dd D : Nat} (hd0 : 10 ≤ dd) (hD : dd + 1 ≤ D) (hkT : ∀ {p1 : Nat} {v2 v3 v4 v5 : Int32} {z : St} {Rz : St}, kd p1 = 14 → kT p1 v2 v3 v4 v5 z = some Rz → Met l yX5_tryOrders (wsU yX5_tryOrders cX5_tryOrders 9 none) (rmd dd) (va_Pc [.ref (G.2.2 156), .ref (G.2.2 p1), .int v2, .int v3, .int v4, .int v5] (Pre G z)) (va_Qv (fun u => u = Rz) (Pre G) (AW G)) 0 0 (AW G)) : ∀ (n : Nat) (p1 : Nat) (v6 : Int32) (z : St) (hk1 : kd p1 = 14) (H : Heap) (locs : List Loc) (ls : Array Slot), WP G z H → va_S (AW G) s.heap H locs → lv_has ls 9 [(0, .ref (G.2.2 156)), (1, .ref (G.2.2 p1)), (6, .int v6)] → fn_X5_tryOrders_47 kT  n p1 v6 z = some Rz → W p l e (rmd D) s m args below meth c H locs 0 0 (QV below args s G Rz) (F0 m 47 ls []) := by
  obtain ⟨hx, hb, hml, hown, hts, hr, hlocks, hK, hG⟩ := id C
  intro n
  induction n with
  | zero => intro p1 v6 z hk1 H locs ls hP hS hl h; cases h
  | succ n ih =>
    intro p1 v6 z hk1 H locs ls hP hS hl h
    rw [fn_X5_tryOrders_47] at h
    refine lv_iload hx hb dX5_tryOrders_47 (lv_at hl 2 rfl) ?_
    refine lv_aload_n hx hb dX5_tryOrders_49 rfl (lv_at hl 0 rfl) ?_
    refine ge_5_8 hx hb hts (inU inW_X5) hown hK hP k_156 (hts _ (List.mem_cons_of_mem _ lw_575)) dX5_tryOrders_50 ?_
    refine lv_icmp_ge (tgt := 80) hx hb dX5_tryOrders_53 (by decide) (fun c1 => ?_) (fun c1 => ?_)
    · rw [if_pos c1] at h
      exact x_vret hx hb hr hlocks hK hP hS h dX5_tryOrders_80
    · rw [if_neg c1] at h
      refine lv_iload hx hb dX5_tryOrders_56 (lv_at hl 2 rfl) ?_
      refine lv_aload_n hx hb dX5_tryOrders_58 rfl (lv_at hl 1 rfl) ?_
      refine xn_14 hx hb hK hP hk1 rfl rfl dX5_tryOrders_59 ?_
      refine lv_icmp_ge (tgt := 80) hx hb dX5_tryOrders_60 (by decide) (fun c2 => ?_) (fun c2 => ?_)
      · rw [if_pos c2] at h
        exact x_vret hx hb hr hlocks hK hP hS h dX5_tryOrders_80
      · rw [if_neg c2] at h
        refine lv_aload_n hx hb dX5_tryOrders_63 rfl (lv_at hl 1 rfl) ?_
        refine lv_iload hx hb dX5_tryOrders_64 (lv_at hl 2 rfl) ?_
        refine lv_aload_n hx hb dX5_tryOrders_66 rfl (lv_at hl 0 rfl) ?_
        refine ge_5_6 hx hb hts (inU inW_X5) hown hK hP k_156 (hts _ (List.mem_cons_of_mem _ lw_573)) dX5_tryOrders_67 ?_
        refine lv_iload hx hb dX5_tryOrders_70 (lv_at hl 2 rfl) ?_
        obtain ⟨g3, h⟩ := gd_s h
        refine xl_14 hx hb hK hP k_160 l_160 (ix_in g3) dX5_tryOrders_72 ?_
        obtain ⟨g4, h⟩ := gd_s h
        obtain ⟨z5, e_z5, h⟩ := nm_s h
        refine xs_14 hx hb hK hG hP hS hk1 rfl (ix_in g4) dX5_tryOrders_73 (fun H locs hP hS => ?_)
        rw [← e_z5] at hP
        refine lv_iinc (v := (v6 + 1)) (lv' := [(6, .int (v6 + 1)), (0, .ref (G.2.2 156)), (1, .ref (G.2.2 p1))]) hx hb dX5_tryOrders_74 hl (k := 2) rfl rfl (by decide) rfl (fun ls hl => ?_)
        refine lv_goto (tgt := 47) hx hb dX5_tryOrders_77 (by decide) ?_
        exact ih p1 (v6 + 1) z5 hk1 _ _ _ hP hS (lv_sub hl [1, 2, 0] rfl) h
def fn_X5_tryOrders_188 (kT : Nat → Int32 → Int32 → Int32 → Int32 → St → Option St) (k84 : Nat → Int32 → Int32 → Int32 → Int32 → Int32 → St → Option (St)) (p1 : Nat) (v2 : Int32) (v3 : Int32) (v4 : Int32) (v5 : Int32) (v6 : Int32) (z : St) : Option (St) := k84 p1 v2 v3 v4 v5 (v6 + 1) z
set_option maxHeartbeats 4000000 in
set_option maxRecDepth 100000 in
theorem pf_X5_tryOrders_188 {p : Program} {l : Launch} {e : Env} {s : State} {m : MethodId} {args : Array Value} {below : List Frame} {meth : Method} {c : Code} {G : wG} (C : CX p s m args meth c cX5_tryOrders 9 (wsU yX5_tryOrders cX5_tryOrders 9 none) RX5 none G) {Rz : St} {kT : Nat → Int32 → Int32 → Int32 → Int32 → St → Option St} {k84 : Nat → Int32 → Int32 → Int32 → Int32 → Int32 → St → Option (St)} {dd D : Nat} (hd0 : 10 ≤ dd) (hD : dd + 1 ≤ D) (hkT : ∀ {p1 : Nat} {v2 v3 v4 v5 : Int32} {z : St} {Rz : St}, kd p1 = 14 → kT p1 v2 v3 v4 v5 z = some Rz → Met l yX5_tryOrders (wsU yX5_tryOrders cX5_tryOrders 9 none) (rmd dd) (va_Pc [.ref (G.2.2 156), .ref (G.2.2 p1), .int v2, .int v3, .int v4, .int v5] (Pre G z)) (va_Qv (fun u => u = Rz) (Pre G) (AW G)) 0 0 (AW G)) (hk_84 : ∀ (p1 : Nat) (v2 : Int32) (v3 : Int32) (v4 : Int32) (v5 : Int32) (v6 : Int32) (z : St) (hk1 : kd p1 = 14) (H : Heap) (locs : List Loc) (ls : Array Slot), WP G z H → va_S (AW G) s.heap H locs → lv_has ls 9 [(0, .ref (G.2.2 156)), (1, .ref (G.2.2 p1)), (2, .int v2), (3, .int v3), (4, .int v4), (5, .int v5), (6, .int v6)] → k84 p1 v2 v3 v4 v5 v6 z = some Rz → W p l e (rmd D) s m args below meth c H locs 0 0 (QV below args s G Rz) (F0 m 84 ls [])) (p1 : Nat) (v2 : Int32) (v3 : Int32) (v4 : Int32) (v5 : Int32) (v6 : Int32) (z : St) (hk1 : kd p1 = 14) {H : Heap} {locs : List Loc} {ls : Array Slot} (hP : WP G z H) (hS : va_S (AW G) s.heap H locs) (hl : lv_has ls 9 [(0, .ref (G.2.2 156)), (1, .ref (G.2.2 p1)), (2, .int v2), (3, .int v3), (4, .int v4), (5, .int v5), (6, .int v6)]) (h : fn_X5_tryOrders_188 kT k84 p1 v2 v3 v4 v5 v6 z = some Rz) : W p l e (rmd D) s m args below meth c H locs 0 0 (QV below args s G Rz) (F0 m 188 ls []) := by
  obtain ⟨hx, hb, hml, hown, hts, hr, hlocks, hK, hG⟩ := id C
  unfold fn_X5_tryOrders_188 at h
  refine lv_iinc (v := (v6 + 1)) (lv' := [(6, .int (v6 + 1)), (0, .ref (G.2.2 156)), (1, .ref (G.2.2 p1)), (2, .int v2), (3, .int v3), (4, .int v4), (5, .int v5)]) hx hb dX5_tryOrders_188 hl (k := 6) rfl rfl (by decide) rfl (fun ls hl => ?_)
  refine lv_goto (tgt := 84) hx hb dX5_tryOrders_191 (by decide) ?_
  exact hk_84 p1 v2 v3 v4 v5 (v6 + 1) z hk1 _ _ _ hP hS (lv_sub hl [1, 2, 3, 4, 5, 6, 0] rfl) h
def fn_X5_tryOrders_148 (kT : Nat → Int32 → Int32 → Int32 → Int32 → St → Option St) (k84 : Nat → Int32 → Int32 → Int32 → Int32 → Int32 → St → Option (St)) (p1 : Nat) (v2 : Int32) (v3 : Int32) (v4 : Int32) (v5 : Int32) (v6 : Int32) (v7 : Int32) (tv0 : Int32) (z : St) : Option (St) := gd (ix v2 6) (nm (sI z 160 (Int32.toNatClampNeg v2) v6) (fun z2 => bd (fn_X5_without  v4 v7 z2) (fun r4 z5 => bv (kT p1 (v2 + 1) (v3 &&& ((1 <<< (v6 &&& 31)) ^^^ (-1))) r4 (if tv0 < v5 then tv0 else v5) z5) (fun z7 => fn_X5_tryOrders_188 kT k84 p1 v2 v3 v4 v5 v6 z7))))
set_option maxHeartbeats 4000000 in
set_option maxRecDepth 100000 in
theorem pf_X5_tryOrders_148 {p : Program} {l : Launch} {e : Env} {s : State} {m : MethodId} {args : Array Value} {below : List Frame} {meth : Method} {c : Code} {G : wG} (C : CX p s m args meth c cX5_tryOrders 9 (wsU yX5_tryOrders cX5_tryOrders 9 none) RX5 none G) {Rz : St} {kT : Nat → Int32 → Int32 → Int32 → Int32 → St → Option St} {k84 : Nat → Int32 → Int32 → Int32 → Int32 → Int32 → St → Option (St)} {dd D : Nat} (hd0 : 10 ≤ dd) (hD : dd + 1 ≤ D) (hkT : ∀ {p1 : Nat} {v2 v3 v4 v5 : Int32} {z : St} {Rz : St}, kd p1 = 14 → kT p1 v2 v3 v4 v5 z = some Rz → Met l yX5_tryOrders (wsU yX5_tryOrders cX5_tryOrders 9 none) (rmd dd) (va_Pc [.ref (G.2.2 156), .ref (G.2.2 p1), .int v2, .int v3, .int v4, .int v5] (Pre G z)) (va_Qv (fun u => u = Rz) (Pre G) (AW G)) 0 0 (AW G)) (hk_84 : ∀ (p1 : Nat) (v2 : Int32) (v3 : Int32) (v4 : Int32) (v5 : Int32) (v6 : Int32) (z : St) (hk1 : kd p1 = 14) (H : Heap) (locs : List Loc) (ls : Array Slot), WP G z H → va_S (AW G) s.heap H locs → lv_has ls 9 [(0, .ref (G.2.2 156)), (1, .ref (G.2.2 p1)), (2, .int v2), (3, .int v3), (4, .int v4), (5, .int v5), (6, .int v6)] → k84 p1 v2 v3 v4 v5 v6 z = some Rz → W p l e (rmd D) s m args below meth c H locs 0 0 (QV below args s G Rz) (F0 m 84 ls [])) (p1 : Nat) (v2 : Int32) (v3 : Int32) (v4 : Int32) (v5 : Int32) (v6 : Int32) (v7 : Int32) (tv0 : Int32) (z : St) (hk1 : kd p1 = 14) {H : Heap} {locs : List Loc} {ls : Array Slot} (hP : WP G z H) (hS : va_S (AW G) s.heap H locs) (hl : lv_has ls 9 [(0, .ref (G.2.2 156)), (1, .ref (G.2.2 p1)), (2, .int v2), (3, .int v3), (4, .int v4), (5, .int v5), (6, .int v6), (7, .int v7)]) (h : fn_X5_tryOrders_148 kT k84 p1 v2 v3 v4 v5 v6 v7 tv0 z = some Rz) : W p l e (rmd D) s m args below meth c H locs 0 0 (QV below args s G Rz) (F0 m 148 ls [.int tv0]) := by
  obtain ⟨hx, hb, hml, hown, hts, hr, hlocks, hK, hG⟩ := id C
  unfold fn_X5_tryOrders_148 at h
  refine lv_istore (lv' := [(8, .int tv0), (0, .ref (G.2.2 156)), (1, .ref (G.2.2 p1)), (2, .int v2), (3, .int v3), (4, .int v4), (5, .int v5), (6, .int v6), (7, .int v7)]) hx hb dX5_tryOrders_148 hl (by decide) rfl (fun ls hl => ?_)
  refine lv_aload_n hx hb dX5_tryOrders_150 rfl (lv_at hl 1 rfl) ?_
  refine ge_5_6 hx hb hts (inU inW_X5) hown hK hP k_156 (hts _ (List.mem_cons_of_mem _ lw_573)) dX5_tryOrders_151 ?_
  refine lv_iload_n hx hb dX5_tryOrders_154 rfl (lv_at hl 3 rfl) ?_
  refine lv_iload hx hb dX5_tryOrders_155 (lv_at hl 7 rfl) ?_
  obtain ⟨g1, h⟩ := gd_s h
  obtain ⟨z2, e_z2, h⟩ := nm_s h
  refine xs_14 hx hb hK hG hP hS k_160 l_160 (ix_in g1) dX5_tryOrders_157 (fun H locs hP hS => ?_)
  rw [← e_z2] at hP
  refine lv_aload_n hx hb dX5_tryOrders_158 rfl (lv_at hl 1 rfl) ?_
  refine lv_aload_n hx hb dX5_tryOrders_159 rfl (lv_at hl 2 rfl) ?_
  refine lv_iload_n hx hb dX5_tryOrders_160 rfl (lv_at hl 3 rfl) ?_
  refine lv_iconst (v := 1) hx hb dX5_tryOrders_161 (by decide) ?_
  refine lv_iadd hx hb dX5_tryOrders_162 ?_
  refine lv_iload_n hx hb dX5_tryOrders_163 rfl (lv_at hl 4 rfl) ?_
  refine lv_iconst (v := 1) hx hb dX5_tryOrders_164 (by decide) ?_
  refine lv_iload hx hb dX5_tryOrders_165 (lv_at hl 7 rfl) ?_
  refine lv_ishl hx hb dX5_tryOrders_167 ?_
  refine lv_iconst (v := (-1)) hx hb dX5_tryOrders_168 (by decide) ?_
  refine lv_ixor hx hb dX5_tryOrders_169 ?_
  refine lv_iand hx hb dX5_tryOrders_170 ?_
  refine lv_iload hx hb dX5_tryOrders_171 (lv_at hl 5 rfl) ?_
  refine lv_iload hx hb dX5_tryOrders_173 (lv_at hl 8 rfl) ?_
  obtain ⟨r4, z5, h3, h⟩ := bd_s h
  refine x_Si (Rz := (r4, z5)) (As := [.int v4, .int v7]) (rest := [.int (v3 &&& ((1 <<< (v6 &&& 31)) ^^^ (-1))), .int (v2 + 1), .ref (G.2.2 p1), .ref (G.2.2 156)]) ⟨hx, hb, hml, hown, hts⟩ hK hP hS (m_X5_without hG   h3) (va_cwS 2 hts (gS lw_1263 lw_1264 lw_122 lw_1265) rfl rfl rfl (by decide +kernel) (rmd_ok (by omega) (by decide))) rfl hl.1 rfl (Nat.le_of_ble_eq_true rfl) dX5_tryOrders_175 ⟨Nat.le_refl _, Nat.le_refl _⟩ (fun H locs hP hS => ?_)
  refine lv_iload hx hb dX5_tryOrders_178 (lv_at hl 6 rfl) ?_
  refine lv_iload hx hb dX5_tryOrders_180 (lv_at hl 0 rfl) ?_
  refine va_mmin hx hb (by rw [hml]; exact hl.1.symm) hown (hts _ (List.mem_cons_of_mem _ lw_1280)) (hts _ (List.mem_cons_of_mem _ lw_770)) (hts _ (List.mem_cons_of_mem _ lw_126)) (hts _ (List.mem_cons_of_mem _ lw_771)) (rmd_f (by omega)) (rmd_l (by omega) (Nat.le_of_ble_eq_true rfl)) (Nat.le_refl _) (Nat.le_refl _) dX5_tryOrders_182 ?_
  obtain ⟨z7, h6, h⟩ := bv_s h
  refine x_Vv (Rz := z7) (As := [.ref (G.2.2 p1), .int (v2 + 1), .int (v3 &&& ((1 <<< (v6 &&& 31)) ^^^ (-1))), .int r4, .int (if tv0 < v5 then tv0 else v5)]) (rest := []) ⟨hx, hb, hml, hown, hts⟩ hK hP hS (kd_lt k_156 (by decide)) (cell_5 k_156) rfl (hkT hk1 h6) (cwV 5 hts (gV lw_1276 lw_1278 lw_40 lw_122 lw_1279) rfl rfl rfl (by decide +kernel) (rmd_ok (by omega) (by decide))) rfl hl.1 rfl (Nat.le_of_ble_eq_true rfl) dX5_tryOrders_185 ⟨Nat.le_refl _, Nat.le_refl _⟩ (fun H locs hP hS => ?_)
  exact pf_X5_tryOrders_188 C hd0 hD hkT hk_84 p1 v2 v3 v4 v5 v6 z7 hk1 hP hS (lv_sub hl [1, 2, 3, 4, 5, 6, 7] rfl) h
def fn_X5_tryOrders_84 (kT : Nat → Int32 → Int32 → Int32 → Int32 → St → Option St) : Nat → Nat → Int32 → Int32 → Int32 → Int32 → Int32 → St → Option (St)
  | 0, _, _, _, _, _, _, _ => none
  | n + 1, p1, v2, v3, v4, v5, v6, z => (if (z.1 2 5) ≤ v6 then some z else (if ((v3 >>> (v6 &&& 31)) &&& 1) = 1 then (if 6 ≤ v2 then fn_X5_tryOrders_188 kT (fn_X5_tryOrders_84 kT  n) p1 v2 v3 v4 v5 v6 z else bd (fn_X5_pickOf  v6 v4 z) (fun r5 z6 => (if r5 = (-1) then fn_X5_tryOrders_148 kT (fn_X5_tryOrders_84 kT  n) p1 v2 v3 v4 v5 v6 r5 0 z6 else gd (ix ((v6 * 24) + r5) 144) (fn_X5_tryOrders_148 kT (fn_X5_tryOrders_84 kT  n) p1 v2 v3 v4 v5 v6 r5 (z6.1 159 (Int32.toNatClampNeg ((v6 * 24) + r5))) z6)))) else fn_X5_tryOrders_188 kT (fn_X5_tryOrders_84 kT  n) p1 v2 v3 v4 v5 v6 z))
set_option maxHeartbeats 4000000 in
set_option maxRecDepth 100000 in
theorem pf_X5_tryOrders_84 {p : Program} {l : Launch} {e : Env} {s : State} {m : MethodId} {args : Array Value} {below : List Frame} {meth : Method} {c : Code} {G : wG} (C : CX p s m args meth c cX5_tryOrders 9 (wsU yX5_tryOrders cX5_tryOrders 9 none) RX5 none G) {Rz : St} {kT : Nat → Int32 → Int32 → Int32 → Int32 → St → Option St} {dd D : Nat} (hd0 : 10 ≤ dd) (hD : dd + 1 ≤ D) (hkT : ∀ {p1 : Nat} {v2 v3 v4 v5 : Int32} {z : St} {Rz : St}, kd p1 = 14 → kT p1 v2 v3 v4 v5 z = some Rz → Met l yX5_tryOrders (wsU yX5_tryOrders cX5_tryOrders 9 none) (rmd dd) (va_Pc [.ref (G.2.2 156), .ref (G.2.2 p1), .int v2, .int v3, .int v4, .int v5] (Pre G z)) (va_Qv (fun u => u = Rz) (Pre G) (AW G)) 0 0 (AW G)) : ∀ (n : Nat) (p1 : Nat) (v2 : Int32) (v3 : Int32) (v4 : Int32) (v5 : Int32) (v6 : Int32) (z : St) (hk1 : kd p1 = 14) (H : Heap) (locs : List Loc) (ls : Array Slot), WP G z H → va_S (AW G) s.heap H locs → lv_has ls 9 [(0, .ref (G.2.2 156)), (1, .ref (G.2.2 p1)), (2, .int v2), (3, .int v3), (4, .int v4), (5, .int v5), (6, .int v6)] → fn_X5_tryOrders_84 kT  n p1 v2 v3 v4 v5 v6 z = some Rz → W p l e (rmd D) s m args below meth c H locs 0 0 (QV below args s G Rz) (F0 m 84 ls []) := by
  obtain ⟨hx, hb, hml, hown, hts, hr, hlocks, hK, hG⟩ := id C
  intro n
  induction n with
  | zero => intro p1 v2 v3 v4 v5 v6 z hk1 H locs ls hP hS hl h; cases h
  | succ n ih =>
    intro p1 v2 v3 v4 v5 v6 z hk1 H locs ls hP hS hl h
    rw [fn_X5_tryOrders_84] at h
    refine lv_iload hx hb dX5_tryOrders_84 (lv_at hl 6 rfl) ?_
    refine lv_aload_n hx hb dX5_tryOrders_86 rfl (lv_at hl 0 rfl) ?_
    refine ge_5_0 hx hb hts (inU inW_X5) hown hK hP k_156 (hts _ (List.mem_cons_of_mem _ lw_567)) dX5_tryOrders_87 ?_
    refine ge_7_5 hx hb hts (inU inW_X7) hown hK hP k_2 (hts _ (List.mem_cons_of_mem _ lw_195)) dX5_tryOrders_90 ?_
    refine lv_icmp_ge (tgt := 194) hx hb dX5_tryOrders_93 (by decide) (fun c1 => ?_) (fun c1 => ?_)
    · rw [if_pos c1] at h
      exact x_vret hx hb hr hlocks hK hP hS h dX5_tryOrders_194
    · rw [if_neg c1] at h
      refine lv_iload_n hx hb dX5_tryOrders_96 rfl (lv_at hl 3 rfl) ?_
      refine lv_iload hx hb dX5_tryOrders_97 (lv_at hl 6 rfl) ?_
      refine lv_ishr hx hb dX5_tryOrders_99 ?_
      refine lv_iconst (v := 1) hx hb dX5_tryOrders_100 (by decide) ?_
      refine lv_iand hx hb dX5_tryOrders_101 ?_
      refine lv_iconst (v := 1) hx hb dX5_tryOrders_102 (by decide) ?_
      refine lv_icmp_ne (tgt := 188) hx hb dX5_tryOrders_103 (by decide) (fun c2 => ?_) (fun c2 => ?_)
      · rw [if_neg c2] at h
        exact pf_X5_tryOrders_188 C hd0 hD hkT ih p1 v2 v3 v4 v5 v6 z hk1 hP hS (lv_sub hl [0, 1, 2, 3, 4, 5, 6] rfl) h
      · rw [if_pos c2] at h
        refine lv_iload_n hx hb dX5_tryOrders_106 rfl (lv_at hl 2 rfl) ?_
        refine lv_aload_n hx hb dX5_tryOrders_107 rfl (lv_at hl 0 rfl) ?_
        refine ge_5_6 hx hb hts (inU inW_X5) hown hK hP k_156 (hts _ (List.mem_cons_of_mem _ lw_573)) dX5_tryOrders_108 ?_
        refine xn_14 (v := 6) hx hb hK hP k_160 l_160 rfl dX5_tryOrders_111 ?_
        refine lv_icmp_ge (tgt := 188) hx hb dX5_tryOrders_112 (by decide) (fun c3 => ?_) (fun c3 => ?_)
        · rw [if_pos c3] at h
          exact pf_X5_tryOrders_188 C hd0 hD hkT ih p1 v2 v3 v4 v5 v6 z hk1 hP hS (lv_sub hl [0, 1, 2, 3, 4, 5, 6] rfl) h
        · rw [if_neg c3] at h
          refine lv_aload_n hx hb dX5_tryOrders_115 rfl (lv_at hl 0 rfl) ?_
          refine lv_iload hx hb dX5_tryOrders_116 (lv_at hl 6 rfl) ?_
          refine lv_iload hx hb dX5_tryOrders_118 (lv_at hl 4 rfl) ?_
          obtain ⟨r5, z6, h4, h⟩ := bd_s h
          refine x_Vi (Rz := (r5, z6)) (As := [.int v6, .int v4]) (rest := []) ⟨hx, hb, hml, hown, hts⟩ hK hP hS (kd_lt k_156 (by decide)) (cell_5 k_156) rfl (m_X5_pickOf hG   h4) (cwV 2 hts (gV lw_1259 lw_1261 lw_39 lw_122 lw_1262) rfl rfl rfl (by decide +kernel) (rmd_ok (by omega) (by decide))) rfl hl.1 rfl (Nat.le_of_ble_eq_true rfl) dX5_tryOrders_120 ⟨Nat.le_refl _, Nat.le_refl _⟩ (fun H locs hP hS => ?_)
          refine lv_istore (lv' := [(7, .int r5), (0, .ref (G.2.2 156)), (1, .ref (G.2.2 p1)), (2, .int v2), (3, .int v3), (4, .int v4), (5, .int v5), (6, .int v6)]) hx hb dX5_tryOrders_123 hl (by decide) rfl (fun ls hl => ?_)
          refine lv_iload hx hb dX5_tryOrders_125 (lv_at hl 0 rfl) ?_
          refine lv_iconst (v := (-1)) hx hb dX5_tryOrders_127 (by decide) ?_
          refine lv_icmp_ne (tgt := 135) hx hb dX5_tryOrders_128 (by decide) (fun c7 => ?_) (fun c7 => ?_)
          · rw [if_neg c7] at h
            refine lv_aload_n hx hb dX5_tryOrders_135 rfl (lv_at hl 1 rfl) ?_
            refine ge_5_5 hx hb hts (inU inW_X5) hown hK hP k_156 (hts _ (List.mem_cons_of_mem _ lw_572)) dX5_tryOrders_136 ?_
            refine lv_iload hx hb dX5_tryOrders_139 (lv_at hl 7 rfl) ?_
            refine lv_bipush (v := 24) hx hb dX5_tryOrders_141 (by decide) ?_
            refine lv_imul hx hb dX5_tryOrders_143 ?_
            refine lv_iload hx hb dX5_tryOrders_144 (lv_at hl 0 rfl) ?_
            refine lv_iadd hx hb dX5_tryOrders_146 ?_
            obtain ⟨g8, h⟩ := gd_s h
            refine xl_14 hx hb hK hP k_159 l_159 (ix_in g8) dX5_tryOrders_147 ?_
            exact pf_X5_tryOrders_148 C hd0 hD hkT ih p1 v2 v3 v4 v5 v6 r5 (z6.1 159 (Int32.toNatClampNeg ((v6 * 24) + r5))) z6 hk1 hP hS (lv_sub hl [1, 2, 3, 4, 5, 6, 7, 0] rfl) h
          · rw [if_pos c7] at h
            refine lv_iconst (v := 0) hx hb dX5_tryOrders_131 (by decide) ?_
            refine lv_goto (tgt := 148) hx hb dX5_tryOrders_132 (by decide) ?_
            exact pf_X5_tryOrders_148 C hd0 hD hkT ih p1 v2 v3 v4 v5 v6 r5 0 z6 hk1 hP hS (lv_sub hl [1, 2, 3, 4, 5, 6, 7, 0] rfl) h
def fn_X5_tryOrders_16 (kT : Nat → Int32 → Int32 → Int32 → Int32 → St → Option St) (p1 : Nat) (v2 : Int32) (v3 : Int32) (v4 : Int32) (v5 : Int32) (z : St) : Option (St) := (if v2 ≤ (z.1 156 8) then (if v2 = (z.1 156 8) then nm (sI z 156 10 1) (fun z3 => nm (sI z3 156 11 v5) (fun z4 => fn_X5_tryOrders_47 kT  fu p1 0 z4)) else fn_X5_tryOrders_84 kT  fu p1 v2 v3 v4 v5 0 z) else some z)
set_option maxHeartbeats 4000000 in
set_option maxRecDepth 100000 in
theorem pf_X5_tryOrders_16 {p : Program} {l : Launch} {e : Env} {s : State} {m : MethodId} {args : Array Value} {below : List Frame} {meth : Method} {c : Code} {G : wG} (C : CX p s m args meth c cX5_tryOrders 9 (wsU yX5_tryOrders cX5_tryOrders 9 none) RX5 none G) {Rz : St} {kT : Nat → Int32 → Int32 → Int32 → Int32 → St → Option St} {dd D : Nat} (hd0 : 10 ≤ dd) (hD : dd + 1 ≤ D) (hkT : ∀ {p1 : Nat} {v2 v3 v4 v5 : Int32} {z : St} {Rz : St}, kd p1 = 14 → kT p1 v2 v3 v4 v5 z = some Rz → Met l yX5_tryOrders (wsU yX5_tryOrders cX5_tryOrders 9 none) (rmd dd) (va_Pc [.ref (G.2.2 156), .ref (G.2.2 p1), .int v2, .int v3, .int v4, .int v5] (Pre G z)) (va_Qv (fun u => u = Rz) (Pre G) (AW G)) 0 0 (AW G)) (p1 : Nat) (v2 : Int32) (v3 : Int32) (v4 : Int32) (v5 : Int32) (z : St) (hk1 : kd p1 = 14) {H : Heap} {locs : List Loc} {ls : Array Slot} (hP : WP G z H) (hS : va_S (AW G) s.heap H locs) (hl : lv_has ls 9 [(0, .ref (G.2.2 156)), (1, .ref (G.2.2 p1)), (2, .int v2), (3, .int v3), (4, .int v4), (5, .int v5)]) (h : fn_X5_tryOrders_16 kT  p1 v2 v3 v4 v5 z = some Rz) : W p l e (rmd D) s m args below meth c H locs 0 0 (QV below args s G Rz) (F0 m 16 ls []) := by
  obtain ⟨hx, hb, hml, hown, hts, hr, hlocks, hK, hG⟩ := id C
  unfold fn_X5_tryOrders_16 at h
  refine lv_iload_n hx hb dX5_tryOrders_16 rfl (lv_at hl 2 rfl) ?_
  refine lv_aload_n hx hb dX5_tryOrders_17 rfl (lv_at hl 0 rfl) ?_
  refine ge_5_8 hx hb hts (inU inW_X5) hown hK hP k_156 (hts _ (List.mem_cons_of_mem _ lw_575)) dX5_tryOrders_18 ?_
  refine lv_icmp_le (tgt := 25) hx hb dX5_tryOrders_21 (by decide) (fun c1 => ?_) (fun c1 => ?_)
  · rw [if_pos c1] at h
    refine lv_iload_n hx hb dX5_tryOrders_25 rfl (lv_at hl 2 rfl) ?_
    refine lv_aload_n hx hb dX5_tryOrders_26 rfl (lv_at hl 0 rfl) ?_
    refine ge_5_8 hx hb hts (inU inW_X5) hown hK hP k_156 (hts _ (List.mem_cons_of_mem _ lw_575)) dX5_tryOrders_27 ?_
    refine lv_icmp_ne (tgt := 81) hx hb dX5_tryOrders_30 (by decide) (fun c2 => ?_) (fun c2 => ?_)
    · rw [if_neg c2] at h
      refine lv_iconst (v := 0) hx hb dX5_tryOrders_81 (by decide) ?_
      refine lv_istore (lv' := [(6, .int 0), (0, .ref (G.2.2 156)), (1, .ref (G.2.2 p1)), (2, .int v2), (3, .int v3), (4, .int v4), (5, .int v5)]) hx hb dX5_tryOrders_82 hl (by decide) rfl (fun ls hl => ?_)
      exact pf_X5_tryOrders_84 C hd0 hD hkT  fu p1 v2 v3 v4 v5 0 z hk1 _ _ _ hP hS (lv_sub hl [1, 2, 3, 4, 5, 6, 0] rfl) h
    · rw [if_pos c2] at h
      refine lv_aload_n hx hb dX5_tryOrders_33 rfl (lv_at hl 0 rfl) ?_
      refine lv_iconst (v := 1) hx hb dX5_tryOrders_34 (by decide) ?_
      obtain ⟨z3, e_z3, h⟩ := nm_s h
      refine pu_5_10 hx hb hts (inU inW_X5) hown hK hG hP hS k_156 (hts _ (List.mem_cons_of_mem _ lw_577)) rfl dX5_tryOrders_35 (fun H locs hP hS => ?_)
      rw [← e_z3] at hP
      refine lv_aload_n hx hb dX5_tryOrders_38 rfl (lv_at hl 0 rfl) ?_
      refine lv_iload hx hb dX5_tryOrders_39 (lv_at hl 5 rfl) ?_
      obtain ⟨z4, e_z4, h⟩ := nm_s h
      refine pu_5_11 hx hb hts (inU inW_X5) hown hK hG hP hS k_156 (hts _ (List.mem_cons_of_mem _ lw_578)) dX5_tryOrders_41 (fun H locs hP hS => ?_)
      rw [← e_z4] at hP
      refine lv_iconst (v := 0) hx hb dX5_tryOrders_44 (by decide) ?_
      refine lv_istore (lv' := [(6, .int 0), (0, .ref (G.2.2 156)), (1, .ref (G.2.2 p1)), (2, .int v2), (3, .int v3), (4, .int v4), (5, .int v5)]) hx hb dX5_tryOrders_45 hl (by decide) rfl (fun ls hl => ?_)
      exact pf_X5_tryOrders_47 C hd0 hD hkT  fu p1 0 z4 hk1 _ _ _ hP hS (lv_sub hl [1, 2, 0] rfl) h
  · rw [if_neg c1] at h
    exact x_vret hx hb hr hlocks hK hP hS h dX5_tryOrders_24
def fn_X5_tryOrders (kT : Nat → Int32 → Int32 → Int32 → Int32 → St → Option St) (p1 : Nat) (v2 : Int32) (v3 : Int32) (v4 : Int32) (v5 : Int32) (z : St) : Option (St) := (if (z.1 156 10) = 0 then fn_X5_tryOrders_16 kT  p1 v2 v3 v4 v5 z else (if v5 ≤ (z.1 156 11) then some z else fn_X5_tryOrders_16 kT  p1 v2 v3 v4 v5 z))
set_option maxHeartbeats 4000000 in
set_option maxRecDepth 100000 in
theorem m_X5_tryOrders {l : Launch} {G : wG} (hG : Ok G) {kT : Nat → Int32 → Int32 → Int32 → Int32 → St → Option St} {dd D : Nat} (hd0 : 10 ≤ dd) (hD : dd + 1 ≤ D) (hkT : ∀ {p1 : Nat} {v2 v3 v4 v5 : Int32} {z : St} {Rz : St}, kd p1 = 14 → kT p1 v2 v3 v4 v5 z = some Rz → Met l yX5_tryOrders (wsU yX5_tryOrders cX5_tryOrders 9 none) (rmd dd) (va_Pc [.ref (G.2.2 156), .ref (G.2.2 p1), .int v2, .int v3, .int v4, .int v5] (Pre G z)) (va_Qv (fun u => u = Rz) (Pre G) (AW G)) 0 0 (AW G)) {p1 : Nat} {v2 : Int32} {v3 : Int32} {v4 : Int32} {v5 : Int32} {z : St} {Rz : St} (hk1 : kd p1 = 14) (h : fn_X5_tryOrders kT p1 v2 v3 v4 v5 z = some Rz) : Met l yX5_tryOrders (wsU yX5_tryOrders cX5_tryOrders 9 none) (rmd D) (va_Pc [.ref (G.2.2 156), .ref (G.2.2 p1), .int v2, .int v3, .int v4, .int v5] (Pre G z)) (va_Qv (fun u => u = Rz) (Pre G) (AW G)) 0 0 (AW G) := by
  refine Met.ofW (cc := cX5_tryOrders) (maxL := 9) (ret := none) (by decide) rfl ?_
  intro p e s m args below meth c s₁ B hml hv
  obtain ⟨rfl, hP, hK⟩ := hv
  have C : CX p s m ([.ref (G.2.2 156), .ref (G.2.2 p1), .int v2, .int v3, .int v4, .int v5] : List Value).toArray meth c cX5_tryOrders 9 (wsU yX5_tryOrders cX5_tryOrders 9 none) RX5 none G := ⟨B.exec, B.bytes, hml, findClass_of_methodNamed B.named, atoms_spec (ws := (wsU yX5_tryOrders cX5_tryOrders 9 none)) B.pre, B.returns, B.notSynchronized, hK, hG⟩
  obtain ⟨hx, hb, -, hown, hts, hr, hlocks, -, -⟩ := id C
  have hS : va_S (AW G) s.heap s.heap [] := va_S.rf
  have hl := lv_entry [.ref (G.2.2 156), .ref (G.2.2 p1), .int v2, .int v3, .int v4, .int v5] (n := 9) (Nat.le_of_ble_eq_true rfl)
  rw [lg_entry_eq]
  generalize (lg_sl [.ref (G.2.2 156), .ref (G.2.2 p1), .int v2, .int v3, .int v4, .int v5] ++ List.replicate (9 - (lg_sl [.ref (G.2.2 156), .ref (G.2.2 p1), .int v2, .int v3, .int v4, .int v5]).length) Slot.unset).toArray = ls at hl ⊢
  have hl : lv_has ls 9 [(0, .ref (G.2.2 156)), (1, .ref (G.2.2 p1)), (2, .int v2), (3, .int v3), (4, .int v4), (5, .int v5)] := hl
  unfold fn_X5_tryOrders at h
  refine lv_aload_n hx hb dX5_tryOrders_0 rfl (lv_at hl 0 rfl) ?_
  refine ge_5_10 hx hb hts (inU inW_X5) hown hK hP k_156 (hts _ (List.mem_cons_of_mem _ lw_577)) dX5_tryOrders_1 ?_
  refine lv_if_eq (tgt := 16) hx hb dX5_tryOrders_4 (by decide) (fun c1 => ?_) (fun c1 => ?_)
  · rw [if_pos c1] at h
    exact pf_X5_tryOrders_16 C hd0 hD hkT  p1 v2 v3 v4 v5 z hk1 hP hS (lv_sub hl [0, 1, 2, 3, 4, 5] rfl) h
  · rw [if_neg c1] at h
    refine lv_iload hx hb dX5_tryOrders_7 (lv_at hl 5 rfl) ?_
    refine lv_aload_n hx hb dX5_tryOrders_9 rfl (lv_at hl 0 rfl) ?_
    refine ge_5_11 hx hb hts (inU inW_X5) hown hK hP k_156 (hts _ (List.mem_cons_of_mem _ lw_578)) dX5_tryOrders_10 ?_
    refine lv_icmp_le (tgt := 24) hx hb dX5_tryOrders_13 (by decide) (fun c2 => ?_) (fun c2 => ?_)
    · rw [if_pos c2] at h
      exact x_vret hx hb hr hlocks hK hP hS h dX5_tryOrders_24
    · rw [if_neg c2] at h
      exact pf_X5_tryOrders_16 C hd0 hD hkT  p1 v2 v3 v4 v5 z hk1 hP hS (lv_sub hl [0, 1, 2, 3, 4, 5] rfl) h
