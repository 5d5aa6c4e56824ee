def fn_X12_isEnvied (v1 : Int32) (v2 : Int32) (z : St) : Option (Int32 × St) := bd (fn_X12_pieceOf  v1 z) (fun r2 z3 => bd (fn_X12_pieceOf  v2 z3) (fun r5 z6 => (if v1 = v2 then some (0, z6) else (if 0 ≤ r5 then (if 0 ≤ r2 then bd (fn_X12_worthOf  v1 r5 z6) (fun r11 z12 => bd (fn_X12_worthOf  v1 r2 z12) (fun r14 z15 => (if r11 ≤ r14 then some (0, z15) else some (1, z15)))) else bd (fn_X12_worthOf  v1 r5 z6) (fun r18 z19 => (if r18 ≤ 0 then some (0, z19) else some (1, z19)))) else some (0, z6)))))
set_option maxHeartbeats 4000000 in
set_option maxRecDepth 100000 in
theorem m_X12_isEnvied {l : Launch} {G : wG} (hG : Ok G) {v1 : Int32} {v2 : Int32} {z : St} {Rz : Int32 × St}  (h : fn_X12_isEnvied  v1 v2 z = some Rz) : Met l yX12_isEnvied (wsU yX12_isEnvied cX12_isEnvied 5 (some .boolean)) (rmd 5) (va_Pc [.ref (G.2.2 172), .int v1, .int v2] (Pre G z)) (va_Qi (fun r u => (r, u) = Rz) (Pre G) (AW G)) 0 0 (AW G) := by
  refine Met.ofW (cc := cX12_isEnvied) (maxL := 5) (ret := (some .boolean)) (by decide) rfl ?_
  intro p e s m args below meth c s₁ B hml hv
  obtain ⟨rfl, hP, hK⟩ := hv
  have C : CX p s m ([.ref (G.2.2 172), .int v1, .int v2] : List Value).toArray meth c cX12_isEnvied 5 (wsU yX12_isEnvied cX12_isEnvied 5 (some .boolean)) RX12 (some .boolean) G := ⟨B.exec, B.bytes, hml, findClass_of_methodNamed B.named, atoms_spec (ws := (wsU yX12_isEnvied cX12_isEnvied 5 (some .boolean))) B.pre, B.returns, B.notSynchronized, hK, hG⟩
  obtain ⟨hx, hb, -, hown, hts, hr, hlocks, -, -⟩ := id C
  have hS : va_S (AW G) s.heap s.heap [] := va_S.rf
  have hl := lv_entry [.ref (G.2.2 172), .int v1, .int v2] (n := 5) (Nat.le_of_ble_eq_true rfl)
  rw [lg_entry_eq]
  generalize (lg_sl [.ref (G.2.2 172), .int v1, .int v2] ++ List.replicate (5 - (lg_sl [.ref (G.2.2 172), .int v1, .int v2]).length) Slot.unset).toArray = ls at hl ⊢
  have hl : lv_has ls 5 [(0, .ref (G.2.2 172)), (1, .int v1), (2, .int v2)] := hl
  unfold fn_X12_isEnvied at h
  refine lv_aload_n hx hb dX12_isEnvied_0 rfl (lv_at hl 0 rfl) ?_
  refine lv_iload_n hx hb dX12_isEnvied_1 rfl (lv_at hl 1 rfl) ?_
  obtain ⟨r2, z3, h1, h⟩ := bd_s h
  refine x_Vi (Rz := (r2, z3)) (As := [.int v1]) (rest := []) ⟨hx, hb, hml, hown, hts⟩ hK hP hS (kd_lt k_172 (by decide)) (cell_12 k_172) rfl (m_X12_pieceOf hG   h1) (cwV 1 hts (gV lw_1853 lw_1855 lw_77 lw_125 lw_1856) rfl rfl rfl (by decide +kernel) (rmd_ok (by decide) (by decide))) rfl hl.1 rfl (Nat.le_of_ble_eq_true rfl) dX12_isEnvied_2 ⟨Nat.le_refl _, Nat.le_refl _⟩ (fun H locs hP hS => ?_)
  refine lv_istore_n (lv' := [(3, .int r2), (0, .ref (G.2.2 172)), (1, .int v1), (2, .int v2)]) hx hb dX12_isEnvied_5 rfl hl (by decide) rfl (fun ls hl => ?_)
  refine lv_aload_n hx hb dX12_isEnvied_6 rfl (lv_at hl 1 rfl) ?_
  refine lv_iload_n hx hb dX12_isEnvied_7 rfl (lv_at hl 3 rfl) ?_
  obtain ⟨r5, z6, h4, h⟩ := bd_s h
  refine x_Vi (Rz := (r5, z6)) (As := [.int v2]) (rest := []) ⟨hx, hb, hml, hown, hts⟩ hK hP hS (kd_lt k_172 (by decide)) (cell_12 k_172) rfl (m_X12_pieceOf hG   h4) (cwV 1 hts (gV lw_1853 lw_1855 lw_77 lw_125 lw_1856) rfl rfl rfl (by decide +kernel) (rmd_ok (by decide) (by decide))) rfl hl.1 rfl (Nat.le_of_ble_eq_true rfl) dX12_isEnvied_8 ⟨Nat.le_refl _, Nat.le_refl _⟩ (fun H locs hP hS => ?_)
  refine lv_istore (lv' := [(4, .int r5), (3, .int r2), (0, .ref (G.2.2 172)), (1, .int v1), (2, .int v2)]) hx hb dX12_isEnvied_11 hl (by decide) rfl (fun ls hl => ?_)
  refine lv_iload_n hx hb dX12_isEnvied_13 rfl (lv_at hl 3 rfl) ?_
  refine lv_iload_n hx hb dX12_isEnvied_14 rfl (lv_at hl 4 rfl) ?_
  refine lv_icmp_eq (tgt := 23) hx hb dX12_isEnvied_15 (by decide) (fun c7 => ?_) (fun c7 => ?_)
  · rw [if_pos c7] at h
    refine lv_iconst (v := 0) hx hb dX12_isEnvied_23 (by decide) ?_
    exact x_zret hx hb hr hlocks hK hP hS rfl h dX12_isEnvied_24
  · rw [if_neg c7] at h
    refine lv_iload hx hb dX12_isEnvied_18 (lv_at hl 0 rfl) ?_
    refine lv_if_ge (tgt := 25) hx hb dX12_isEnvied_20 (by decide) (fun c8 => ?_) (fun c8 => ?_)
    · rw [if_pos c8] at h
      refine lv_iload_n hx hb dX12_isEnvied_25 rfl (lv_at hl 1 rfl) ?_
      refine lv_if_ge (tgt := 47) hx hb dX12_isEnvied_26 (by decide) (fun c9 => ?_) (fun c9 => ?_)
      · rw [if_pos c9] at h
        refine lv_aload_n hx hb dX12_isEnvied_47 rfl (lv_at hl 2 rfl) ?_
        refine lv_iload_n hx hb dX12_isEnvied_48 rfl (lv_at hl 3 rfl) ?_
        refine lv_iload hx hb dX12_isEnvied_49 (lv_at hl 0 rfl) ?_
        obtain ⟨r11, z12, h10, h⟩ := bd_s h
        refine x_Vi (Rz := (r11, z12)) (As := [.int v1, .int r5]) (rest := []) ⟨hx, hb, hml, hown, hts⟩ hK hP hS (kd_lt k_172 (by decide)) (cell_12 k_172) rfl (m_X12_worthOf hG   h10) (cwV 2 hts (gV lw_1857 lw_1859 lw_78 lw_125 lw_1860) rfl rfl rfl (by decide +kernel) (rmd_ok (by decide) (by decide))) rfl hl.1 rfl (Nat.le_of_ble_eq_true rfl) dX12_isEnvied_51 ⟨Nat.le_refl _, Nat.le_refl _⟩ (fun H locs hP hS => ?_)
        refine lv_aload_n hx hb dX12_isEnvied_54 rfl (lv_at hl 2 rfl) ?_
        refine lv_iload_n hx hb dX12_isEnvied_55 rfl (lv_at hl 3 rfl) ?_
        refine lv_iload_n hx hb dX12_isEnvied_56 rfl (lv_at hl 1 rfl) ?_
        obtain ⟨r14, z15, h13, h⟩ := bd_s h
        refine x_Vi (Rz := (r14, z15)) (As := [.int v1, .int r2]) (rest := [.int r11]) ⟨hx, hb, hml, hown, hts⟩ hK hP hS (kd_lt k_172 (by decide)) (cell_12 k_172) rfl (m_X12_worthOf hG   h13) (cwV 2 hts (gV lw_1857 lw_1859 lw_78 lw_125 lw_1860) rfl rfl rfl (by decide +kernel) (rmd_ok (by decide) (by decide))) rfl hl.1 rfl (Nat.le_of_ble_eq_true rfl) dX12_isEnvied_57 ⟨Nat.le_refl _, Nat.le_refl _⟩ (fun H locs hP hS => ?_)
        refine lv_icmp_le (tgt := 67) hx hb dX12_isEnvied_60 (by decide) (fun c16 => ?_) (fun c16 => ?_)
        · rw [if_pos c16] at h
          refine lv_iconst (v := 0) hx hb dX12_isEnvied_67 (by decide) ?_
          exact x_zret hx hb hr hlocks hK hP hS rfl h dX12_isEnvied_68
        · rw [if_neg c16] at h
          refine lv_iconst (v := 1) hx hb dX12_isEnvied_63 (by decide) ?_
          refine lv_goto (tgt := 68) hx hb dX12_isEnvied_64 (by decide) ?_
          exact x_zret hx hb hr hlocks hK hP hS rfl h dX12_isEnvied_68
      · rw [if_neg c9] at h
        refine lv_aload_n hx hb dX12_isEnvied_29 rfl (lv_at hl 2 rfl) ?_
        refine lv_iload_n hx hb dX12_isEnvied_30 rfl (lv_at hl 3 rfl) ?_
        refine lv_iload hx hb dX12_isEnvied_31 (lv_at hl 0 rfl) ?_
        obtain ⟨r18, z19, h17, h⟩ := bd_s h
        refine x_Vi (Rz := (r18, z19)) (As := [.int v1, .int r5]) (rest := []) ⟨hx, hb, hml, hown, hts⟩ hK hP hS (kd_lt k_172 (by decide)) (cell_12 k_172) rfl (m_X12_worthOf hG   h17) (cwV 2 hts (gV lw_1857 lw_1859 lw_78 lw_125 lw_1860) rfl rfl rfl (by decide +kernel) (rmd_ok (by decide) (by decide))) rfl hl.1 rfl (Nat.le_of_ble_eq_true rfl) dX12_isEnvied_33 ⟨Nat.le_refl _, Nat.le_refl _⟩ (fun H locs hP hS => ?_)
        refine lv_if_le (tgt := 43) hx hb dX12_isEnvied_36 (by decide) (fun c20 => ?_) (fun c20 => ?_)
        · rw [if_pos c20] at h
          refine lv_iconst (v := 0) hx hb dX12_isEnvied_43 (by decide) ?_
          refine lv_goto (tgt := 68) hx hb dX12_isEnvied_44 (by decide) ?_
          exact x_zret hx hb hr hlocks hK hP hS rfl h dX12_isEnvied_68
        · rw [if_neg c20] at h
          refine lv_iconst (v := 1) hx hb dX12_isEnvied_39 (by decide) ?_
          refine lv_goto (tgt := 68) hx hb dX12_isEnvied_40 (by decide) ?_
          exact x_zret hx hb hr hlocks hK hP hS rfl h dX12_isEnvied_68
    · rw [if_neg c8] at h
      refine lv_iconst (v := 0) hx hb dX12_isEnvied_23 (by decide) ?_
      exact x_zret hx hb hr hlocks hK hP hS rfl h dX12_isEnvied_24
def fn_X12_enviedBy_4 : Nat → Int32 → Int32 → Int32 → St → Option (Int32 × St)
  | 0, _, _, _, _ => none
  | n + 1, v1, v2, v3, z => (if (z.1 172 44) ≤ v3 then some (v2, z) else bd (fn_X12_isEnvied  v1 v3 z) (fun r3 z4 => bd (fn_X12_truth  r3 z4) (fun r6 z7 => nm (v2 ||| (r6 <<< (v3 &&& 31))) (fun v2_8 => fn_X12_enviedBy_4   n v1 v2_8 (v3 + 1) z7))))
set_option maxHeartbeats 4000000 in
set_option maxRecDepth 100000 in
theorem pf_X12_enviedBy_4 {p : Program} {l : Launch} {e : Env} {s : State} {m : MethodId} {args : Array Value} {below : List Frame} {meth : Method} {c : Code} {G : wG} (C : CX p s m args meth c cX12_enviedBy 4 (wsU yX12_enviedBy cX12_enviedBy 4 (some .int)) RX12 (some .int) G) {Rz : Int32 × St} : ∀ (n : Nat) (v1 : Int32) (v2 : Int32) (v3 : Int32) (z : St)  (H : Heap) (locs : List Loc) (ls : Array Slot), WP G z H → va_S (AW G) s.heap H locs → lv_has ls 4 [(0, .ref (G.2.2 172)), (1, .int v1), (2, .int v2), (3, .int v3)] → fn_X12_enviedBy_4   n v1 v2 v3 z = some Rz → W p l e (rmd 6) s m args below meth c H locs 0 0 (QI below args s G Rz) (F0 m 4 ls []) := by
  obtain ⟨hx, hb, hml, hown, hts, hr, hlocks, hK, hG⟩ := id C
  intro n
  induction n with
  | zero => intro v1 v2 v3 z  H locs ls hP hS hl h; cases h
  | succ n ih =>
    intro v1 v2 v3 z  H locs ls hP hS hl h
    rw [fn_X12_enviedBy_4] at h
    refine lv_iload_n hx hb dX12_enviedBy_4 rfl (lv_at hl 3 rfl) ?_
    refine lv_aload_n hx hb dX12_enviedBy_5 rfl (lv_at hl 0 rfl) ?_
    refine ge_12_44 hx hb hts (inU inW_X12) hown hK hP k_172 (hts _ (List.mem_cons_of_mem _ lw_1478)) dX12_enviedBy_6 ?_
    refine lv_icmp_ge (tgt := 32) hx hb dX12_enviedBy_9 (by decide) (fun c1 => ?_) (fun c1 => ?_)
    · rw [if_pos c1] at h
      refine lv_iload_n hx hb dX12_enviedBy_32 rfl (lv_at hl 2 rfl) ?_
      exact x_iret hx hb hr hlocks hK hP hS h dX12_enviedBy_33
    · rw [if_neg c1] at h
      refine lv_iload_n hx hb dX12_enviedBy_12 rfl (lv_at hl 2 rfl) ?_
      refine lv_aload_n hx hb dX12_enviedBy_13 rfl (lv_at hl 0 rfl) ?_
      refine lv_iload_n hx hb dX12_enviedBy_14 rfl (lv_at hl 1 rfl) ?_
      refine lv_iload_n hx hb dX12_enviedBy_15 rfl (lv_at hl 3 rfl) ?_
      obtain ⟨r3, z4, h2, h⟩ := bd_s h
      refine x_Vi (Rz := (r3, z4)) (As := [.int v1, .int v3]) (rest := [.int v2]) ⟨hx, hb, hml, hown, hts⟩ hK hP hS (kd_lt k_172 (by decide)) (cell_12 k_172) rfl (m_X12_isEnvied hG   h2) (cwV 2 hts (gV lw_1956 lw_1958 lw_89 lw_125 lw_1959) rfl rfl rfl (by decide +kernel) (rmd_ok (by decide) (by decide))) rfl hl.1 rfl (Nat.le_of_ble_eq_true rfl) dX12_enviedBy_16 ⟨Nat.le_refl _, Nat.le_refl _⟩ (fun H locs hP hS => ?_)
      obtain ⟨r6, z7, h5, h⟩ := bd_s h
      refine x_Si (Rz := (r6, z7)) (As := [.int r3]) (rest := [.int v2]) ⟨hx, hb, hml, hown, hts⟩ hK hP hS (m_X12_truth hG   h5) (va_cwS 1 hts (gS lw_1842 lw_1843 lw_125 lw_1844) rfl rfl rfl (by decide +kernel) (rmd_ok (by decide) (by decide))) rfl hl.1 rfl (Nat.le_of_ble_eq_true rfl) dX12_enviedBy_19 ⟨Nat.le_refl _, Nat.le_refl _⟩ (fun H locs hP hS => ?_)
      refine lv_iload_n hx hb dX12_enviedBy_22 rfl (lv_at hl 3 rfl) ?_
      refine lv_ishl hx hb dX12_enviedBy_23 ?_
      refine lv_ior hx hb dX12_enviedBy_24 ?_
      obtain ⟨v2_8, e_v2_8, h⟩ := nm_s h
      refine x_top e_v2_8 ?_
      refine lv_istore_n (lv' := [(2, .int v2_8), (0, .ref (G.2.2 172)), (1, .int v1), (3, .int v3)]) hx hb dX12_enviedBy_25 rfl hl (by decide) rfl (fun ls hl => ?_)
      refine lv_iinc (v := (v3 + 1)) (lv' := [(3, .int (v3 + 1)), (2, .int v2_8), (0, .ref (G.2.2 172)), (1, .int v1)]) hx hb dX12_enviedBy_26 hl (k := 3) rfl rfl (by decide) rfl (fun ls hl => ?_)
      refine lv_goto (tgt := 4) hx hb dX12_enviedBy_29 (by decide) ?_
      exact ih v1 v2_8 (v3 + 1) z7  _ _ _ hP hS (lv_sub hl [2, 3, 1, 0] rfl) h
def fn_X12_enviedBy (v1 : Int32) (z : St) : Option (Int32 × St) := fn_X12_enviedBy_4   fu v1 0 0 z
set_option maxHeartbeats 4000000 in
set_option maxRecDepth 100000 in
theorem m_X12_enviedBy {l : Launch} {G : wG} (hG : Ok G) {v1 : Int32} {z : St} {Rz : Int32 × St}  (h : fn_X12_enviedBy  v1 z = some Rz) : Met l yX12_enviedBy (wsU yX12_enviedBy cX12_enviedBy 4 (some .int)) (rmd 6) (va_Pc [.ref (G.2.2 172), .int v1] (Pre G z)) (va_Qi (fun r u => (r, u) = Rz) (Pre G) (AW G)) 0 0 (AW G) := by
  refine Met.ofW (cc := cX12_enviedBy) (maxL := 4) (ret := (some .int)) (by decide) rfl ?_
  intro p e s m args below meth c s₁ B hml hv
  obtain ⟨rfl, hP, hK⟩ := hv
  have C : CX p s m ([.ref (G.2.2 172), .int v1] : List Value).toArray meth c cX12_enviedBy 4 (wsU yX12_enviedBy cX12_enviedBy 4 (some .int)) RX12 (some .int) G := ⟨B.exec, B.bytes, hml, findClass_of_methodNamed B.named, atoms_spec (ws := (wsU yX12_enviedBy cX12_enviedBy 4 (some .int))) B.pre, B.returns, B.notSynchronized, hK, hG⟩
  obtain ⟨hx, hb, -, hown, hts, hr, hlocks, -, -⟩ := id C
  have hS : va_S (AW G) s.heap s.heap [] := va_S.rf
  have hl := lv_entry [.ref (G.2.2 172), .int v1] (n := 4) (Nat.le_of_ble_eq_true rfl)
  rw [lg_entry_eq]
  generalize (lg_sl [.ref (G.2.2 172), .int v1] ++ List.replicate (4 - (lg_sl [.ref (G.2.2 172), .int v1]).length) Slot.unset).toArray = ls at hl ⊢
  have hl : lv_has ls 4 [(0, .ref (G.2.2 172)), (1, .int v1)] := hl
  unfold fn_X12_enviedBy at h
  refine lv_iconst (v := 0) hx hb dX12_enviedBy_0 (by decide) ?_
  refine lv_istore_n (lv' := [(2, .int 0), (0, .ref (G.2.2 172)), (1, .int v1)]) hx hb dX12_enviedBy_1 rfl hl (by decide) rfl (fun ls hl => ?_)
  refine lv_iconst (v := 0) hx hb dX12_enviedBy_2 (by decide) ?_
  refine lv_istore_n (lv' := [(3, .int 0), (2, .int 0), (0, .ref (G.2.2 172)), (1, .int v1)]) hx hb dX12_enviedBy_3 rfl hl (by decide) rfl (fun ls hl => ?_)
  exact pf_X12_enviedBy_4 C   fu v1 0 0 z  _ _ _ hP hS (lv_sub hl [2, 3, 1, 0] rfl) h
def fn_X12_allEnvies_14 (k4 : Int32 → Int32 → St → Option (Int32 × St)) : Nat → Int32 → Int32 → Int32 → St → Option (Int32 × St)
  | 0, _, _, _, _ => none
  | n + 1, v1, v2, v3, z => (if (z.1 172 44) ≤ v3 then k4 v1 (v2 + 1) z else bd (fn_X12_isEnvied  v2 v3 z) (fun r3 z4 => bd (fn_X12_truth  r3 z4) (fun r6 z7 => nm (v1 + r6) (fun v1_8 => fn_X12_allEnvies_14  k4 n v1_8 v2 (v3 + 1) z7))))
set_option maxHeartbeats 4000000 in
set_option maxRecDepth 100000 in
theorem pf_X12_allEnvies_14 {p : Program} {l : Launch} {e : Env} {s : State} {m : MethodId} {args : Array Value} {below : List Frame} {meth : Method} {c : Code} {G : wG} (C : CX p s m args meth c cX12_allEnvies 4 (wsU yX12_allEnvies cX12_allEnvies 4 (some .int)) RX12 (some .int) G) {Rz : Int32 × St} {k4 : Int32 → Int32 → St → Option (Int32 × St)} (hk_4 : ∀ (v1 : Int32) (v2 : Int32) (z : St)  (H : Heap) (locs : List Loc) (ls : Array Slot), WP G z H → va_S (AW G) s.heap H locs → lv_has ls 4 [(0, .ref (G.2.2 172)), (1, .int v1), (2, .int v2)] → k4 v1 v2 z = some Rz → W p l e (rmd 6) s m args below meth c H locs 0 0 (QI below args s G Rz) (F0 m 4 ls [])) : ∀ (n : Nat) (v1 : Int32) (v2 : Int32) (v3 : Int32) (z : St)  (H : Heap) (locs : List Loc) (ls : Array Slot), WP G z H → va_S (AW G) s.heap H locs → lv_has ls 4 [(0, .ref (G.2.2 172)), (1, .int v1), (2, .int v2), (3, .int v3)] → fn_X12_allEnvies_14  k4 n v1 v2 v3 z = some Rz → W p l e (rmd 6) s m args below meth c H locs 0 0 (QI below args s G Rz) (F0 m 14 ls []) := by
  obtain ⟨hx, hb, hml, hown, hts, hr, hlocks, hK, hG⟩ := id C
  intro n
  induction n with
  | zero => intro v1 v2 v3 z  H locs ls hP hS hl h; cases h
  | succ n ih =>
    intro v1 v2 v3 z  H locs ls hP hS hl h
    rw [fn_X12_allEnvies_14] at h
    refine lv_iload_n hx hb dX12_allEnvies_14 rfl (lv_at hl 3 rfl) ?_
    refine lv_aload_n hx hb dX12_allEnvies_15 rfl (lv_at hl 0 rfl) ?_
    refine ge_12_44 hx hb hts (inU inW_X12) hown hK hP k_172 (hts _ (List.mem_cons_of_mem _ lw_1478)) dX12_allEnvies_16 ?_
    refine lv_icmp_ge (tgt := 40) hx hb dX12_allEnvies_19 (by decide) (fun c1 => ?_) (fun c1 => ?_)
    · rw [if_pos c1] at h
      refine lv_iinc (v := (v2 + 1)) (lv' := [(2, .int (v2 + 1)), (0, .ref (G.2.2 172)), (1, .int v1), (3, .int v3)]) hx hb dX12_allEnvies_40 hl (k := 2) rfl rfl (by decide) rfl (fun ls hl => ?_)
      refine lv_goto (tgt := 4) hx hb dX12_allEnvies_43 (by decide) ?_
      exact hk_4 v1 (v2 + 1) z  _ _ _ hP hS (lv_sub hl [1, 2, 0] rfl) h
    · rw [if_neg c1] at h
      refine lv_iload_n hx hb dX12_allEnvies_22 rfl (lv_at hl 1 rfl) ?_
      refine lv_aload_n hx hb dX12_allEnvies_23 rfl (lv_at hl 0 rfl) ?_
      refine lv_iload_n hx hb dX12_allEnvies_24 rfl (lv_at hl 2 rfl) ?_
      refine lv_iload_n hx hb dX12_allEnvies_25 rfl (lv_at hl 3 rfl) ?_
      obtain ⟨r3, z4, h2, h⟩ := bd_s h
      refine x_Vi (Rz := (r3, z4)) (As := [.int v2, .int v3]) (rest := [.int v1]) ⟨hx, hb, hml, hown, hts⟩ hK hP hS (kd_lt k_172 (by decide)) (cell_12 k_172) rfl (m_X12_isEnvied hG   h2) (cwV 2 hts (gV lw_1956 lw_1958 lw_89 lw_125 lw_1959) rfl rfl rfl (by decide +kernel) (rmd_ok (by decide) (by decide))) rfl hl.1 rfl (Nat.le_of_ble_eq_true rfl) dX12_allEnvies_26 ⟨Nat.le_refl _, Nat.le_refl _⟩ (fun H locs hP hS => ?_)
      obtain ⟨r6, z7, h5, h⟩ := bd_s h
      refine x_Si (Rz := (r6, z7)) (As := [.int r3]) (rest := [.int v1]) ⟨hx, hb, hml, hown, hts⟩ hK hP hS (m_X12_truth hG   h5) (va_cwS 1 hts (gS lw_1842 lw_1843 lw_125 lw_1844) rfl rfl rfl (by decide +kernel) (rmd_ok (by decide) (by decide))) rfl hl.1 rfl (Nat.le_of_ble_eq_true rfl) dX12_allEnvies_29 ⟨Nat.le_refl _, Nat.le_refl _⟩ (fun H locs hP hS => ?_)
      refine lv_iadd hx hb dX12_allEnvies_32 ?_
      obtain ⟨v1_8, e_v1_8, h⟩ := nm_s h
      refine x_top e_v1_8 ?_
      refine lv_istore_n (lv' := [(1, .int v1_8), (0, .ref (G.2.2 172)), (2, .int v2), (3, .int v3)]) hx hb dX12_allEnvies_33 rfl hl (by decide) rfl (fun ls hl => ?_)
      refine lv_iinc (v := (v3 + 1)) (lv' := [(3, .int (v3 + 1)), (1, .int v1_8), (0, .ref (G.2.2 172)), (2, .int v2)]) hx hb dX12_allEnvies_34 hl (k := 3) rfl rfl (by decide) rfl (fun ls hl => ?_)
      refine lv_goto (tgt := 14) hx hb dX12_allEnvies_37 (by decide) ?_
      exact ih v1_8 v2 (v3 + 1) z7  _ _ _ hP hS (lv_sub hl [2, 1, 3, 0] rfl) h
def fn_X12_allEnvies_4 : Nat → Int32 → Int32 → St → Option (Int32 × St)
  | 0, _, _, _ => none
  | n + 1, v1, v2, z => (if (z.1 172 44) ≤ v2 then some (v1, z) else fn_X12_allEnvies_14  (fn_X12_allEnvies_4   n) fu v1 v2 0 z)
set_option maxHeartbeats 4000000 in
set_option maxRecDepth 100000 in
theorem pf_X12_allEnvies_4 {p : Program} {l : Launch} {e : Env} {s : State} {m : MethodId} {args : Array Value} {below : List Frame} {meth : Method} {c : Code} {G : wG} (C : CX p s m args meth c cX12_allEnvies 4 (wsU yX12_allEnvies cX12_allEnvies 4 (some .int)) RX12 (some .int) G) {Rz : Int32 × St} : ∀ (n : Nat) (v1 : Int32) (v2 : Int32) (z : St)  (H : Heap) (locs : List Loc) (ls : Array Slot), WP G z H → va_S (AW G) s.heap H locs → lv_has ls 4 [(0, .ref (G.2.2 172)), (1, .int v1), (2, .int v2)] → fn_X12_allEnvies_4   n v1 v2 z = some Rz → W p l e (rmd 6) s m args below meth c H locs 0 0 (QI below args s G Rz) (F0 m 4 ls []) := by
  obtain ⟨hx, hb, hml, hown, hts, hr, hlocks, hK, hG⟩ := id C
  intro n
  induction n with
  | zero => intro v1 v2 z  H locs ls hP hS hl h; cases h
  | succ n ih =>
    intro v1 v2 z  H locs ls hP hS hl h
    rw [fn_X12_allEnvies_4] at h
    refine lv_iload_n hx hb dX12_allEnvies_4 rfl (lv_at hl 2 rfl) ?_
    refine lv_aload_n hx hb dX12_allEnvies_5 rfl (lv_at hl 0 rfl) ?_
    refine ge_12_44 hx hb hts (inU inW_X12) hown hK hP k_172 (hts _ (List.mem_cons_of_mem _ lw_1478)) dX12_allEnvies_6 ?_
    refine lv_icmp_ge (tgt := 46) hx hb dX12_allEnvies_9 (by decide) (fun c1 => ?_) (fun c1 => ?_)
    · rw [if_pos c1] at h
      refine lv_iload_n hx hb dX12_allEnvies_46 rfl (lv_at hl 1 rfl) ?_
      exact x_iret hx hb hr hlocks hK hP hS h dX12_allEnvies_47
    · rw [if_neg c1] at h
      refine lv_iconst (v := 0) hx hb dX12_allEnvies_12 (by decide) ?_
      refine lv_istore_n (lv' := [(3, .int 0), (0, .ref (G.2.2 172)), (1, .int v1), (2, .int v2)]) hx hb dX12_allEnvies_13 rfl hl (by decide) rfl (fun ls hl => ?_)
      exact pf_X12_allEnvies_14 C  ih fu v1 v2 0 z  _ _ _ hP hS (lv_sub hl [1, 2, 3, 0] rfl) h
def fn_X12_allEnvies  (z : St) : Option (Int32 × St) := fn_X12_allEnvies_4   fu 0 0 z
set_option maxHeartbeats 4000000 in
set_option maxRecDepth 100000 in
theorem m_X12_allEnvies {l : Launch} {G : wG} (hG : Ok G)  {z : St} {Rz : Int32 × St}  (h : fn_X12_allEnvies   z = some Rz) : Met l yX12_allEnvies (wsU yX12_allEnvies cX12_allEnvies 4 (some .int)) (rmd 6) (va_Pc [.ref (G.2.2 172)] (Pre G z)) (va_Qi (fun r u => (r, u) = Rz) (Pre G) (AW G)) 0 0 (AW G) := by
  refine Met.ofW (cc := cX12_allEnvies) (maxL := 4) (ret := (some .int)) (by decide) rfl ?_
  intro p e s m args below meth c s₁ B hml hv
  obtain ⟨rfl, hP, hK⟩ := hv
  have C : CX p s m ([.ref (G.2.2 172)] : List Value).toArray meth c cX12_allEnvies 4 (wsU yX12_allEnvies cX12_allEnvies 4 (some .int)) RX12 (some .int) G := ⟨B.exec, B.bytes, hml, findClass_of_methodNamed B.named, atoms_spec (ws := (wsU yX12_allEnvies cX12_allEnvies 4 (some .int))) B.pre, B.returns, B.notSynchronized, hK, hG⟩
  obtain ⟨hx, hb, -, hown, hts, hr, hlocks, -, -⟩ := id C
  have hS : va_S (AW G) s.heap s.heap [] := va_S.rf
  have hl := lv_entry [.ref (G.2.2 172)] (n := 4) (Nat.le_of_ble_eq_true rfl)
  rw [lg_entry_eq]
  generalize (lg_sl [.ref (G.2.2 172)] ++ List.replicate (4 - (lg_sl [.ref (G.2.2 172)]).length) Slot.unset).toArray = ls at hl ⊢
  have hl : lv_has ls 4 [(0, .ref (G.2.2 172))] := hl
  unfold fn_X12_allEnvies at h
  refine lv_iconst (v := 0) hx hb dX12_allEnvies_0 (by decide) ?_
  refine lv_istore_n (lv' := [(1, .int 0), (0, .ref (G.2.2 172))]) hx hb dX12_allEnvies_1 rfl hl (by decide) rfl (fun ls hl => ?_)
  refine lv_iconst (v := 0) hx hb dX12_allEnvies_2 (by decide) ?_
  refine lv_istore_n (lv' := [(2, .int 0), (1, .int 0), (0, .ref (G.2.2 172))]) hx hb dX12_allEnvies_3 rfl hl (by decide) rfl (fun ls hl => ?_)
  exact pf_X12_allEnvies_4 C   fu 0 0 z  _ _ _ hP hS (lv_sub hl [2, 1, 0] rfl) h
def fn_X12_envies (v1 : Int32) (z : St) : Option (Int32 × St) := bd (fn_X12_isGuest  v1 z) (fun r2 z3 => (if r2 = 0 then some ((-1), z3) else bv (fn_X12_load   z3) (fun z6 => bd (fn_X12_enviedBy  v1 z6) (fun r8 z9 => some (r8, z9)))))
set_option maxHeartbeats 4000000 in
set_option maxRecDepth 100000 in
theorem m_X12_envies {l : Launch} {G : wG} (hG : Ok G) {v1 : Int32} {z : St} {Rz : Int32 × St}  (h : fn_X12_envies  v1 z = some Rz) : Met l yX12_envies (wsU yX12_envies cX12_envies 2 (some .int)) (rmd 7) (va_Pc [.ref (G.2.2 172), .int v1] (Pre G z)) (va_Qi (fun r u => (r, u) = Rz) (Pre G) (AW G)) 0 0 (AW G) := by
  refine Met.ofW (cc := cX12_envies) (maxL := 2) (ret := (some .int)) (by decide) rfl ?_
  intro p e s m args below meth c s₁ B hml hv
  obtain ⟨rfl, hP, hK⟩ := hv
  have C : CX p s m ([.ref (G.2.2 172), .int v1] : List Value).toArray meth c cX12_envies 2 (wsU yX12_envies cX12_envies 2 (some .int)) RX12 (some .int) G := ⟨B.exec, B.bytes, hml, findClass_of_methodNamed B.named, atoms_spec (ws := (wsU yX12_envies cX12_envies 2 (some .int))) B.pre, B.returns, B.notSynchronized, hK, hG⟩
  obtain ⟨hx, hb, -, hown, hts, hr, hlocks, -, -⟩ := id C
  have hS : va_S (AW G) s.heap s.heap [] := va_S.rf
  have hl := lv_entry [.ref (G.2.2 172), .int v1] (n := 2) (Nat.le_of_ble_eq_true rfl)
  rw [lg_entry_eq]
  generalize (lg_sl [.ref (G.2.2 172), .int v1] ++ List.replicate (2 - (lg_sl [.ref (G.2.2 172), .int v1]).length) Slot.unset).toArray = ls at hl ⊢
  have hl : lv_has ls 2 [(0, .ref (G.2.2 172)), (1, .int v1)] := hl
  unfold fn_X12_envies at h
  refine lv_aload_n hx hb dX12_envies_0 rfl (lv_at hl 0 rfl) ?_
  refine lv_iload_n hx hb dX12_envies_1 rfl (lv_at hl 1 rfl) ?_
  obtain ⟨r2, z3, h1, h⟩ := bd_s h
  refine x_Vi (Rz := (r2, z3)) (As := [.int v1]) (rest := []) ⟨hx, hb, hml, hown, hts⟩ hK hP hS (kd_lt k_172 (by decide)) (cell_12 k_172) rfl (m_X12_isGuest hG   h1) (cwV 1 hts (gV lw_1849 lw_1851 lw_76 lw_125 lw_1852) rfl rfl rfl (by decide +kernel) (rmd_ok (by decide) (by decide))) rfl hl.1 rfl (Nat.le_of_ble_eq_true rfl) dX12_envies_2 ⟨Nat.le_refl _, Nat.le_refl _⟩ (fun H locs hP hS => ?_)
  refine lv_if_ne (tgt := 10) hx hb dX12_envies_5 (by decide) (fun c4 => ?_) (fun c4 => ?_)
  · rw [if_neg c4] at h
    refine lv_aload_n hx hb dX12_envies_10 rfl (lv_at hl 0 rfl) ?_
    obtain ⟨z6, h5, h⟩ := bv_s h
    refine x_Vv (Rz := z6) (As := []) (rest := []) ⟨hx, hb, hml, hown, hts⟩ hK hP hS (kd_lt k_172 (by decide)) (cell_12 k_172) rfl (m_X12_load hG   h5) (cwV 0 hts (gV lw_1830 lw_1832 lw_73 lw_125 lw_1833) rfl rfl rfl (by decide +kernel) (rmd_ok (by decide) (by decide))) rfl hl.1 rfl (Nat.le_of_ble_eq_true rfl) dX12_envies_11 ⟨Nat.le_refl _, Nat.le_refl _⟩ (fun H locs hP hS => ?_)
    refine lv_aload_n hx hb dX12_envies_14 rfl (lv_at hl 0 rfl) ?_
    refine lv_iload_n hx hb dX12_envies_15 rfl (lv_at hl 1 rfl) ?_
    obtain ⟨r8, z9, h7, h⟩ := bd_s h
    refine x_Vi (Rz := (r8, z9)) (As := [.int v1]) (rest := []) ⟨hx, hb, hml, hown, hts⟩ hK hP hS (kd_lt k_172 (by decide)) (cell_12 k_172) rfl (m_X12_enviedBy hG   h7) (cwV 1 hts (gV lw_1952 lw_1954 lw_88 lw_125 lw_1955) rfl rfl rfl (by decide +kernel) (rmd_ok (by decide) (by decide))) rfl hl.1 rfl (Nat.le_of_ble_eq_true rfl) dX12_envies_16 ⟨Nat.le_refl _, Nat.le_refl _⟩ (fun H locs hP hS => ?_)
    exact x_iret hx hb hr hlocks hK hP hS h dX12_envies_19
  · rw [if_pos c4] at h
    refine lv_iconst (v := (-1)) hx hb dX12_envies_8 (by decide) ?_
    exact x_iret hx hb hr hlocks hK hP hS h dX12_envies_9
def fn_X12_quarrel  (z : St) : Option (Int32 × St) := bv (fn_X12_load   z) (fun z2 => bd (fn_X12_allEnvies   z2) (fun r4 z5 => some (r4, z5)))
set_option maxHeartbeats 4000000 in
set_option maxRecDepth 100000 in
theorem m_X12_quarrel {l : Launch} {G : wG} (hG : Ok G)  {z : St} {Rz : Int32 × St}  (h : fn_X12_quarrel   z = some Rz) : Met l yX12_quarrel (wsU yX12_quarrel cX12_quarrel 1 (some .int)) (rmd 7) (va_Pc [.ref (G.2.2 172)] (Pre G z)) (va_Qi (fun r u => (r, u) = Rz) (Pre G) (AW G)) 0 0 (AW G) := by
  refine Met.ofW (cc := cX12_quarrel) (maxL := 1) (ret := (some .int)) (by decide) rfl ?_
  intro p e s m args below meth c s₁ B hml hv
  obtain ⟨rfl, hP, hK⟩ := hv
  have C : CX p s m ([.ref (G.2.2 172)] : List Value).toArray meth c cX12_quarrel 1 (wsU yX12_quarrel cX12_quarrel 1 (some .int)) RX12 (some .int) G := ⟨B.exec, B.bytes, hml, findClass_of_methodNamed B.named, atoms_spec (ws := (wsU yX12_quarrel cX12_quarrel 1 (some .int))) B.pre, B.returns, B.notSynchronized, hK, hG⟩
  obtain ⟨hx, hb, -, hown, hts, hr, hlocks, -, -⟩ := id C
  have hS : va_S (AW G) s.heap s.heap [] := va_S.rf
  have hl := lv_entry [.ref (G.2.2 172)] (n := 1) (Nat.le_of_ble_eq_true rfl)
  rw [lg_entry_eq]
  generalize (lg_sl [.ref (G.2.2 172)] ++ List.replicate (1 - (lg_sl [.ref (G.2.2 172)]).length) Slot.unset).toArray = ls at hl ⊢
  have hl : lv_has ls 1 [(0, .ref (G.2.2 172))] := hl
  unfold fn_X12_quarrel at h
  refine lv_aload_n hx hb dX12_quarrel_0 rfl (lv_at hl 0 rfl) ?_
  obtain ⟨z2, h1, h⟩ := bv_s h
  refine x_Vv (Rz := z2) (As := []) (rest := []) ⟨hx, hb, hml, hown, hts⟩ hK hP hS (kd_lt k_172 (by decide)) (cell_12 k_172) rfl (m_X12_load hG   h1) (cwV 0 hts (gV lw_1830 lw_1832 lw_73 lw_125 lw_1833) rfl rfl rfl (by decide +kernel) (rmd_ok (by decide) (by decide))) rfl hl.1 rfl (Nat.le_of_ble_eq_true rfl) dX12_quarrel_1 ⟨Nat.le_refl _, Nat.le_refl _⟩ (fun H locs hP hS => ?_)
  refine lv_aload_n hx hb dX12_quarrel_4 rfl (lv_at hl 0 rfl) ?_
  obtain ⟨r4, z5, h3, h⟩ := bd_s h
  refine x_Vi (Rz := (r4, z5)) (As := []) (rest := []) ⟨hx, hb, hml, hown, hts⟩ hK hP hS (kd_lt k_172 (by decide)) (cell_12 k_172) rfl (m_X12_allEnvies hG   h3) (cwV 0 hts (gV lw_1964 lw_1966 lw_90 lw_125 lw_1967) rfl rfl rfl (by decide +kernel) (rmd_ok (by decide) (by decide))) rfl hl.1 rfl (Nat.le_of_ble_eq_true rfl) dX12_quarrel_5 ⟨Nat.le_refl _, Nat.le_refl _⟩ (fun H locs hP hS => ?_)
  exact x_iret hx hb hr hlocks hK hP hS h dX12_quarrel_8
def fn_X12_calm_139 (k25 : Int32 → Int32 → Int32 → Int32 → St → Option (Int32 × St)) (k40 : Int32 → Int32 → Int32 → Int32 → Int32 → St → Option (Int32 × St)) (v1 : Int32) (v2 : Int32) (v3 : Int32) (v4 : Int32) (v5 : Int32) (z : St) : Option (Int32 × St) := k40 v1 v2 v3 v4 (v5 + 1) z
set_option maxHeartbeats 4000000 in
set_option maxRecDepth 100000 in
theorem pf_X12_calm_139 {p : Program} {l : Launch} {e : Env} {s : State} {m : MethodId} {args : Array Value} {below : List Frame} {meth : Method} {c : Code} {G : wG} (C : CX p s m args meth c cX12_calm 9 (wsU yX12_calm cX12_calm 9 (some .int)) RX12 (some .int) G) {Rz : Int32 × St} {k25 : Int32 → Int32 → Int32 → Int32 → St → Option (Int32 × St)} {k40 : Int32 → Int32 → Int32 → Int32 → Int32 → St → Option (Int32 × St)} (hk_25 : ∀ (v1 : Int32) (v2 : Int32) (v3 : Int32) (v4 : Int32) (z : St)  (H : Heap) (locs : List Loc) (ls : Array Slot), WP G z H → va_S (AW G) s.heap H locs → lv_has ls 9 [(0, .ref (G.2.2 172)), (1, .int v1), (2, .int v2), (3, .int v3), (4, .int v4)] → k25 v1 v2 v3 v4 z = some Rz → W p l e (rmd 7) s m args below meth c H locs 0 0 (QI below args s G Rz) (F0 m 25 ls [])) (hk_40 : ∀ (v1 : Int32) (v2 : Int32) (v3 : Int32) (v4 : Int32) (v5 : Int32) (z : St)  (H : Heap) (locs : List Loc) (ls : Array Slot), WP G z H → va_S (AW G) s.heap H locs → lv_has ls 9 [(0, .ref (G.2.2 172)), (1, .int v1), (2, .int v2), (3, .int v3), (4, .int v4), (5, .int v5)] → k40 v1 v2 v3 v4 v5 z = some Rz → W p l e (rmd 7) s m args below meth c H locs 0 0 (QI below args s G Rz) (F0 m 40 ls [])) (v1 : Int32) (v2 : Int32) (v3 : Int32) (v4 : Int32) (v5 : Int32) (z : St)  {H : Heap} {locs : List Loc} {ls : Array Slot} (hP : WP G z H) (hS : va_S (AW G) s.heap H locs) (hl : lv_has ls 9 [(0, .ref (G.2.2 172)), (1, .int v1), (2, .int v2), (3, .int v3), (4, .int v4), (5, .int v5)]) (h : fn_X12_calm_139  k25 k40 v1 v2 v3 v4 v5 z = some Rz) : W p l e (rmd 7) s m args below meth c H locs 0 0 (QI below args s G Rz) (F0 m 139 ls []) := by
  obtain ⟨hx, hb, hml, hown, hts, hr, hlocks, hK, hG⟩ := id C
  unfold fn_X12_calm_139 at h
  refine lv_iinc (v := (v5 + 1)) (lv' := [(5, .int (v5 + 1)), (0, .ref (G.2.2 172)), (1, .int v1), (2, .int v2), (3, .int v3), (4, .int v4)]) hx hb dX12_calm_139 hl (k := 5) rfl rfl (by decide) rfl (fun ls hl => ?_)
  refine lv_goto (tgt := 40) hx hb dX12_calm_142 (by decide) ?_
  exact hk_40 v1 v2 v3 v4 (v5 + 1) z  _ _ _ hP hS (lv_sub hl [1, 2, 3, 4, 5, 0] rfl) h
def fn_X12_calm_40 (k25 : Int32 → Int32 → Int32 → Int32 → St → Option (Int32 × St)) : Nat → Int32 → Int32 → Int32 → Int32 → Int32 → St → Option (Int32 × St)
  | 0, _, _, _, _, _, _ => none
  | n + 1, v1, v2, v3, v4, v5, z => (if (z.1 172 44) ≤ v5 then k25 v1 v2 v3 (v4 + 1) z else bv (fn_X12_load   z) (fun z3 => bd (fn_X12_pieceOf  v4 z3) (fun r5 z6 => bd (fn_X12_pieceOf  v5 z6) (fun r8 z9 => (if r5 < 0 then fn_X12_calm_139  k25 (fn_X12_calm_40  k25 n) v1 v2 v3 v4 v5 z9 else (if 0 ≤ r8 then gd (ix ((7 * r5) + 6) 171) (nm (sI z9 198 (Int32.toNatClampNeg ((7 * r5) + 6)) v5) (fun z13 => gd (ix ((7 * r8) + 6) 171) (nm (sI z13 198 (Int32.toNatClampNeg ((7 * r8) + 6)) v4) (fun z15 => bd (fn_X12_allEnvies   z15) (fun r17 z18 => (if r17 < v2 then nm ((6 * v4) + v5) (fun v3_20 => fn_X12_calm_139  k25 (fn_X12_calm_40  k25 n) v1 r17 v3_20 v4 v5 z18) else fn_X12_calm_139  k25 (fn_X12_calm_40  k25 n) v1 v2 v3 v4 v5 z18)))))) else fn_X12_calm_139  k25 (fn_X12_calm_40  k25 n) v1 v2 v3 v4 v5 z9))))))
set_option maxHeartbeats 4000000 in
set_option maxRecDepth 100000 in
theorem pf_X12_calm_40 {p : Program} {l : Launch} {e : Env} {s : State} {m : MethodId} {args : Array Value} {below : List Frame} {meth : Method} {c : Code} {G : wG} (C : CX p s m args meth c cX12_calm 9 (wsU yX12_calm cX12_calm 9 (some .int)) RX12 (some .int) G) {Rz : Int32 × St} {k25 : Int32 → Int32 → Int32 → Int32 → St → Option (Int32 × St)} (hk_25 : ∀ (v1 : Int32) (v2 : Int32) (v3 : Int32) (v4 : Int32) (z : St)  (H : Heap) (locs : List Loc) (ls : Array Slot), WP G z H → va_S (AW G) s.heap H locs → lv_has ls 9 [(0, .ref (G.2.2 172)), (1, .int v1), (2, .int v2), (3, .int v3), (4, .int v4)] → k25 v1 v2 v3 v4 z = some Rz → W p l e (rmd 7) s m args below meth c H locs 0 0 (QI below args s G Rz) (F0 m 25 ls [])) : ∀ (n : Nat) (v1 : Int32) (v2 : Int32) (v3 : Int32) (v4 : Int32) (v5 : Int32) (z : St)  (H : Heap) (locs : List Loc) (ls : Array Slot), WP G z H → va_S (AW G) s.heap H locs → lv_has ls 9 [(0, .ref (G.2.2 172)), (1, .int v1), (2, .int v2), (3, .int v3), (4, .int v4), (5, .int v5)] → fn_X12_calm_40  k25 n v1 v2 v3 v4 v5 z = some Rz → W p l e (rmd 7) s m args below meth c H locs 0 0 (QI below args s G Rz) (F0 m 40 ls []) := by
  obtain ⟨hx, hb, hml, hown, hts, hr, hlocks, hK, hG⟩ := id C
  intro n
  induction n with
  | zero => intro v1 v2 v3 v4 v5 z  H locs ls hP hS hl h; cases h
  | succ n ih =>
    intro v1 v2 v3 v4 v5 z  H locs ls hP hS hl h
    rw [fn_X12_calm_40] at h
    refine lv_iload hx hb dX12_calm_40 (lv_at hl 5 rfl) ?_
    refine lv_aload_n hx hb dX12_calm_42 rfl (lv_at hl 0 rfl) ?_
    refine ge_12_44 hx hb hts (inU inW_X12) hown hK hP k_172 (hts _ (List.mem_cons_of_mem _ lw_1478)) dX12_calm_43 ?_
    refine lv_icmp_ge (tgt := 145) hx hb dX12_calm_46 (by decide) (fun c1 => ?_) (fun c1 => ?_)
    · rw [if_pos c1] at h
      refine lv_iinc (v := (v4 + 1)) (lv' := [(4, .int (v4 + 1)), (0, .ref (G.2.2 172)), (1, .int v1), (2, .int v2), (3, .int v3), (5, .int v5)]) hx hb dX12_calm_145 hl (k := 4) rfl rfl (by decide) rfl (fun ls hl => ?_)
      refine lv_goto (tgt := 25) hx hb dX12_calm_148 (by decide) ?_
      exact hk_25 v1 v2 v3 (v4 + 1) z  _ _ _ hP hS (lv_sub hl [1, 2, 3, 4, 0] rfl) h
    · rw [if_neg c1] at h
      refine lv_aload_n hx hb dX12_calm_49 rfl (lv_at hl 0 rfl) ?_
      obtain ⟨z3, h2, h⟩ := bv_s h
      refine x_Vv (Rz := z3) (As := []) (rest := []) ⟨hx, hb, hml, hown, hts⟩ hK hP hS (kd_lt k_172 (by decide)) (cell_12 k_172) rfl (m_X12_load hG   h2) (cwV 0 hts (gV lw_1830 lw_1832 lw_73 lw_125 lw_1833) rfl rfl rfl (by decide +kernel) (rmd_ok (by decide) (by decide))) rfl hl.1 rfl (Nat.le_of_ble_eq_true rfl) dX12_calm_50 ⟨Nat.le_refl _, Nat.le_refl _⟩ (fun H locs hP hS => ?_)
      refine lv_aload_n hx hb dX12_calm_53 rfl (lv_at hl 0 rfl) ?_
      refine lv_iload hx hb dX12_calm_54 (lv_at hl 4 rfl) ?_
      obtain ⟨r5, z6, h4, h⟩ := bd_s h
      refine x_Vi (Rz := (r5, z6)) (As := [.int v4]) (rest := []) ⟨hx, hb, hml, hown, hts⟩ hK hP hS (kd_lt k_172 (by decide)) (cell_12 k_172) rfl (m_X12_pieceOf hG   h4) (cwV 1 hts (gV lw_1853 lw_1855 lw_77 lw_125 lw_1856) rfl rfl rfl (by decide +kernel) (rmd_ok (by decide) (by decide))) rfl hl.1 rfl (Nat.le_of_ble_eq_true rfl) dX12_calm_56 ⟨Nat.le_refl _, Nat.le_refl _⟩ (fun H locs hP hS => ?_)
      refine lv_istore (lv' := [(6, .int r5), (0, .ref (G.2.2 172)), (1, .int v1), (2, .int v2), (3, .int v3), (4, .int v4), (5, .int v5)]) hx hb dX12_calm_59 hl (by decide) rfl (fun ls hl => ?_)
      refine lv_aload_n hx hb dX12_calm_61 rfl (lv_at hl 1 rfl) ?_
      refine lv_iload hx hb dX12_calm_62 (lv_at hl 6 rfl) ?_
      obtain ⟨r8, z9, h7, h⟩ := bd_s h
      refine x_Vi (Rz := (r8, z9)) (As := [.int v5]) (rest := []) ⟨hx, hb, hml, hown, hts⟩ hK hP hS (kd_lt k_172 (by decide)) (cell_12 k_172) rfl (m_X12_pieceOf hG   h7) (cwV 1 hts (gV lw_1853 lw_1855 lw_77 lw_125 lw_1856) rfl rfl rfl (by decide +kernel) (rmd_ok (by decide) (by decide))) rfl hl.1 rfl (Nat.le_of_ble_eq_true rfl) dX12_calm_64 ⟨Nat.le_refl _, Nat.le_refl _⟩ (fun H locs hP hS => ?_)
      refine lv_istore (lv' := [(7, .int r8), (6, .int r5), (0, .ref (G.2.2 172)), (1, .int v1), (2, .int v2), (3, .int v3), (4, .int v4), (5, .int v5)]) hx hb dX12_calm_67 hl (by decide) rfl (fun ls hl => ?_)
      refine lv_iload hx hb dX12_calm_69 (lv_at hl 1 rfl) ?_
      refine lv_if_lt (tgt := 139) hx hb dX12_calm_71 (by decide) (fun c10 => ?_) (fun c10 => ?_)
      · rw [if_pos c10] at h
        exact pf_X12_calm_139 C  hk_25 ih v1 v2 v3 v4 v5 z9  hP hS (lv_sub hl [2, 3, 4, 5, 6, 7] rfl) h
      · rw [if_neg c10] at h
        refine lv_iload hx hb dX12_calm_74 (lv_at hl 0 rfl) ?_
        refine lv_if_ge (tgt := 82) hx hb dX12_calm_76 (by decide) (fun c11 => ?_) (fun c11 => ?_)
        · rw [if_pos c11] at h
          refine lv_aload_n hx hb dX12_calm_82 rfl (lv_at hl 2 rfl) ?_
          refine ge_12_49 hx hb hts (inU inW_X12) hown hK hP k_172 (hts _ (List.mem_cons_of_mem _ lw_1483)) dX12_calm_83 ?_
          refine lv_bipush (v := 7) hx hb dX12_calm_86 (by decide) ?_
          refine lv_iload hx hb dX12_calm_88 (lv_at hl 1 rfl) ?_
          refine lv_imul hx hb dX12_calm_90 ?_
          refine lv_bipush (v := 6) hx hb dX12_calm_91 (by decide) ?_
          refine lv_iadd hx hb dX12_calm_93 ?_
          refine lv_iload hx hb dX12_calm_94 (lv_at hl 7 rfl) ?_
          obtain ⟨g12, h⟩ := gd_s h
          obtain ⟨z13, e_z13, h⟩ := nm_s h
          refine xs_14 hx hb hK hG hP hS k_198 l_198 (ix_in g12) dX12_calm_96 (fun H locs hP hS => ?_)
          rw [← e_z13] at hP
          refine lv_aload_n hx hb dX12_calm_97 rfl (lv_at hl 2 rfl) ?_
          refine ge_12_49 hx hb hts (inU inW_X12) hown hK hP k_172 (hts _ (List.mem_cons_of_mem _ lw_1483)) dX12_calm_98 ?_
          refine lv_bipush (v := 7) hx hb dX12_calm_101 (by decide) ?_
          refine lv_iload hx hb dX12_calm_103 (lv_at hl 0 rfl) ?_
          refine lv_imul hx hb dX12_calm_105 ?_
          refine lv_bipush (v := 6) hx hb dX12_calm_106 (by decide) ?_
          refine lv_iadd hx hb dX12_calm_108 ?_
          refine lv_iload hx hb dX12_calm_109 (lv_at hl 6 rfl) ?_
          obtain ⟨g14, h⟩ := gd_s h
          obtain ⟨z15, e_z15, h⟩ := nm_s h
          refine xs_14 hx hb hK hG hP hS k_198 l_198 (ix_in g14) dX12_calm_111 (fun H locs hP hS => ?_)
          rw [← e_z15] at hP
          refine lv_aload_n hx hb dX12_calm_112 rfl (lv_at hl 2 rfl) ?_
          obtain ⟨r17, z18, h16, h⟩ := bd_s h
          refine x_Vi (Rz := (r17, z18)) (As := []) (rest := []) ⟨hx, hb, hml, hown, hts⟩ hK hP hS (kd_lt k_172 (by decide)) (cell_12 k_172) rfl (m_X12_allEnvies hG   h16) (cwV 0 hts (gV lw_1964 lw_1966 lw_90 lw_125 lw_1967) rfl rfl rfl (by decide +kernel) (rmd_ok (by decide) (by decide))) rfl hl.1 rfl (Nat.le_of_ble_eq_true rfl) dX12_calm_113 ⟨Nat.le_refl _, Nat.le_refl _⟩ (fun H locs hP hS => ?_)
          refine lv_istore (lv' := [(8, .int r17), (7, .int r8), (6, .int r5), (0, .ref (G.2.2 172)), (1, .int v1), (2, .int v2), (3, .int v3), (4, .int v4), (5, .int v5)]) hx hb dX12_calm_116 hl (by decide) rfl (fun ls hl => ?_)
          refine lv_iload hx hb dX12_calm_118 (lv_at hl 0 rfl) ?_
          refine lv_iload_n hx hb dX12_calm_120 rfl (lv_at hl 5 rfl) ?_
          refine lv_icmp_lt (tgt := 127) hx hb dX12_calm_121 (by decide) (fun c19 => ?_) (fun c19 => ?_)
          · rw [if_pos c19] at h
            refine lv_iload hx hb dX12_calm_127 (lv_at hl 0 rfl) ?_
            refine lv_istore_n (lv' := [(2, .int r17), (8, .int r17), (7, .int r8), (6, .int r5), (0, .ref (G.2.2 172)), (1, .int v1), (3, .int v3), (4, .int v4), (5, .int v5)]) hx hb dX12_calm_129 rfl hl (by decide) rfl (fun ls hl => ?_)
            refine lv_bipush (v := 6) hx hb dX12_calm_130 (by decide) ?_
            refine lv_iload hx hb dX12_calm_132 (lv_at hl 7 rfl) ?_
            refine lv_imul hx hb dX12_calm_134 ?_
            refine lv_iload hx hb dX12_calm_135 (lv_at hl 8 rfl) ?_
            refine lv_iadd hx hb dX12_calm_137 ?_
            obtain ⟨v3_20, e_v3_20, h⟩ := nm_s h
            refine x_top e_v3_20 ?_
            refine lv_istore_n (lv' := [(3, .int v3_20), (2, .int r17), (8, .int r17), (7, .int r8), (6, .int r5), (0, .ref (G.2.2 172)), (1, .int v1), (4, .int v4), (5, .int v5)]) hx hb dX12_calm_138 rfl hl (by decide) rfl (fun ls hl => ?_)
            exact pf_X12_calm_139 C  hk_25 ih v1 r17 v3_20 v4 v5 z18  hP hS (lv_sub hl [5, 6, 1, 0, 7, 8] rfl) h
          · rw [if_neg c19] at h
            refine lv_goto (tgt := 139) hx hb dX12_calm_124 (by decide) ?_
            exact pf_X12_calm_139 C  hk_25 ih v1 v2 v3 v4 v5 z18  hP hS (lv_sub hl [3, 4, 5, 6, 7, 8] rfl) h
        · rw [if_neg c11] at h
          refine lv_goto (tgt := 139) hx hb dX12_calm_79 (by decide) ?_
          exact pf_X12_calm_139 C  hk_25 ih v1 v2 v3 v4 v5 z9  hP hS (lv_sub hl [2, 3, 4, 5, 6, 7] rfl) h
def fn_X12_calm_25 : Nat → Int32 → Int32 → Int32 → Int32 → St → Option (Int32 × St)
  | 0, _, _, _, _, _ => none
  | n + 1, v1, v2, v3, v4, z => (if (z.1 172 44) ≤ v4 then (if 0 ≤ v3 then (if v1 = 0 then some ((v3 / 6), z) else (if v1 = 1 then some ((v3 - v3 / 6 * 6), z) else some (v2, z))) else some ((-1), z)) else nm (v4 + 1) (fun v5_5 => fn_X12_calm_40  (fn_X12_calm_25   n) fu v1 v2 v3 v4 v5_5 z))
set_option maxHeartbeats 4000000 in
set_option maxRecDepth 100000 in
theorem pf_X12_calm_25 {p : Program} {l : Launch} {e : Env} {s : State} {m : MethodId} {args : Array Value} {below : List Frame} {meth : Method} {c : Code} {G : wG} (C : CX p s m args meth c cX12_calm 9 (wsU yX12_calm cX12_calm 9 (some .int)) RX12 (some .int) G) {Rz : Int32 × St} : ∀ (n : Nat) (v1 : Int32) (v2 : Int32) (v3 : Int32) (v4 : Int32) (z : St)  (H : Heap) (locs : List Loc) (ls : Array Slot), WP G z H → va_S (AW G) s.heap H locs → lv_has ls 9 [(0, .ref (G.2.2 172)), (1, .int v1), (2, .int v2), (3, .int v3), (4, .int v4)] → fn_X12_calm_25   n v1 v2 v3 v4 z = some Rz → W p l e (rmd 7) s m args below meth c H locs 0 0 (QI below args s G Rz) (F0 m 25 ls []) := by
  obtain ⟨hx, hb, hml, hown, hts, hr, hlocks, hK, hG⟩ := id C
  intro n
  induction n with
  | zero => intro v1 v2 v3 v4 z  H locs ls hP hS hl h; cases h
  | succ n ih =>
    intro v1 v2 v3 v4 z  H locs ls hP hS hl h
    rw [fn_X12_calm_25] at h
    refine lv_iload hx hb dX12_calm_25 (lv_at hl 4 rfl) ?_
    refine lv_aload_n hx hb dX12_calm_27 rfl (lv_at hl 0 rfl) ?_
    refine ge_12_44 hx hb hts (inU inW_X12) hown hK hP k_172 (hts _ (List.mem_cons_of_mem _ lw_1478)) dX12_calm_28 ?_
    refine lv_icmp_ge (tgt := 151) hx hb dX12_calm_31 (by decide) (fun c1 => ?_) (fun c1 => ?_)
    · rw [if_pos c1] at h
      refine lv_iload_n hx hb dX12_calm_151 rfl (lv_at hl 3 rfl) ?_
      refine lv_if_ge (tgt := 159) hx hb dX12_calm_152 (by decide) (fun c2 => ?_) (fun c2 => ?_)
      · rw [if_pos c2] at h
        refine lv_iload_n hx hb dX12_calm_159 rfl (lv_at hl 1 rfl) ?_
        refine lv_if_ne (tgt := 170) hx hb dX12_calm_160 (by decide) (fun c3 => ?_) (fun c3 => ?_)
        · rw [if_neg c3] at h
          refine lv_iload_n hx hb dX12_calm_170 rfl (lv_at hl 1 rfl) ?_
          refine lv_iconst (v := 1) hx hb dX12_calm_171 (by decide) ?_
          refine lv_icmp_ne (tgt := 182) hx hb dX12_calm_172 (by decide) (fun c4 => ?_) (fun c4 => ?_)
          · rw [if_neg c4] at h
            refine lv_iload_n hx hb dX12_calm_182 rfl (lv_at hl 2 rfl) ?_
            exact x_iret hx hb hr hlocks hK hP hS h dX12_calm_183
          · rw [if_pos c4] at h
            refine lv_iload_n hx hb dX12_calm_175 rfl (lv_at hl 3 rfl) ?_
            refine lv_bipush (v := 6) hx hb dX12_calm_176 (by decide) ?_
            refine lv_irem hx hb dX12_calm_178 (by decide) ?_
            refine lv_goto (tgt := 183) hx hb dX12_calm_179 (by decide) ?_
            exact x_iret hx hb hr hlocks hK hP hS h dX12_calm_183
        · rw [if_pos c3] at h
          refine lv_iload_n hx hb dX12_calm_163 rfl (lv_at hl 3 rfl) ?_
          refine lv_bipush (v := 6) hx hb dX12_calm_164 (by decide) ?_
          refine lv_idiv hx hb dX12_calm_166 (by decide) ?_
          refine lv_goto (tgt := 183) hx hb dX12_calm_167 (by decide) ?_
          exact x_iret hx hb hr hlocks hK hP hS h dX12_calm_183
      · rw [if_neg c2] at h
        refine lv_iconst (v := (-1)) hx hb dX12_calm_155 (by decide) ?_
        refine lv_goto (tgt := 183) hx hb dX12_calm_156 (by decide) ?_
        exact x_iret hx hb hr hlocks hK hP hS h dX12_calm_183
    · rw [if_neg c1] at h
      refine lv_iload hx hb dX12_calm_34 (lv_at hl 4 rfl) ?_
      refine lv_iconst (v := 1) hx hb dX12_calm_36 (by decide) ?_
      refine lv_iadd hx hb dX12_calm_37 ?_
      obtain ⟨v5_5, e_v5_5, h⟩ := nm_s h
      refine x_top e_v5_5 ?_
      refine lv_istore (lv' := [(5, .int v5_5), (0, .ref (G.2.2 172)), (1, .int v1), (2, .int v2), (3, .int v3), (4, .int v4)]) hx hb dX12_calm_38 hl (by decide) rfl (fun ls hl => ?_)
      exact pf_X12_calm_40 C  ih fu v1 v2 v3 v4 v5_5 z  _ _ _ hP hS (lv_sub hl [1, 2, 3, 4, 5, 0] rfl) h
def fn_X12_calm (v1 : Int32) (z : St) : Option (Int32 × St) := bd (fn_X12_isIn  v1 0 2 z) (fun r2 z3 => (if r2 = 0 then some ((-1), z3) else bv (fn_X12_load   z3) (fun z6 => bd (fn_X12_allEnvies   z6) (fun r8 z9 => fn_X12_calm_25   fu v1 r8 (-1) 0 z9))))
set_option maxHeartbeats 4000000 in
set_option maxRecDepth 100000 in
theorem m_X12_calm {l : Launch} {G : wG} (hG : Ok G) {v1 : Int32} {z : St} {Rz : Int32 × St}  (h : fn_X12_calm  v1 z = some Rz) : Met l yX12_calm (wsU yX12_calm cX12_calm 9 (some .int)) (rmd 7) (va_Pc [.ref (G.2.2 172), .int v1] (Pre G z)) (va_Qi (fun r u => (r, u) = Rz) (Pre G) (AW G)) 0 0 (AW G) := by
  refine Met.ofW (cc := cX12_calm) (maxL := 9) (ret := (some .int)) (by decide) rfl ?_
  intro p e s m args below meth c s₁ B hml hv
  obtain ⟨rfl, hP, hK⟩ := hv
  have C : CX p s m ([.ref (G.2.2 172), .int v1] : List Value).toArray meth c cX12_calm 9 (wsU yX12_calm cX12_calm 9 (some .int)) RX12 (some .int) G := ⟨B.exec, B.bytes, hml, findClass_of_methodNamed B.named, atoms_spec (ws := (wsU yX12_calm cX12_calm 9 (some .int))) B.pre, B.returns, B.notSynchronized, hK, hG⟩
  obtain ⟨hx, hb, -, hown, hts, hr, hlocks, -, -⟩ := id C
  have hS : va_S (AW G) s.heap s.heap [] := va_S.rf
  have hl := lv_entry [.ref (G.2.2 172), .int v1] (n := 9) (Nat.le_of_ble_eq_true rfl)
  rw [lg_entry_eq]
  generalize (lg_sl [.ref (G.2.2 172), .int v1] ++ List.replicate (9 - (lg_sl [.ref (G.2.2 172), .int v1]).length) Slot.unset).toArray = ls at hl ⊢
  have hl : lv_has ls 9 [(0, .ref (G.2.2 172)), (1, .int v1)] := hl
  unfold fn_X12_calm at h
  refine lv_iload_n hx hb dX12_calm_0 rfl (lv_at hl 1 rfl) ?_
  refine lv_iconst (v := 0) hx hb dX12_calm_1 (by decide) ?_
  refine lv_iconst (v := 2) hx hb dX12_calm_2 (by decide) ?_
  obtain ⟨r2, z3, h1, h⟩ := bd_s h
  refine x_Si (Rz := (r2, z3)) (As := [.int v1, .int 0, .int 2]) (rest := []) ⟨hx, hb, hml, hown, hts⟩ hK hP hS (m_X12_isIn hG   h1) (va_cwS 3 hts (gS lw_1827 lw_1828 lw_125 lw_1829) rfl rfl rfl (by decide +kernel) (rmd_ok (by decide) (by decide))) rfl hl.1 rfl (Nat.le_of_ble_eq_true rfl) dX12_calm_3 ⟨Nat.le_refl _, Nat.le_refl _⟩ (fun H locs hP hS => ?_)
  refine lv_if_ne (tgt := 11) hx hb dX12_calm_6 (by decide) (fun c4 => ?_) (fun c4 => ?_)
  · rw [if_neg c4] at h
    refine lv_aload_n hx hb dX12_calm_11 rfl (lv_at hl 0 rfl) ?_
    obtain ⟨z6, h5, h⟩ := bv_s h
    refine x_Vv (Rz := z6) (As := []) (rest := []) ⟨hx, hb, hml, hown, hts⟩ hK hP hS (kd_lt k_172 (by decide)) (cell_12 k_172) rfl (m_X12_load hG   h5) (cwV 0 hts (gV lw_1830 lw_1832 lw_73 lw_125 lw_1833) rfl rfl rfl (by decide +kernel) (rmd_ok (by decide) (by decide))) rfl hl.1 rfl (Nat.le_of_ble_eq_true rfl) dX12_calm_12 ⟨Nat.le_refl _, Nat.le_refl _⟩ (fun H locs hP hS => ?_)
    refine lv_aload_n hx hb dX12_calm_15 rfl (lv_at hl 0 rfl) ?_
    obtain ⟨r8, z9, h7, h⟩ := bd_s h
    refine x_Vi (Rz := (r8, z9)) (As := []) (rest := []) ⟨hx, hb, hml, hown, hts⟩ hK hP hS (kd_lt k_172 (by decide)) (cell_12 k_172) rfl (m_X12_allEnvies hG   h7) (cwV 0 hts (gV lw_1964 lw_1966 lw_90 lw_125 lw_1967) rfl rfl rfl (by decide +kernel) (rmd_ok (by decide) (by decide))) rfl hl.1 rfl (Nat.le_of_ble_eq_true rfl) dX12_calm_16 ⟨Nat.le_refl _, Nat.le_refl _⟩ (fun H locs hP hS => ?_)
    refine lv_istore_n (lv' := [(2, .int r8), (0, .ref (G.2.2 172)), (1, .int v1)]) hx hb dX12_calm_19 rfl hl (by decide) rfl (fun ls hl => ?_)
    refine lv_iconst (v := (-1)) hx hb dX12_calm_20 (by decide) ?_
    refine lv_istore_n (lv' := [(3, .int (-1)), (2, .int r8), (0, .ref (G.2.2 172)), (1, .int v1)]) hx hb dX12_calm_21 rfl hl (by decide) rfl (fun ls hl => ?_)
    refine lv_iconst (v := 0) hx hb dX12_calm_22 (by decide) ?_
    refine lv_istore (lv' := [(4, .int 0), (3, .int (-1)), (2, .int r8), (0, .ref (G.2.2 172)), (1, .int v1)]) hx hb dX12_calm_23 hl (by decide) rfl (fun ls hl => ?_)
    exact pf_X12_calm_25 C   fu v1 r8 (-1) 0 z9  _ _ _ hP hS (lv_sub hl [3, 4, 2, 1, 0] rfl) h
  · rw [if_pos c4] at h
    refine lv_iconst (v := (-1)) hx hb dX12_calm_9 (by decide) ?_
    exact x_iret hx hb hr hlocks hK hP hS h dX12_calm_10
def fn_X12_layHalve_139 (k8 : Int32 → Int32 → Int32 → Int32 → St → Option (St)) (v1 : Int32) (v2 : Int32) (v3 : Int32) (v4 : Int32) (z : St) : Option (St) := k8 v1 v2 v3 (v4 + 1) z
set_option maxHeartbeats 4000000 in
set_option maxRecDepth 100000 in
theorem pf_X12_layHalve_139 {p : Program} {l : Launch} {e : Env} {s : State} {m : MethodId} {args : Array Value} {below : List Frame} {meth : Method} {c : Code} {G : wG} (C : CX p s m args meth c cX12_layHalve 8 (wsU yX12_layHalve cX12_layHalve 8 none) RX12 none G) {Rz : St} {k8 : Int32 → Int32 → Int32 → Int32 → St → Option (St)} (hk_8 : ∀ (v1 : Int32) (v2 : Int32) (v3 : Int32) (v4 : Int32) (z : St)  (H : Heap) (locs : List Loc) (ls : Array Slot), WP G z H → va_S (AW G) s.heap H locs → lv_has ls 8 [(0, .ref (G.2.2 172)), (1, .int v1), (2, .int v2), (3, .int v3), (4, .int v4)] → k8 v1 v2 v3 v4 z = some Rz → W p l e (rmd 5) s m args below meth c H locs 0 0 (QV below args s G Rz) (F0 m 8 ls [])) (v1 : Int32) (v2 : Int32) (v3 : Int32) (v4 : Int32) (z : St)  {H : Heap} {locs : List Loc} {ls : Array Slot} (hP : WP G z H) (hS : va_S (AW G) s.heap H locs) (hl : lv_has ls 8 [(0, .ref (G.2.2 172)), (1, .int v1), (2, .int v2), (3, .int v3), (4, .int v4)]) (h : fn_X12_layHalve_139  k8 v1 v2 v3 v4 z = some Rz) : W p l e (rmd 5) s m args below meth c H locs 0 0 (QV below args s G Rz) (F0 m 139 ls []) := by
  obtain ⟨hx, hb, hml, hown, hts, hr, hlocks, hK, hG⟩ := id C
  unfold fn_X12_layHalve_139 at h
  refine lv_iinc (v := (v4 + 1)) (lv' := [(4, .int (v4 + 1)), (0, .ref (G.2.2 172)), (1, .int v1), (2, .int v2), (3, .int v3)]) hx hb dX12_layHalve_139 hl (k := 4) rfl rfl (by decide) rfl (fun ls hl => ?_)
  refine lv_goto (tgt := 8) hx hb dX12_layHalve_142 (by decide) ?_
  exact hk_8 v1 v2 v3 (v4 + 1) z  _ _ _ hP hS (lv_sub hl [1, 2, 3, 4, 0] rfl) h
def fn_X12_layHalve_121 (k8 : Int32 → Int32 → Int32 → Int32 → St → Option (St)) (v1 : Int32) (v2 : Int32) (v3 : Int32) (v4 : Int32) (v6 : Int32) (v7 : Int32) (z : St) : Option (St) := nm (sI z 172 58 v4) (fun z1 => nm (sI z1 172 59 v6) (fun z2 => nm (sI z2 172 60 v7) (fun z3 => fn_X12_layHalve_139  k8 v1 v2 v3 v4 z3)))
set_option maxHeartbeats 4000000 in
set_option maxRecDepth 100000 in
theorem pf_X12_layHalve_121 {p : Program} {l : Launch} {e : Env} {s : State} {m : MethodId} {args : Array Value} {below : List Frame} {meth : Method} {c : Code} {G : wG} (C : CX p s m args meth c cX12_layHalve 8 (wsU yX12_layHalve cX12_layHalve 8 none) RX12 none G) {Rz : St} {k8 : Int32 → Int32 → Int32 → Int32 → St → Option (St)} (hk_8 : ∀ (v1 : Int32) (v2 : Int32) (v3 : Int32) (v4 : Int32) (z : St)  (H : Heap) (locs : List Loc) (ls : Array Slot), WP G z H → va_S (AW G) s.heap H locs → lv_has ls 8 [(0, .ref (G.2.2 172)), (1, .int v1), (2, .int v2), (3, .int v3), (4, .int v4)] → k8 v1 v2 v3 v4 z = some Rz → W p l e (rmd 5) s m args below meth c H locs 0 0 (QV below args s G Rz) (F0 m 8 ls [])) (v1 : Int32) (v2 : Int32) (v3 : Int32) (v4 : Int32) (v6 : Int32) (v7 : Int32) (z : St)  {H : Heap} {locs : List Loc} {ls : Array Slot} (hP : WP G z H) (hS : va_S (AW G) s.heap H locs) (hl : lv_has ls 8 [(0, .ref (G.2.2 172)), (1, .int v1), (2, .int v2), (3, .int v3), (4, .int v4), (6, .int v6), (7, .int v7)]) (h : fn_X12_layHalve_121  k8 v1 v2 v3 v4 v6 v7 z = some Rz) : W p l e (rmd 5) s m args below meth c H locs 0 0 (QV below args s G Rz) (F0 m 121 ls []) := by
  obtain ⟨hx, hb, hml, hown, hts, hr, hlocks, hK, hG⟩ := id C
  unfold fn_X12_layHalve_121 at h
  refine lv_aload_n hx hb dX12_layHalve_121 rfl (lv_at hl 0 rfl) ?_
  refine lv_iload hx hb dX12_layHalve_122 (lv_at hl 4 rfl) ?_
  obtain ⟨z1, e_z1, h⟩ := nm_s h
  refine pu_12_58 hx hb hts (inU inW_X12) hown hK hG hP hS k_172 (hts _ (List.mem_cons_of_mem _ lw_1492)) dX12_layHalve_124 (fun H locs hP hS => ?_)
  rw [← e_z1] at hP
  refine lv_aload_n hx hb dX12_layHalve_127 rfl (lv_at hl 0 rfl) ?_
  refine lv_iload hx hb dX12_layHalve_128 (lv_at hl 5 rfl) ?_
  obtain ⟨z2, e_z2, h⟩ := nm_s h
  refine pu_12_59 hx hb hts (inU inW_X12) hown hK hG hP hS k_172 (hts _ (List.mem_cons_of_mem _ lw_1493)) dX12_layHalve_130 (fun H locs hP hS => ?_)
  rw [← e_z2] at hP
  refine lv_aload_n hx hb dX12_layHalve_133 rfl (lv_at hl 0 rfl) ?_
  refine lv_iload hx hb dX12_layHalve_134 (lv_at hl 6 rfl) ?_
  obtain ⟨z3, e_z3, h⟩ := nm_s h
  refine pu_12_60 hx hb hts (inU inW_X12) hown hK hG hP hS k_172 (hts _ (List.mem_cons_of_mem _ lw_1494)) dX12_layHalve_136 (fun H locs hP hS => ?_)
  rw [← e_z3] at hP
  exact pf_X12_layHalve_139 C  hk_8 v1 v2 v3 v4 z3  hP hS (lv_sub hl [0, 1, 2, 3, 4] rfl) h
def fn_X12_layHalve_97 (k8 : Int32 → Int32 → Int32 → Int32 → St → Option (St)) (v1 : Int32) (v2 : Int32) (v3 : Int32) (v4 : Int32) (v6 : Int32) (tv1 : Int32) (tv2 : Int32) (z : St) : Option (St) := bd (fn_X12_worthOf  tv1 tv2 z) (fun r2 z3 => (if (z3.1 172 58) < 0 then fn_X12_layHalve_121  k8 v1 v2 v3 v4 v6 r2 z3 else (if (z3.1 172 60) < r2 then fn_X12_layHalve_121  k8 v1 v2 v3 v4 v6 r2 z3 else fn_X12_layHalve_139  k8 v1 v2 v3 v4 z3)))
set_option maxHeartbeats 4000000 in
set_option maxRecDepth 100000 in
theorem pf_X12_layHalve_97 {p : Program} {l : Launch} {e : Env} {s : State} {m : MethodId} {args : Array Value} {below : List Frame} {meth : Method} {c : Code} {G : wG} (C : CX p s m args meth c cX12_layHalve 8 (wsU yX12_layHalve cX12_layHalve 8 none) RX12 none G) {Rz : St} {k8 : Int32 → Int32 → Int32 → Int32 → St → Option (St)} (hk_8 : ∀ (v1 : Int32) (v2 : Int32) (v3 : Int32) (v4 : Int32) (z : St)  (H : Heap) (locs : List Loc) (ls : Array Slot), WP G z H → va_S (AW G) s.heap H locs → lv_has ls 8 [(0, .ref (G.2.2 172)), (1, .int v1), (2, .int v2), (3, .int v3), (4, .int v4)] → k8 v1 v2 v3 v4 z = some Rz → W p l e (rmd 5) s m args below meth c H locs 0 0 (QV below args s G Rz) (F0 m 8 ls [])) (v1 : Int32) (v2 : Int32) (v3 : Int32) (v4 : Int32) (v6 : Int32) (tv1 : Int32) (tv2 : Int32) (z : St)  {H : Heap} {locs : List Loc} {ls : Array Slot} (hP : WP G z H) (hS : va_S (AW G) s.heap H locs) (hl : lv_has ls 8 [(0, .ref (G.2.2 172)), (1, .int v1), (2, .int v2), (3, .int v3), (4, .int v4), (6, .int v6)]) (h : fn_X12_layHalve_97  k8 v1 v2 v3 v4 v6 tv1 tv2 z = some Rz) : W p l e (rmd 5) s m args below meth c H locs 0 0 (QV below args s G Rz) (F0 m 97 ls [.int tv2, .int tv1, .ref (G.2.2 172)]) := by
  obtain ⟨hx, hb, hml, hown, hts, hr, hlocks, hK, hG⟩ := id C
  unfold fn_X12_layHalve_97 at h
  obtain ⟨r2, z3, h1, h⟩ := bd_s h
  refine x_Vi (Rz := (r2, z3)) (As := [.int tv1, .int tv2]) (rest := []) ⟨hx, hb, hml, hown, hts⟩ hK hP hS (kd_lt k_172 (by decide)) (cell_12 k_172) rfl (m_X12_worthOf hG   h1) (cwV 2 hts (gV lw_1857 lw_1859 lw_78 lw_125 lw_1860) rfl rfl rfl (by decide +kernel) (rmd_ok (by decide) (by decide))) rfl hl.1 rfl (Nat.le_of_ble_eq_true rfl) dX12_layHalve_97 ⟨Nat.le_refl _, Nat.le_refl _⟩ (fun H locs hP hS => ?_)
  refine lv_istore (lv' := [(7, .int r2), (0, .ref (G.2.2 172)), (1, .int v1), (2, .int v2), (3, .int v3), (4, .int v4), (6, .int v6)]) hx hb dX12_layHalve_100 hl (by decide) rfl (fun ls hl => ?_)
  refine lv_aload_n hx hb dX12_layHalve_102 rfl (lv_at hl 1 rfl) ?_
  refine ge_12_58 hx hb hts (inU inW_X12) hown hK hP k_172 (hts _ (List.mem_cons_of_mem _ lw_1492)) dX12_layHalve_103 ?_
  refine lv_if_lt (tgt := 121) hx hb dX12_layHalve_106 (by decide) (fun c4 => ?_) (fun c4 => ?_)
  · rw [if_pos c4] at h
    exact pf_X12_layHalve_121 C  hk_8 v1 v2 v3 v4 v6 r2 z3  hP hS (lv_sub hl [1, 2, 3, 4, 5, 6, 0] rfl) h
  · rw [if_neg c4] at h
    refine lv_iload hx hb dX12_layHalve_109 (lv_at hl 0 rfl) ?_
    refine lv_aload_n hx hb dX12_layHalve_111 rfl (lv_at hl 1 rfl) ?_
    refine ge_12_60 hx hb hts (inU inW_X12) hown hK hP k_172 (hts _ (List.mem_cons_of_mem _ lw_1494)) dX12_layHalve_112 ?_
    refine lv_icmp_gt (tgt := 121) hx hb dX12_layHalve_115 (by decide) (fun c5 => ?_) (fun c5 => ?_)
    · rw [if_pos c5] at h
      exact pf_X12_layHalve_121 C  hk_8 v1 v2 v3 v4 v6 r2 z3  hP hS (lv_sub hl [1, 2, 3, 4, 5, 6, 0] rfl) h
    · rw [if_neg c5] at h
      refine lv_goto (tgt := 139) hx hb dX12_layHalve_118 (by decide) ?_
      exact pf_X12_layHalve_139 C  hk_8 v1 v2 v3 v4 z3  hP hS (lv_sub hl [1, 2, 3, 4, 5] rfl) h
def fn_X12_layHalve_78 (k8 : Int32 → Int32 → Int32 → Int32 → St → Option (St)) (v1 : Int32) (v2 : Int32) (v3 : Int32) (v4 : Int32) (v5 : Int32) (tv0 : Int32) (z : St) : Option (St) := bd (fn_X12_truth  tv0 z) (fun r2 z3 => (if r2 = 1 then fn_X12_layHalve_97  k8 v1 v2 v3 v4 r2 v2 v1 z3 else fn_X12_layHalve_97  k8 v1 v2 v3 v4 r2 v2 v5 z3))
set_option maxHeartbeats 4000000 in
set_option maxRecDepth 100000 in
theorem pf_X12_layHalve_78 {p : Program} {l : Launch} {e : Env} {s : State} {m : MethodId} {args : Array Value} {below : List Frame} {meth : Method} {c : Code} {G : wG} (C : CX p s m args meth c cX12_layHalve 8 (wsU yX12_layHalve cX12_layHalve 8 none) RX12 none G) {Rz : St} {k8 : Int32 → Int32 → Int32 → Int32 → St → Option (St)} (hk_8 : ∀ (v1 : Int32) (v2 : Int32) (v3 : Int32) (v4 : Int32) (z : St)  (H : Heap) (locs : List Loc) (ls : Array Slot), WP G z H → va_S (AW G) s.heap H locs → lv_has ls 8 [(0, .ref (G.2.2 172)), (1, .int v1), (2, .int v2), (3, .int v3), (4, .int v4)] → k8 v1 v2 v3 v4 z = some Rz → W p l e (rmd 5) s m args below meth c H locs 0 0 (QV below args s G Rz) (F0 m 8 ls [])) (v1 : Int32) (v2 : Int32) (v3 : Int32) (v4 : Int32) (v5 : Int32) (tv0 : Int32) (z : St)  {H : Heap} {locs : List Loc} {ls : Array Slot} (hP : WP G z H) (hS : va_S (AW G) s.heap H locs) (hl : lv_has ls 8 [(0, .ref (G.2.2 172)), (1, .int v1), (2, .int v2), (3, .int v3), (4, .int v4), (5, .int v5)]) (h : fn_X12_layHalve_78  k8 v1 v2 v3 v4 v5 tv0 z = some Rz) : W p l e (rmd 5) s m args below meth c H locs 0 0 (QV below args s G Rz) (F0 m 78 ls [.int tv0]) := by
  obtain ⟨hx, hb, hml, hown, hts, hr, hlocks, hK, hG⟩ := id C
  unfold fn_X12_layHalve_78 at h
  obtain ⟨r2, z3, h1, h⟩ := bd_s h
  refine x_Si (Rz := (r2, z3)) (As := [.int tv0]) (rest := []) ⟨hx, hb, hml, hown, hts⟩ hK hP hS (m_X12_truth hG   h1) (va_cwS 1 hts (gS lw_1842 lw_1843 lw_125 lw_1844) rfl rfl rfl (by decide +kernel) (rmd_ok (by decide) (by decide))) rfl hl.1 rfl (Nat.le_of_ble_eq_true rfl) dX12_layHalve_78 ⟨Nat.le_refl _, Nat.le_refl _⟩ (fun H locs hP hS => ?_)
  refine lv_istore (lv' := [(6, .int r2), (0, .ref (G.2.2 172)), (1, .int v1), (2, .int v2), (3, .int v3), (4, .int v4), (5, .int v5)]) hx hb dX12_layHalve_81 hl (by decide) rfl (fun ls hl => ?_)
  refine lv_aload_n hx hb dX12_layHalve_83 rfl (lv_at hl 1 rfl) ?_
  refine lv_iload_n hx hb dX12_layHalve_84 rfl (lv_at hl 3 rfl) ?_
  refine lv_iload hx hb dX12_layHalve_85 (lv_at hl 0 rfl) ?_
  refine lv_iconst (v := 1) hx hb dX12_layHalve_87 (by decide) ?_
  refine lv_icmp_ne (tgt := 95) hx hb dX12_layHalve_88 (by decide) (fun c4 => ?_) (fun c4 => ?_)
  · rw [if_neg c4] at h
    refine lv_iload hx hb dX12_layHalve_95 (lv_at hl 6 rfl) ?_
    exact pf_X12_layHalve_97 C  hk_8 v1 v2 v3 v4 r2 v2 v5 z3  hP hS (lv_sub hl [1, 2, 3, 4, 5, 0] rfl) h
  · rw [if_pos c4] at h
    refine lv_iload_n hx hb dX12_layHalve_91 rfl (lv_at hl 2 rfl) ?_
    refine lv_goto (tgt := 97) hx hb dX12_layHalve_92 (by decide) ?_
    exact pf_X12_layHalve_97 C  hk_8 v1 v2 v3 v4 r2 v2 v1 z3  hP hS (lv_sub hl [1, 2, 3, 4, 5, 0] rfl) h
def fn_X12_layHalve_8 : Nat → Int32 → Int32 → Int32 → Int32 → St → Option (St)
  | 0, _, _, _, _, _ => none
  | n + 1, v1, v2, v3, v4, z => (if 16 ≤ v4 then some z else bv (fn_X12_load   z) (fun z3 => bd (fn_X12_canCut  v1 (v4 / 8) (v4 - v4 / 8 * 8) z3) (fun r5 z6 => (if r5 = 0 then fn_X12_layHalve_139  (fn_X12_layHalve_8   n) v1 v2 v3 v4 z6 else bd (fn_X12_goCut  v1 (v4 / 8) (v4 - v4 / 8 * 8) z6) (fun r9 z10 => bd (fn_X12_worthOf  v3 r9 z10) (fun r12 z13 => bd (fn_X12_worthOf  v3 v1 z13) (fun r15 z16 => (if r12 ≤ r15 then fn_X12_layHalve_78  (fn_X12_layHalve_8   n) v1 v2 v3 v4 r9 0 z16 else fn_X12_layHalve_78  (fn_X12_layHalve_8   n) v1 v2 v3 v4 r9 1 z16))))))))
set_option maxHeartbeats 4000000 in
set_option maxRecDepth 100000 in
theorem pf_X12_layHalve_8 {p : Program} {l : Launch} {e : Env} {s : State} {m : MethodId} {args : Array Value} {below : List Frame} {meth : Method} {c : Code} {G : wG} (C : CX p s m args meth c cX12_layHalve 8 (wsU yX12_layHalve cX12_layHalve 8 none) RX12 none G) {Rz : St} : ∀ (n : Nat) (v1 : Int32) (v2 : Int32) (v3 : Int32) (v4 : Int32) (z : St)  (H : Heap) (locs : List Loc) (ls : Array Slot), WP G z H → va_S (AW G) s.heap H locs → lv_has ls 8 [(0, .ref (G.2.2 172)), (1, .int v1), (2, .int v2), (3, .int v3), (4, .int v4)] → fn_X12_layHalve_8   n v1 v2 v3 v4 z = some Rz → W p l e (rmd 5) s m args below meth c H locs 0 0 (QV below args s G Rz) (F0 m 8 ls []) := by
  obtain ⟨hx, hb, hml, hown, hts, hr, hlocks, hK, hG⟩ := id C
  intro n
  induction n with
  | zero => intro v1 v2 v3 v4 z  H locs ls hP hS hl h; cases h
  | succ n ih =>
    intro v1 v2 v3 v4 z  H locs ls hP hS hl h
    rw [fn_X12_layHalve_8] at h
    refine lv_iload hx hb dX12_layHalve_8 (lv_at hl 4 rfl) ?_
    refine lv_bipush (v := 16) hx hb dX12_layHalve_10 (by decide) ?_
    refine lv_icmp_ge (tgt := 145) hx hb dX12_layHalve_12 (by decide) (fun c1 => ?_) (fun c1 => ?_)
    · rw [if_pos c1] at h
      exact x_vret hx hb hr hlocks hK hP hS h dX12_layHalve_145
    · rw [if_neg c1] at h
      refine lv_aload_n hx hb dX12_layHalve_15 rfl (lv_at hl 0 rfl) ?_
      obtain ⟨z3, h2, h⟩ := bv_s h
      refine x_Vv (Rz := z3) (As := []) (rest := []) ⟨hx, hb, hml, hown, hts⟩ hK hP hS (kd_lt k_172 (by decide)) (cell_12 k_172) rfl (m_X12_load hG   h2) (cwV 0 hts (gV lw_1830 lw_1832 lw_73 lw_125 lw_1833) rfl rfl rfl (by decide +kernel) (rmd_ok (by decide) (by decide))) rfl hl.1 rfl (Nat.le_of_ble_eq_true rfl) dX12_layHalve_16 ⟨Nat.le_refl _, Nat.le_refl _⟩ (fun H locs hP hS => ?_)
      refine lv_aload_n hx hb dX12_layHalve_19 rfl (lv_at hl 0 rfl) ?_
      refine lv_iload_n hx hb dX12_layHalve_20 rfl (lv_at hl 1 rfl) ?_
      refine lv_iload hx hb dX12_layHalve_21 (lv_at hl 4 rfl) ?_
      refine lv_bipush (v := 8) hx hb dX12_layHalve_23 (by decide) ?_
      refine lv_idiv hx hb dX12_layHalve_25 (by decide) ?_
      refine lv_iload hx hb dX12_layHalve_26 (lv_at hl 4 rfl) ?_
      refine lv_bipush (v := 8) hx hb dX12_layHalve_28 (by decide) ?_
      refine lv_irem hx hb dX12_layHalve_30 (by decide) ?_
      obtain ⟨r5, z6, h4, h⟩ := bd_s h
      refine x_Vi (Rz := (r5, z6)) (As := [.int v1, .int (v4 / 8), .int (v4 - v4 / 8 * 8)]) (rest := []) ⟨hx, hb, hml, hown, hts⟩ hK hP hS (kd_lt k_172 (by decide)) (cell_12 k_172) rfl (m_X12_canCut hG   h4) (cwV 3 hts (gV lw_1881 lw_1883 lw_81 lw_125 lw_1884) rfl rfl rfl (by decide +kernel) (rmd_ok (by decide) (by decide))) rfl hl.1 rfl (Nat.le_of_ble_eq_true rfl) dX12_layHalve_31 ⟨Nat.le_refl _, Nat.le_refl _⟩ (fun H locs hP hS => ?_)
      refine lv_if_ne (tgt := 40) hx hb dX12_layHalve_34 (by decide) (fun c7 => ?_) (fun c7 => ?_)
      · rw [if_neg c7] at h
        refine lv_aload_n hx hb dX12_layHalve_40 rfl (lv_at hl 0 rfl) ?_
        refine lv_iload_n hx hb dX12_layHalve_41 rfl (lv_at hl 1 rfl) ?_
        refine lv_iload hx hb dX12_layHalve_42 (lv_at hl 4 rfl) ?_
        refine lv_bipush (v := 8) hx hb dX12_layHalve_44 (by decide) ?_
        refine lv_idiv hx hb dX12_layHalve_46 (by decide) ?_
        refine lv_iload hx hb dX12_layHalve_47 (lv_at hl 4 rfl) ?_
        refine lv_bipush (v := 8) hx hb dX12_layHalve_49 (by decide) ?_
        refine lv_irem hx hb dX12_layHalve_51 (by decide) ?_
        obtain ⟨r9, z10, h8, h⟩ := bd_s h
        refine x_Vi (Rz := (r9, z10)) (As := [.int v1, .int (v4 / 8), .int (v4 - v4 / 8 * 8)]) (rest := []) ⟨hx, hb, hml, hown, hts⟩ hK hP hS (kd_lt k_172 (by decide)) (cell_12 k_172) rfl (m_X12_goCut hG   h8) (cwV 3 hts (gV lw_1901 lw_1903 lw_85 lw_125 lw_1904) rfl rfl rfl (by decide +kernel) (rmd_ok (by decide) (by decide))) rfl hl.1 rfl (Nat.le_of_ble_eq_true rfl) dX12_layHalve_52 ⟨Nat.le_refl _, Nat.le_refl _⟩ (fun H locs hP hS => ?_)
        refine lv_istore (lv' := [(5, .int r9), (0, .ref (G.2.2 172)), (1, .int v1), (2, .int v2), (3, .int v3), (4, .int v4)]) hx hb dX12_layHalve_55 hl (by decide) rfl (fun ls hl => ?_)
        refine lv_aload_n hx hb dX12_layHalve_57 rfl (lv_at hl 1 rfl) ?_
        refine lv_iload_n hx hb dX12_layHalve_58 rfl (lv_at hl 4 rfl) ?_
        refine lv_iload hx hb dX12_layHalve_59 (lv_at hl 0 rfl) ?_
        obtain ⟨r12, z13, h11, h⟩ := bd_s h
        refine x_Vi (Rz := (r12, z13)) (As := [.int v3, .int r9]) (rest := []) ⟨hx, hb, hml, hown, hts⟩ hK hP hS (kd_lt k_172 (by decide)) (cell_12 k_172) rfl (m_X12_worthOf hG   h11) (cwV 2 hts (gV lw_1857 lw_1859 lw_78 lw_125 lw_1860) rfl rfl rfl (by decide +kernel) (rmd_ok (by decide) (by decide))) rfl hl.1 rfl (Nat.le_of_ble_eq_true rfl) dX12_layHalve_61 ⟨Nat.le_refl _, Nat.le_refl _⟩ (fun H locs hP hS => ?_)
        refine lv_aload_n hx hb dX12_layHalve_64 rfl (lv_at hl 1 rfl) ?_
        refine lv_iload_n hx hb dX12_layHalve_65 rfl (lv_at hl 4 rfl) ?_
        refine lv_iload_n hx hb dX12_layHalve_66 rfl (lv_at hl 2 rfl) ?_
        obtain ⟨r15, z16, h14, h⟩ := bd_s h
        refine x_Vi (Rz := (r15, z16)) (As := [.int v3, .int v1]) (rest := [.int r12]) ⟨hx, hb, hml, hown, hts⟩ hK hP hS (kd_lt k_172 (by decide)) (cell_12 k_172) rfl (m_X12_worthOf hG   h14) (cwV 2 hts (gV lw_1857 lw_1859 lw_78 lw_125 lw_1860) rfl rfl rfl (by decide +kernel) (rmd_ok (by decide) (by decide))) rfl hl.1 rfl (Nat.le_of_ble_eq_true rfl) dX12_layHalve_67 ⟨Nat.le_refl _, Nat.le_refl _⟩ (fun H locs hP hS => ?_)
        refine lv_icmp_le (tgt := 77) hx hb dX12_layHalve_70 (by decide) (fun c17 => ?_) (fun c17 => ?_)
        · rw [if_pos c17] at h
          refine lv_iconst (v := 0) hx hb dX12_layHalve_77 (by decide) ?_
          exact pf_X12_layHalve_78 C  ih v1 v2 v3 v4 r9 0 z16  hP hS (lv_sub hl [1, 2, 3, 4, 5, 0] rfl) h
        · rw [if_neg c17] at h
          refine lv_iconst (v := 1) hx hb dX12_layHalve_73 (by decide) ?_
          refine lv_goto (tgt := 78) hx hb dX12_layHalve_74 (by decide) ?_
          exact pf_X12_layHalve_78 C  ih v1 v2 v3 v4 r9 1 z16  hP hS (lv_sub hl [1, 2, 3, 4, 5, 0] rfl) h
      · rw [if_pos c7] at h
        refine lv_goto (tgt := 139) hx hb dX12_layHalve_37 (by decide) ?_
        exact pf_X12_layHalve_139 C  ih v1 v2 v3 v4 z6  hP hS (lv_sub hl [0, 1, 2, 3, 4] rfl) h
def fn_X12_layHalve (v1 : Int32) (v2 : Int32) (v3 : Int32) (z : St) : Option (St) := nm (sI z 172 58 (-1)) (fun z1 => fn_X12_layHalve_8   fu v1 v2 v3 0 z1)
set_option maxHeartbeats 4000000 in
set_option maxRecDepth 100000 in
theorem m_X12_layHalve {l : Launch} {G : wG} (hG : Ok G) {v1 : Int32} {v2 : Int32} {v3 : Int32} {z : St} {Rz : St}  (h : fn_X12_layHalve  v1 v2 v3 z = some Rz) : Met l yX12_layHalve (wsU yX12_layHalve cX12_layHalve 8 none) (rmd 5) (va_Pc [.ref (G.2.2 172), .int v1, .int v2, .int v3] (Pre G z)) (va_Qv (fun u => u = Rz) (Pre G) (AW G)) 0 0 (AW G) := by
  refine Met.ofW (cc := cX12_layHalve) (maxL := 8) (ret := none) (by decide) rfl ?_
  intro p e s m args below meth c s₁ B hml hv
  obtain ⟨rfl, hP, hK⟩ := hv
  have C : CX p s m ([.ref (G.2.2 172), .int v1, .int v2, .int v3] : List Value).toArray meth c cX12_layHalve 8 (wsU yX12_layHalve cX12_layHalve 8 none) RX12 none G := ⟨B.exec, B.bytes, hml, findClass_of_methodNamed B.named, atoms_spec (ws := (wsU yX12_layHalve cX12_layHalve 8 none)) B.pre, B.returns, B.notSynchronized, hK, hG⟩
  obtain ⟨hx, hb, -, hown, hts, hr, hlocks, -, -⟩ := id C
  have hS : va_S (AW G) s.heap s.heap [] := va_S.rf
  have hl := lv_entry [.ref (G.2.2 172), .int v1, .int v2, .int v3] (n := 8) (Nat.le_of_ble_eq_true rfl)
  rw [lg_entry_eq]
  generalize (lg_sl [.ref (G.2.2 172), .int v1, .int v2, .int v3] ++ List.replicate (8 - (lg_sl [.ref (G.2.2 172), .int v1, .int v2, .int v3]).length) Slot.unset).toArray = ls at hl ⊢
  have hl : lv_has ls 8 [(0, .ref (G.2.2 172)), (1, .int v1), (2, .int v2), (3, .int v3)] := hl
  unfold fn_X12_layHalve at h
  refine lv_aload_n hx hb dX12_layHalve_0 rfl (lv_at hl 0 rfl) ?_
  refine lv_iconst (v := (-1)) hx hb dX12_layHalve_1 (by decide) ?_
  obtain ⟨z1, e_z1, h⟩ := nm_s h
  refine pu_12_58 hx hb hts (inU inW_X12) hown hK hG hP hS k_172 (hts _ (List.mem_cons_of_mem _ lw_1492)) dX12_layHalve_2 (fun H locs hP hS => ?_)
  rw [← e_z1] at hP
  refine lv_iconst (v := 0) hx hb dX12_layHalve_5 (by decide) ?_
  refine lv_istore (lv' := [(4, .int 0), (0, .ref (G.2.2 172)), (1, .int v1), (2, .int v2), (3, .int v3)]) hx hb dX12_layHalve_6 hl (by decide) rfl (fun ls hl => ?_)
  exact pf_X12_layHalve_8 C   fu v1 v2 v3 0 z1  _ _ _ hP hS (lv_sub hl [1, 2, 3, 4, 0] rfl) h
def fn_X12_canHalve (v1 : Int32) (v2 : Int32) (v3 : Int32) (z : St) : Option (Int32 × St) := bd (fn_X12_isPiece  v1 z) (fun r2 z3 => (if r2 = 0 then some (0, z3) else bd (fn_X12_isGuest  v2 z3) (fun r6 z7 => (if r6 = 0 then some (0, z7) else bd (fn_X12_isGuest  v3 z7) (fun r10 z11 => (if r10 = 0 then some (0, z11) else (if v2 = v3 then some (0, z11) else some (1, z11))))))))
set_option maxHeartbeats 4000000 in
set_option maxRecDepth 100000 in
theorem m_X12_canHalve {l : Launch} {G : wG} (hG : Ok G) {v1 : Int32} {v2 : Int32} {v3 : Int32} {z : St} {Rz : Int32 × St}  (h : fn_X12_canHalve  v1 v2 v3 z = some Rz) : Met l yX12_canHalve (wsU yX12_canHalve cX12_canHalve 4 (some .boolean)) (rmd 3) (va_Pc [.ref (G.2.2 172), .int v1, .int v2, .int v3] (Pre G z)) (va_Qi (fun r u => (r, u) = Rz) (Pre G) (AW G)) 0 0 (AW G) := by
  refine Met.ofW (cc := cX12_canHalve) (maxL := 4) (ret := (some .boolean)) (by decide) rfl ?_
  intro p e s m args below meth c s₁ B hml hv
  obtain ⟨rfl, hP, hK⟩ := hv
  have C : CX p s m ([.ref (G.2.2 172), .int v1, .int v2, .int v3] : List Value).toArray meth c cX12_canHalve 4 (wsU yX12_canHalve cX12_canHalve 4 (some .boolean)) RX12 (some .boolean) G := ⟨B.exec, B.bytes, hml, findClass_of_methodNamed B.named, atoms_spec (ws := (wsU yX12_canHalve cX12_canHalve 4 (some .boolean))) B.pre, B.returns, B.notSynchronized, hK, hG⟩
  obtain ⟨hx, hb, -, hown, hts, hr, hlocks, -, -⟩ := id C
  have hS : va_S (AW G) s.heap s.heap [] := va_S.rf
  have hl := lv_entry [.ref (G.2.2 172), .int v1, .int v2, .int v3] (n := 4) (Nat.le_of_ble_eq_true rfl)
  rw [lg_entry_eq]
  generalize (lg_sl [.ref (G.2.2 172), .int v1, .int v2, .int v3] ++ List.replicate (4 - (lg_sl [.ref (G.2.2 172), .int v1, .int v2, .int v3]).length) Slot.unset).toArray = ls at hl ⊢
  have hl : lv_has ls 4 [(0, .ref (G.2.2 172)), (1, .int v1), (2, .int v2), (3, .int v3)] := hl
  unfold fn_X12_canHalve at h
  refine lv_aload_n hx hb dX12_canHalve_0 rfl (lv_at hl 0 rfl) ?_
  refine lv_iload_n hx hb dX12_canHalve_1 rfl (lv_at hl 1 rfl) ?_
  obtain ⟨r2, z3, h1, h⟩ := bd_s h
  refine x_Vi (Rz := (r2, z3)) (As := [.int v1]) (rest := []) ⟨hx, hb, hml, hown, hts⟩ hK hP hS (kd_lt k_172 (by decide)) (cell_12 k_172) rfl (m_X12_isPiece hG   h1) (cwV 1 hts (gV lw_1823 lw_1825 lw_72 lw_125 lw_1826) rfl rfl rfl (by decide +kernel) (rmd_ok (by decide) (by decide))) rfl hl.1 rfl (Nat.le_of_ble_eq_true rfl) dX12_canHalve_2 ⟨Nat.le_refl _, Nat.le_refl _⟩ (fun H locs hP hS => ?_)
  refine lv_if_eq (tgt := 33) hx hb dX12_canHalve_5 (by decide) (fun c4 => ?_) (fun c4 => ?_)
  · rw [if_pos c4] at h
    refine lv_iconst (v := 0) hx hb dX12_canHalve_33 (by decide) ?_
    exact x_zret hx hb hr hlocks hK hP hS rfl h dX12_canHalve_34
  · rw [if_neg c4] at h
    refine lv_aload_n hx hb dX12_canHalve_8 rfl (lv_at hl 0 rfl) ?_
    refine lv_iload_n hx hb dX12_canHalve_9 rfl (lv_at hl 2 rfl) ?_
    obtain ⟨r6, z7, h5, h⟩ := bd_s h
    refine x_Vi (Rz := (r6, z7)) (As := [.int v2]) (rest := []) ⟨hx, hb, hml, hown, hts⟩ hK hP hS (kd_lt k_172 (by decide)) (cell_12 k_172) rfl (m_X12_isGuest hG   h5) (cwV 1 hts (gV lw_1849 lw_1851 lw_76 lw_125 lw_1852) rfl rfl rfl (by decide +kernel) (rmd_ok (by decide) (by decide))) rfl hl.1 rfl (Nat.le_of_ble_eq_true rfl) dX12_canHalve_10 ⟨Nat.le_refl _, Nat.le_refl _⟩ (fun H locs hP hS => ?_)
    refine lv_if_eq (tgt := 33) hx hb dX12_canHalve_13 (by decide) (fun c8 => ?_) (fun c8 => ?_)
    · rw [if_pos c8] at h
      refine lv_iconst (v := 0) hx hb dX12_canHalve_33 (by decide) ?_
      exact x_zret hx hb hr hlocks hK hP hS rfl h dX12_canHalve_34
    · rw [if_neg c8] at h
      refine lv_aload_n hx hb dX12_canHalve_16 rfl (lv_at hl 0 rfl) ?_
      refine lv_iload_n hx hb dX12_canHalve_17 rfl (lv_at hl 3 rfl) ?_
      obtain ⟨r10, z11, h9, h⟩ := bd_s h
      refine x_Vi (Rz := (r10, z11)) (As := [.int v3]) (rest := []) ⟨hx, hb, hml, hown, hts⟩ hK hP hS (kd_lt k_172 (by decide)) (cell_12 k_172) rfl (m_X12_isGuest hG   h9) (cwV 1 hts (gV lw_1849 lw_1851 lw_76 lw_125 lw_1852) rfl rfl rfl (by decide +kernel) (rmd_ok (by decide) (by decide))) rfl hl.1 rfl (Nat.le_of_ble_eq_true rfl) dX12_canHalve_18 ⟨Nat.le_refl _, Nat.le_refl _⟩ (fun H locs hP hS => ?_)
      refine lv_if_eq (tgt := 33) hx hb dX12_canHalve_21 (by decide) (fun c12 => ?_) (fun c12 => ?_)
      · rw [if_pos c12] at h
        refine lv_iconst (v := 0) hx hb dX12_canHalve_33 (by decide) ?_
        exact x_zret hx hb hr hlocks hK hP hS rfl h dX12_canHalve_34
      · rw [if_neg c12] at h
        refine lv_iload_n hx hb dX12_canHalve_24 rfl (lv_at hl 2 rfl) ?_
        refine lv_iload_n hx hb dX12_canHalve_25 rfl (lv_at hl 3 rfl) ?_
        refine lv_icmp_eq (tgt := 33) hx hb dX12_canHalve_26 (by decide) (fun c13 => ?_) (fun c13 => ?_)
        · rw [if_pos c13] at h
          refine lv_iconst (v := 0) hx hb dX12_canHalve_33 (by decide) ?_
          exact x_zret hx hb hr hlocks hK hP hS rfl h dX12_canHalve_34
        · rw [if_neg c13] at h
          refine lv_iconst (v := 1) hx hb dX12_canHalve_29 (by decide) ?_
          refine lv_goto (tgt := 34) hx hb dX12_canHalve_30 (by decide) ?_
          exact x_zret hx hb hr hlocks hK hP hS rfl h dX12_canHalve_34
def fn_X12_halve (v1 : Int32) (v2 : Int32) (v3 : Int32) (v4 : Int32) (z : St) : Option (Int32 × St) := bd (fn_X12_canHalve  v1 v2 v3 z) (fun r2 z3 => (if r2 = 0 then some ((-1), z3) else bd (fn_X12_isIn  v4 0 2 z3) (fun r6 z7 => (if r6 = 0 then some ((-1), z7) else bv (fn_X12_layHalve  v1 v2 v3 z7) (fun z10 => (if 0 ≤ (z10.1 172 58) then (if v4 = 0 then some (((z10.1 172 58) / 8), z10) else (if v4 = 1 then some (((z10.1 172 58) - (z10.1 172 58) / 8 * 8), z10) else some ((z10.1 172 59), z10))) else some ((-1), z10)))))))
set_option maxHeartbeats 4000000 in
set_option maxRecDepth 100000 in
theorem m_X12_halve {l : Launch} {G : wG} (hG : Ok G) {v1 : Int32} {v2 : Int32} {v3 : Int32} {v4 : Int32} {z : St} {Rz : Int32 × St}  (h : fn_X12_halve  v1 v2 v3 v4 z = some Rz) : Met l yX12_halve (wsU yX12_halve cX12_halve 5 (some .int)) (rmd 6) (va_Pc [.ref (G.2.2 172), .int v1, .int v2, .int v3, .int v4] (Pre G z)) (va_Qi (fun r u => (r, u) = Rz) (Pre G) (AW G)) 0 0 (AW G) := by
  refine Met.ofW (cc := cX12_halve) (maxL := 5) (ret := (some .int)) (by decide) rfl ?_
  intro p e s m args below meth c s₁ B hml hv
  obtain ⟨rfl, hP, hK⟩ := hv
  have C : CX p s m ([.ref (G.2.2 172), .int v1, .int v2, .int v3, .int v4] : List Value).toArray meth c cX12_halve 5 (wsU yX12_halve cX12_halve 5 (some .int)) RX12 (some .int) G := ⟨B.exec, B.bytes, hml, findClass_of_methodNamed B.named, atoms_spec (ws := (wsU yX12_halve cX12_halve 5 (some .int))) B.pre, B.returns, B.notSynchronized, hK, hG⟩
  obtain ⟨hx, hb, -, hown, hts, hr, hlocks, -, -⟩ := id C
  have hS : va_S (AW G) s.heap s.heap [] := va_S.rf
  have hl := lv_entry [.ref (G.2.2 172), .int v1, .int v2, .int v3, .int v4] (n := 5) (Nat.le_of_ble_eq_true rfl)
  rw [lg_entry_eq]
  generalize (lg_sl [.ref (G.2.2 172), .int v1, .int v2, .int v3, .int v4] ++ List.replicate (5 - (lg_sl [.ref (G.2.2 172), .int v1, .int v2, .int v3, .int v4]).length) Slot.unset).toArray = ls at hl ⊢
  have hl : lv_has ls 5 [(0, .ref (G.2.2 172)), (1, .int v1), (2, .int v2), (3, .int v3), (4, .int v4)] := hl
  unfold fn_X12_halve at h
  refine lv_aload_n hx hb dX12_halve_0 rfl (lv_at hl 0 rfl) ?_
  refine lv_iload_n hx hb dX12_halve_1 rfl (lv_at hl 1 rfl) ?_
  refine lv_iload_n hx hb dX12_halve_2 rfl (lv_at hl 2 rfl) ?_
  refine lv_iload_n hx hb dX12_halve_3 rfl (lv_at hl 3 rfl) ?_
  obtain ⟨r2, z3, h1, h⟩ := bd_s h
  refine x_Vi (Rz := (r2, z3)) (As := [.int v1, .int v2, .int v3]) (rest := []) ⟨hx, hb, hml, hown, hts⟩ hK hP hS (kd_lt k_172 (by decide)) (cell_12 k_172) rfl (m_X12_canHalve hG   h1) (cwV 3 hts (gV lw_1976 lw_1978 lw_91 lw_125 lw_1979) rfl rfl rfl (by decide +kernel) (rmd_ok (by decide) (by decide))) rfl hl.1 rfl (Nat.le_of_ble_eq_true rfl) dX12_halve_4 ⟨Nat.le_refl _, Nat.le_refl _⟩ (fun H locs hP hS => ?_)
  refine lv_if_eq (tgt := 20) hx hb dX12_halve_7 (by decide) (fun c4 => ?_) (fun c4 => ?_)
  · rw [if_pos c4] at h
    refine lv_iconst (v := (-1)) hx hb dX12_halve_20 (by decide) ?_
    exact x_iret hx hb hr hlocks hK hP hS h dX12_halve_21
  · rw [if_neg c4] at h
    refine lv_iload hx hb dX12_halve_10 (lv_at hl 4 rfl) ?_
    refine lv_iconst (v := 0) hx hb dX12_halve_12 (by decide) ?_
    refine lv_iconst (v := 2) hx hb dX12_halve_13 (by decide) ?_
    obtain ⟨r6, z7, h5, h⟩ := bd_s h
    refine x_Si (Rz := (r6, z7)) (As := [.int v4, .int 0, .int 2]) (rest := []) ⟨hx, hb, hml, hown, hts⟩ hK hP hS (m_X12_isIn hG   h5) (va_cwS 3 hts (gS lw_1827 lw_1828 lw_125 lw_1829) rfl rfl rfl (by decide +kernel) (rmd_ok (by decide) (by decide))) rfl hl.1 rfl (Nat.le_of_ble_eq_true rfl) dX12_halve_14 ⟨Nat.le_refl _, Nat.le_refl _⟩ (fun H locs hP hS => ?_)
    refine lv_if_ne (tgt := 22) hx hb dX12_halve_17 (by decide) (fun c8 => ?_) (fun c8 => ?_)
    · rw [if_neg c8] at h
      refine lv_aload_n hx hb dX12_halve_22 rfl (lv_at hl 0 rfl) ?_
      refine lv_iload_n hx hb dX12_halve_23 rfl (lv_at hl 1 rfl) ?_
      refine lv_iload_n hx hb dX12_halve_24 rfl (lv_at hl 2 rfl) ?_
      refine lv_iload_n hx hb dX12_halve_25 rfl (lv_at hl 3 rfl) ?_
      obtain ⟨z10, h9, h⟩ := bv_s h
      refine x_Vv (Rz := z10) (As := [.int v1, .int v2, .int v3]) (rest := []) ⟨hx, hb, hml, hown, hts⟩ hK hP hS (kd_lt k_172 (by decide)) (cell_12 k_172) rfl (m_X12_layHalve hG   h9) (cwV 3 hts (gV lw_1980 lw_1982 lw_92 lw_125 lw_1983) rfl rfl rfl (by decide +kernel) (rmd_ok (by decide) (by decide))) rfl hl.1 rfl (Nat.le_of_ble_eq_true rfl) dX12_halve_26 ⟨Nat.le_refl _, Nat.le_refl _⟩ (fun H locs hP hS => ?_)
      refine lv_aload_n hx hb dX12_halve_29 rfl (lv_at hl 0 rfl) ?_
      refine ge_12_58 hx hb hts (inU inW_X12) hown hK hP k_172 (hts _ (List.mem_cons_of_mem _ lw_1492)) dX12_halve_30 ?_
      refine lv_if_ge (tgt := 40) hx hb dX12_halve_33 (by decide) (fun c11 => ?_) (fun c11 => ?_)
      · rw [if_pos c11] at h
        refine lv_iload hx hb dX12_halve_40 (lv_at hl 4 rfl) ?_
        refine lv_if_ne (tgt := 55) hx hb dX12_halve_42 (by decide) (fun c12 => ?_) (fun c12 => ?_)
        · rw [if_neg c12] at h
          refine lv_iload hx hb dX12_halve_55 (lv_at hl 4 rfl) ?_
          refine lv_iconst (v := 1) hx hb dX12_halve_57 (by decide) ?_
          refine lv_icmp_ne (tgt := 71) hx hb dX12_halve_58 (by decide) (fun c13 => ?_) (fun c13 => ?_)
          · rw [if_neg c13] at h
            refine lv_aload_n hx hb dX12_halve_71 rfl (lv_at hl 0 rfl) ?_
            refine ge_12_59 hx hb hts (inU inW_X12) hown hK hP k_172 (hts _ (List.mem_cons_of_mem _ lw_1493)) dX12_halve_72 ?_
            exact x_iret hx hb hr hlocks hK hP hS h dX12_halve_75
          · rw [if_pos c13] at h
            refine lv_aload_n hx hb dX12_halve_61 rfl (lv_at hl 0 rfl) ?_
            refine ge_12_58 hx hb hts (inU inW_X12) hown hK hP k_172 (hts _ (List.mem_cons_of_mem _ lw_1492)) dX12_halve_62 ?_
            refine lv_bipush (v := 8) hx hb dX12_halve_65 (by decide) ?_
            refine lv_irem hx hb dX12_halve_67 (by decide) ?_
            refine lv_goto (tgt := 75) hx hb dX12_halve_68 (by decide) ?_
            exact x_iret hx hb hr hlocks hK hP hS h dX12_halve_75
        · rw [if_pos c12] at h
          refine lv_aload_n hx hb dX12_halve_45 rfl (lv_at hl 0 rfl) ?_
          refine ge_12_58 hx hb hts (inU inW_X12) hown hK hP k_172 (hts _ (List.mem_cons_of_mem _ lw_1492)) dX12_halve_46 ?_
          refine lv_bipush (v := 8) hx hb dX12_halve_49 (by decide) ?_
          refine lv_idiv hx hb dX12_halve_51 (by decide) ?_
          refine lv_goto (tgt := 75) hx hb dX12_halve_52 (by decide) ?_
          exact x_iret hx hb hr hlocks hK hP hS h dX12_halve_75
      · rw [if_neg c11] at h
        refine lv_iconst (v := (-1)) hx hb dX12_halve_36 (by decide) ?_
        refine lv_goto (tgt := 75) hx hb dX12_halve_37 (by decide) ?_
        exact x_iret hx hb hr hlocks hK hP hS h dX12_halve_75
    · rw [if_pos c8] at h
      refine lv_iconst (v := (-1)) hx hb dX12_halve_20 (by decide) ?_
      exact x_iret hx hb hr hlocks hK hP hS h dX12_halve_21
def fn_X12_share (v1 : Int32) (v2 : Int32) (v3 : Int32) (z : St) : Option (Int32 × St) := bd (fn_X12_canHalve  v1 v2 v3 z) (fun r2 z3 => (if r2 = 0 then some ((-1000000000), z3) else bv (fn_X12_layHalve  v1 v2 v3 z3) (fun z6 => (if 0 ≤ (z6.1 172 58) then some ((z6.1 172 60), z6) else some ((-1000000000), z6)))))
set_option maxHeartbeats 4000000 in
set_option maxRecDepth 100000 in
theorem m_X12_share {l : Launch} {G : wG} (hG : Ok G) {v1 : Int32} {v2 : Int32} {v3 : Int32} {z : St} {Rz : Int32 × St}  (h : fn_X12_share  v1 v2 v3 z = some Rz) : Met l yX12_share (wsU yX12_share cX12_share 4 (some .int)) (rmd 6) (va_Pc [.ref (G.2.2 172), .int v1, .int v2, .int v3] (Pre G z)) (va_Qi (fun r u => (r, u) = Rz) (Pre G) (AW G)) 0 0 (AW G) := by
  refine Met.ofW (cc := cX12_share) (maxL := 4) (ret := (some .int)) (by decide) rfl ?_
  intro p e s m args below meth c s₁ B hml hv
  obtain ⟨rfl, hP, hK⟩ := hv
  have C : CX p s m ([.ref (G.2.2 172), .int v1, .int v2, .int v3] : List Value).toArray meth c cX12_share 4 (wsU yX12_share cX12_share 4 (some .int)) RX12 (some .int) G := ⟨B.exec, B.bytes, hml, findClass_of_methodNamed B.named, atoms_spec (ws := (wsU yX12_share cX12_share 4 (some .int))) B.pre, B.returns, B.notSynchronized, hK, hG⟩
  obtain ⟨hx, hb, -, hown, hts, hr, hlocks, -, -⟩ := id C
  have hS : va_S (AW G) s.heap s.heap [] := va_S.rf
  have hl := lv_entry [.ref (G.2.2 172), .int v1, .int v2, .int v3] (n := 4) (Nat.le_of_ble_eq_true rfl)
  rw [lg_entry_eq]
  generalize (lg_sl [.ref (G.2.2 172), .int v1, .int v2, .int v3] ++ List.replicate (4 - (lg_sl [.ref (G.2.2 172), .int v1, .int v2, .int v3]).length) Slot.unset).toArray = ls at hl ⊢
  have hl : lv_has ls 4 [(0, .ref (G.2.2 172)), (1, .int v1), (2, .int v2), (3, .int v3)] := hl
  unfold fn_X12_share at h
  refine lv_aload_n hx hb dX12_share_0 rfl (lv_at hl 0 rfl) ?_
  refine lv_iload_n hx hb dX12_share_1 rfl (lv_at hl 1 rfl) ?_
  refine lv_iload_n hx hb dX12_share_2 rfl (lv_at hl 2 rfl) ?_
  refine lv_iload_n hx hb dX12_share_3 rfl (lv_at hl 3 rfl) ?_
  obtain ⟨r2, z3, h1, h⟩ := bd_s h
  refine x_Vi (Rz := (r2, z3)) (As := [.int v1, .int v2, .int v3]) (rest := []) ⟨hx, hb, hml, hown, hts⟩ hK hP hS (kd_lt k_172 (by decide)) (cell_12 k_172) rfl (m_X12_canHalve hG   h1) (cwV 3 hts (gV lw_1976 lw_1978 lw_91 lw_125 lw_1979) rfl rfl rfl (by decide +kernel) (rmd_ok (by decide) (by decide))) rfl hl.1 rfl (Nat.le_of_ble_eq_true rfl) dX12_share_4 ⟨Nat.le_refl _, Nat.le_refl _⟩ (fun H locs hP hS => ?_)
  refine lv_if_ne (tgt := 14) hx hb dX12_share_7 (by decide) (fun c4 => ?_) (fun c4 => ?_)
  · rw [if_neg c4] at h
    refine lv_aload_n hx hb dX12_share_14 rfl (lv_at hl 0 rfl) ?_
    refine lv_iload_n hx hb dX12_share_15 rfl (lv_at hl 1 rfl) ?_
    refine lv_iload_n hx hb dX12_share_16 rfl (lv_at hl 2 rfl) ?_
    refine lv_iload_n hx hb dX12_share_17 rfl (lv_at hl 3 rfl) ?_
    obtain ⟨z6, h5, h⟩ := bv_s h
    refine x_Vv (Rz := z6) (As := [.int v1, .int v2, .int v3]) (rest := []) ⟨hx, hb, hml, hown, hts⟩ hK hP hS (kd_lt k_172 (by decide)) (cell_12 k_172) rfl (m_X12_layHalve hG   h5) (cwV 3 hts (gV lw_1980 lw_1982 lw_92 lw_125 lw_1983) rfl rfl rfl (by decide +kernel) (rmd_ok (by decide) (by decide))) rfl hl.1 rfl (Nat.le_of_ble_eq_true rfl) dX12_share_18 ⟨Nat.le_refl _, Nat.le_refl _⟩ (fun H locs hP hS => ?_)
    refine lv_aload_n hx hb dX12_share_21 rfl (lv_at hl 0 rfl) ?_
    refine ge_12_58 hx hb hts (inU inW_X12) hown hK hP k_172 (hts _ (List.mem_cons_of_mem _ lw_1492)) dX12_share_22 ?_
    refine lv_if_ge (tgt := 34) hx hb dX12_share_25 (by decide) (fun c7 => ?_) (fun c7 => ?_)
    · rw [if_pos c7] at h
      refine lv_aload_n hx hb dX12_share_34 rfl (lv_at hl 0 rfl) ?_
      refine ge_12_60 hx hb hts (inU inW_X12) hown hK hP k_172 (hts _ (List.mem_cons_of_mem _ lw_1494)) dX12_share_35 ?_
      exact x_iret hx hb hr hlocks hK hP hS h dX12_share_38
    · rw [if_neg c7] at h
      refine lv_ldcw (v := (-1000000000)) hx hb hown (hts _ (List.mem_cons_of_mem _ lw_1876)) dX12_share_28 ?_
      refine lv_goto (tgt := 38) hx hb dX12_share_31 (by decide) ?_
      exact x_iret hx hb hr hlocks hK hP hS h dX12_share_38
  · rw [if_pos c4] at h
    refine lv_ldcw (v := (-1000000000)) hx hb hown (hts _ (List.mem_cons_of_mem _ lw_1876)) dX12_share_10 ?_
    exact x_iret hx hb hr hlocks hK hP hS h dX12_share_13
def fn_X12_layWorths_16 (k6 : Int32 → St → Option (St)) : Nat → Int32 → Int32 → St → Option (St)
  | 0, _, _, _ => none
  | n + 1, v1, v2, z => (if (z.1 198 (Int32.toNatClampNeg 168)) ≤ v2 then k6 (v1 + 1) z else bd (fn_X12_worthOf  v1 v2 z) (fun r3 z4 => gd (ix ((24 * v1) + v2) 144) (nm (sI z4 202 (Int32.toNatClampNeg ((24 * v1) + v2)) r3) (fun z6 => fn_X12_layWorths_16  k6 n v1 (v2 + 1) z6))))
set_option maxHeartbeats 4000000 in
set_option maxRecDepth 100000 in
theorem pf_X12_layWorths_16 {p : Program} {l : Launch} {e : Env} {s : State} {m : MethodId} {args : Array Value} {below : List Frame} {meth : Method} {c : Code} {G : wG} (C : CX p s m args meth c cX12_layWorths 3 (wsU yX12_layWorths cX12_layWorths 3 none) RX12 none G) {Rz : St} {k6 : Int32 → St → Option (St)} (hk_6 : ∀ (v1 : Int32) (z : St)  (H : Heap) (locs : List Loc) (ls : Array Slot), WP G z H → va_S (AW G) s.heap H locs → lv_has ls 3 [(0, .ref (G.2.2 172)), (1, .int v1)] → k6 v1 z = some Rz → W p l e (rmd 5) s m args below meth c H locs 0 0 (QV below args s G Rz) (F0 m 6 ls [])) : ∀ (n : Nat) (v1 : Int32) (v2 : Int32) (z : St)  (H : Heap) (locs : List Loc) (ls : Array Slot), WP G z H → va_S (AW G) s.heap H locs → lv_has ls 3 [(0, .ref (G.2.2 172)), (1, .int v1), (2, .int v2)] → fn_X12_layWorths_16  k6 n v1 v2 z = some Rz → W p l e (rmd 5) s m args below meth c H locs 0 0 (QV below args s G Rz) (F0 m 16 ls []) := by
  obtain ⟨hx, hb, hml, hown, hts, hr, hlocks, hK, hG⟩ := id C
  intro n
  induction n with
  | zero => intro v1 v2 z  H locs ls hP hS hl h; cases h
  | succ n ih =>
    intro v1 v2 z  H locs ls hP hS hl h
    rw [fn_X12_layWorths_16] at h
    refine lv_iload_n hx hb dX12_layWorths_16 rfl (lv_at hl 2 rfl) ?_
    refine lv_aload_n hx hb dX12_layWorths_17 rfl (lv_at hl 0 rfl) ?_
    refine ge_12_49 hx hb hts (inU inW_X12) hown hK hP k_172 (hts _ (List.mem_cons_of_mem _ lw_1483)) dX12_layWorths_18 ?_
    refine lv_sipush (v := 168) hx hb dX12_layWorths_21 (by decide) ?_
    refine xl_14 hx hb hK hP k_198 l_198 (ix_in (by decide)) dX12_layWorths_24 ?_
    refine lv_icmp_ge (tgt := 51) hx hb dX12_layWorths_25 (by decide) (fun c1 => ?_) (fun c1 => ?_)
    · rw [if_pos c1] at h
      refine lv_iinc (v := (v1 + 1)) (lv' := [(1, .int (v1 + 1)), (0, .ref (G.2.2 172)), (2, .int v2)]) hx hb dX12_layWorths_51 hl (k := 1) rfl rfl (by decide) rfl (fun ls hl => ?_)
      refine lv_goto (tgt := 6) hx hb dX12_layWorths_54 (by decide) ?_
      exact hk_6 (v1 + 1) z  _ _ _ hP hS (lv_sub hl [1, 0] rfl) h
    · rw [if_neg c1] at h
      refine lv_aload_n hx hb dX12_layWorths_28 rfl (lv_at hl 0 rfl) ?_
      refine ge_12_61 hx hb hts (inU inW_X12) hown hK hP k_172 (hts _ (List.mem_cons_of_mem _ lw_1495)) dX12_layWorths_29 ?_
      refine lv_bipush (v := 24) hx hb dX12_layWorths_32 (by decide) ?_
      refine lv_iload_n hx hb dX12_layWorths_34 rfl (lv_at hl 1 rfl) ?_
      refine lv_imul hx hb dX12_layWorths_35 ?_
      refine lv_iload_n hx hb dX12_layWorths_36 rfl (lv_at hl 2 rfl) ?_
      refine lv_iadd hx hb dX12_layWorths_37 ?_
      refine lv_aload_n hx hb dX12_layWorths_38 rfl (lv_at hl 0 rfl) ?_
      refine lv_iload_n hx hb dX12_layWorths_39 rfl (lv_at hl 1 rfl) ?_
      refine lv_iload_n hx hb dX12_layWorths_40 rfl (lv_at hl 2 rfl) ?_
      obtain ⟨r3, z4, h2, h⟩ := bd_s h
      refine x_Vi (Rz := (r3, z4)) (As := [.int v1, .int v2]) (rest := [.int ((24 * v1) + v2), .ref (G.2.2 202)]) ⟨hx, hb, hml, hown, hts⟩ hK hP hS (kd_lt k_172 (by decide)) (cell_12 k_172) rfl (m_X12_worthOf hG   h2) (cwV 2 hts (gV lw_1857 lw_1859 lw_78 lw_125 lw_1860) rfl rfl rfl (by decide +kernel) (rmd_ok (by decide) (by decide))) rfl hl.1 rfl (Nat.le_of_ble_eq_true rfl) dX12_layWorths_41 ⟨Nat.le_refl _, Nat.le_refl _⟩ (fun H locs hP hS => ?_)
      obtain ⟨g5, h⟩ := gd_s h
      obtain ⟨z6, e_z6, h⟩ := nm_s h
      refine xs_14 hx hb hK hG hP hS k_202 l_202 (ix_in g5) dX12_layWorths_44 (fun H locs hP hS => ?_)
      rw [← e_z6] at hP
      refine lv_iinc (v := (v2 + 1)) (lv' := [(2, .int (v2 + 1)), (0, .ref (G.2.2 172)), (1, .int v1)]) hx hb dX12_layWorths_45 hl (k := 2) rfl rfl (by decide) rfl (fun ls hl => ?_)
      refine lv_goto (tgt := 16) hx hb dX12_layWorths_48 (by decide) ?_
      exact ih v1 (v2 + 1) z6  _ _ _ hP hS (lv_sub hl [1, 2, 0] rfl) h
def fn_X12_layWorths_6 : Nat → Int32 → St → Option (St)
  | 0, _, _ => none
  | n + 1, v1, z => (if (z.1 172 44) ≤ v1 then some z else fn_X12_layWorths_16  (fn_X12_layWorths_6   n) fu v1 0 z)
set_option maxHeartbeats 4000000 in
set_option maxRecDepth 100000 in
theorem pf_X12_layWorths_6 {p : Program} {l : Launch} {e : Env} {s : State} {m : MethodId} {args : Array Value} {below : List Frame} {meth : Method} {c : Code} {G : wG} (C : CX p s m args meth c cX12_layWorths 3 (wsU yX12_layWorths cX12_layWorths 3 none) RX12 none G) {Rz : St} : ∀ (n : Nat) (v1 : Int32) (z : St)  (H : Heap) (locs : List Loc) (ls : Array Slot), WP G z H → va_S (AW G) s.heap H locs → lv_has ls 3 [(0, .ref (G.2.2 172)), (1, .int v1)] → fn_X12_layWorths_6   n v1 z = some Rz → W p l e (rmd 5) s m args below meth c H locs 0 0 (QV below args s G Rz) (F0 m 6 ls []) := by
  obtain ⟨hx, hb, hml, hown, hts, hr, hlocks, hK, hG⟩ := id C
  intro n
  induction n with
  | zero => intro v1 z  H locs ls hP hS hl h; cases h
  | succ n ih =>
    intro v1 z  H locs ls hP hS hl h
    rw [fn_X12_layWorths_6] at h
    refine lv_iload_n hx hb dX12_layWorths_6 rfl (lv_at hl 1 rfl) ?_
    refine lv_aload_n hx hb dX12_layWorths_7 rfl (lv_at hl 0 rfl) ?_
    refine ge_12_44 hx hb hts (inU inW_X12) hown hK hP k_172 (hts _ (List.mem_cons_of_mem _ lw_1478)) dX12_layWorths_8 ?_
    refine lv_icmp_ge (tgt := 57) hx hb dX12_layWorths_11 (by decide) (fun c1 => ?_) (fun c1 => ?_)
    · rw [if_pos c1] at h
      exact x_vret hx hb hr hlocks hK hP hS h dX12_layWorths_57
    · rw [if_neg c1] at h
      refine lv_iconst (v := 0) hx hb dX12_layWorths_14 (by decide) ?_
      refine lv_istore_n (lv' := [(2, .int 0), (0, .ref (G.2.2 172)), (1, .int v1)]) hx hb dX12_layWorths_15 rfl hl (by decide) rfl (fun ls hl => ?_)
      exact pf_X12_layWorths_16 C  ih fu v1 0 z  _ _ _ hP hS (lv_sub hl [1, 2, 0] rfl) h
def fn_X12_layWorths  (z : St) : Option (St) := bv (fn_X12_load   z) (fun z2 => fn_X12_layWorths_6   fu 0 z2)
set_option maxHeartbeats 4000000 in
set_option maxRecDepth 100000 in
theorem m_X12_layWorths {l : Launch} {G : wG} (hG : Ok G)  {z : St} {Rz : St}  (h : fn_X12_layWorths   z = some Rz) : Met l yX12_layWorths (wsU yX12_layWorths cX12_layWorths 3 none) (rmd 5) (va_Pc [.ref (G.2.2 172)] (Pre G z)) (va_Qv (fun u => u = Rz) (Pre G) (AW G)) 0 0 (AW G) := by
  refine Met.ofW (cc := cX12_layWorths) (maxL := 3) (ret := none) (by decide) rfl ?_
  intro p e s m args below meth c s₁ B hml hv
  obtain ⟨rfl, hP, hK⟩ := hv
  have C : CX p s m ([.ref (G.2.2 172)] : List Value).toArray meth c cX12_layWorths 3 (wsU yX12_layWorths cX12_layWorths 3 none) RX12 none G := ⟨B.exec, B.bytes, hml, findClass_of_methodNamed B.named, atoms_spec (ws := (wsU yX12_layWorths cX12_layWorths 3 none)) B.pre, B.returns, B.notSynchronized, hK, hG⟩
  obtain ⟨hx, hb, -, hown, hts, hr, hlocks, -, -⟩ := id C
  have hS : va_S (AW G) s.heap s.heap [] := va_S.rf
  have hl := lv_entry [.ref (G.2.2 172)] (n := 3) (Nat.le_of_ble_eq_true rfl)
  rw [lg_entry_eq]
  generalize (lg_sl [.ref (G.2.2 172)] ++ List.replicate (3 - (lg_sl [.ref (G.2.2 172)]).length) Slot.unset).toArray = ls at hl ⊢
  have hl : lv_has ls 3 [(0, .ref (G.2.2 172))] := hl
  unfold fn_X12_layWorths at h
  refine lv_aload_n hx hb dX12_layWorths_0 rfl (lv_at hl 0 rfl) ?_
  obtain ⟨z2, h1, h⟩ := bv_s h
  refine x_Vv (Rz := z2) (As := []) (rest := []) ⟨hx, hb, hml, hown, hts⟩ hK hP hS (kd_lt k_172 (by decide)) (cell_12 k_172) rfl (m_X12_load hG   h1) (cwV 0 hts (gV lw_1830 lw_1832 lw_73 lw_125 lw_1833) rfl rfl rfl (by decide +kernel) (rmd_ok (by decide) (by decide))) rfl hl.1 rfl (Nat.le_of_ble_eq_true rfl) dX12_layWorths_1 ⟨Nat.le_refl _, Nat.le_refl _⟩ (fun H locs hP hS => ?_)
  refine lv_iconst (v := 0) hx hb dX12_layWorths_4 (by decide) ?_
  refine lv_istore_n (lv' := [(1, .int 0), (0, .ref (G.2.2 172))]) hx hb dX12_layWorths_5 rfl hl (by decide) rfl (fun ls hl => ?_)
  exact pf_X12_layWorths_6 C   fu 0 z2  _ _ _ hP hS (lv_sub hl [1, 0] rfl) h
def fn_X12_bestFor_69 (k5 : Int32 → Int32 → Int32 → Int32 → St → Option (Int32 × St)) (v1 : Int32) (v2 : Int32) (v3 : Int32) (v4 : Int32) (z : St) : Option (Int32 × St) := k5 v1 v2 v3 (v4 + 1) z
set_option maxHeartbeats 4000000 in
set_option maxRecDepth 100000 in
theorem pf_X12_bestFor_69 {p : Program} {l : Launch} {e : Env} {s : State} {m : MethodId} {args : Array Value} {below : List Frame} {meth : Method} {c : Code} {G : wG} (C : CX p s m args meth c cX12_bestFor 5 (wsU yX12_bestFor cX12_bestFor 5 (some .int)) RX12 (some .int) G) {Rz : Int32 × St} {k5 : Int32 → Int32 → Int32 → Int32 → St → Option (Int32 × St)} (hk_5 : ∀ (v1 : Int32) (v2 : Int32) (v3 : Int32) (v4 : Int32) (z : St)  (H : Heap) (locs : List Loc) (ls : Array Slot), WP G z H → va_S (AW G) s.heap H locs → lv_has ls 5 [(0, .ref (G.2.2 172)), (1, .int v1), (2, .int v2), (3, .int v3), (4, .int v4)] → k5 v1 v2 v3 v4 z = some Rz → W p l e (rmd 2) s m args below meth c H locs 0 0 (QI below args s G Rz) (F0 m 5 ls [])) (v1 : Int32) (v2 : Int32) (v3 : Int32) (v4 : Int32) (z : St)  {H : Heap} {locs : List Loc} {ls : Array Slot} (hP : WP G z H) (hS : va_S (AW G) s.heap H locs) (hl : lv_has ls 5 [(0, .ref (G.2.2 172)), (1, .int v1), (2, .int v2), (3, .int v3), (4, .int v4)]) (h : fn_X12_bestFor_69  k5 v1 v2 v3 v4 z = some Rz) : W p l e (rmd 2) s m args below meth c H locs 0 0 (QI below args s G Rz) (F0 m 69 ls []) := by
  obtain ⟨hx, hb, hml, hown, hts, hr, hlocks, hK, hG⟩ := id C
  unfold fn_X12_bestFor_69 at h
  refine lv_iinc (v := (v4 + 1)) (lv' := [(4, .int (v4 + 1)), (0, .ref (G.2.2 172)), (1, .int v1), (2, .int v2), (3, .int v3)]) hx hb dX12_bestFor_69 hl (k := 4) rfl rfl (by decide) rfl (fun ls hl => ?_)
  refine lv_goto (tgt := 5) hx hb dX12_bestFor_72 (by decide) ?_
  exact hk_5 v1 v2 v3 (v4 + 1) z  _ _ _ hP hS (lv_sub hl [1, 2, 3, 4, 0] rfl) h
def fn_X12_bestFor_66 (k5 : Int32 → Int32 → Int32 → Int32 → St → Option (Int32 × St)) (v1 : Int32) (v2 : Int32) (v4 : Int32) (z : St) : Option (Int32 × St) := fn_X12_bestFor_69  k5 v1 v2 v4 v4 z
set_option maxHeartbeats 4000000 in
set_option maxRecDepth 100000 in
theorem pf_X12_bestFor_66 {p : Program} {l : Launch} {e : Env} {s : State} {m : MethodId} {args : Array Value} {below : List Frame} {meth : Method} {c : Code} {G : wG} (C : CX p s m args meth c cX12_bestFor 5 (wsU yX12_bestFor cX12_bestFor 5 (some .int)) RX12 (some .int) G) {Rz : Int32 × St} {k5 : Int32 → Int32 → Int32 → Int32 → St → Option (Int32 × St)} (hk_5 : ∀ (v1 : Int32) (v2 : Int32) (v3 : Int32) (v4 : Int32) (z : St)  (H : Heap) (locs : List Loc) (ls : Array Slot), WP G z H → va_S (AW G) s.heap H locs → lv_has ls 5 [(0, .ref (G.2.2 172)), (1, .int v1), (2, .int v2), (3, .int v3), (4, .int v4)] → k5 v1 v2 v3 v4 z = some Rz → W p l e (rmd 2) s m args below meth c H locs 0 0 (QI below args s G Rz) (F0 m 5 ls [])) (v1 : Int32) (v2 : Int32) (v4 : Int32) (z : St)  {H : Heap} {locs : List Loc} {ls : Array Slot} (hP : WP G z H) (hS : va_S (AW G) s.heap H locs) (hl : lv_has ls 5 [(0, .ref (G.2.2 172)), (1, .int v1), (2, .int v2), (4, .int v4)]) (h : fn_X12_bestFor_66  k5 v1 v2 v4 z = some Rz) : W p l e (rmd 2) s m args below meth c H locs 0 0 (QI below args s G Rz) (F0 m 66 ls []) := by
  obtain ⟨hx, hb, hml, hown, hts, hr, hlocks, hK, hG⟩ := id C
  unfold fn_X12_bestFor_66 at h
  refine lv_iload hx hb dX12_bestFor_66 (lv_at hl 3 rfl) ?_
  refine lv_istore_n (lv' := [(3, .int v4), (0, .ref (G.2.2 172)), (1, .int v1), (2, .int v2), (4, .int v4)]) hx hb dX12_bestFor_68 rfl hl (by decide) rfl (fun ls hl => ?_)
  exact pf_X12_bestFor_69 C  hk_5 v1 v2 v4 v4 z  hP hS (lv_sub hl [1, 2, 3, 0, 4] rfl) h
def fn_X12_bestFor_5 : Nat → Int32 → Int32 → Int32 → Int32 → St → Option (Int32 × St)
  | 0, _, _, _, _, _ => none
  | n + 1, v1, v2, v3, v4, z => (if (z.1 198 (Int32.toNatClampNeg 168)) ≤ v4 then some (v3, z) else bd (fn_X12_isFree  v4 z) (fun r3 z4 => (if r3 = 0 then fn_X12_bestFor_69  (fn_X12_bestFor_5   n) v1 v2 v3 v4 z4 else (if ((v2 >>> (v4 &&& 31)) &&& 1) = 0 then (if v3 < 0 then fn_X12_bestFor_66  (fn_X12_bestFor_5   n) v1 v2 v4 z4 else gd (ix ((24 * v1) + v4) 144) (gd (ix ((24 * v1) + v3) 144) ((if (z4.1 202 (Int32.toNatClampNeg ((24 * v1) + v4))) ≤ (z4.1 202 (Int32.toNatClampNeg ((24 * v1) + v3))) then fn_X12_bestFor_69  (fn_X12_bestFor_5   n) v1 v2 v3 v4 z4 else fn_X12_bestFor_66  (fn_X12_bestFor_5   n) v1 v2 v4 z4)))) else fn_X12_bestFor_69  (fn_X12_bestFor_5   n) v1 v2 v3 v4 z4))))
set_option maxHeartbeats 4000000 in
set_option maxRecDepth 100000 in
theorem pf_X12_bestFor_5 {p : Program} {l : Launch} {e : Env} {s : State} {m : MethodId} {args : Array Value} {below : List Frame} {meth : Method} {c : Code} {G : wG} (C : CX p s m args meth c cX12_bestFor 5 (wsU yX12_bestFor cX12_bestFor 5 (some .int)) RX12 (some .int) G) {Rz : Int32 × St} : ∀ (n : Nat) (v1 : Int32) (v2 : Int32) (v3 : Int32) (v4 : Int32) (z : St)  (H : Heap) (locs : List Loc) (ls : Array Slot), WP G z H → va_S (AW G) s.heap H locs → lv_has ls 5 [(0, .ref (G.2.2 172)), (1, .int v1), (2, .int v2), (3, .int v3), (4, .int v4)] → fn_X12_bestFor_5   n v1 v2 v3 v4 z = some Rz → W p l e (rmd 2) s m args below meth c H locs 0 0 (QI below args s G Rz) (F0 m 5 ls []) := by
  obtain ⟨hx, hb, hml, hown, hts, hr, hlocks, hK, hG⟩ := id C
  intro n
  induction n with
  | zero => intro v1 v2 v3 v4 z  H locs ls hP hS hl h; cases h
  | succ n ih =>
    intro v1 v2 v3 v4 z  H locs ls hP hS hl h
    rw [fn_X12_bestFor_5] at h
    refine lv_iload hx hb dX12_bestFor_5 (lv_at hl 4 rfl) ?_
    refine lv_aload_n hx hb dX12_bestFor_7 rfl (lv_at hl 0 rfl) ?_
    refine ge_12_49 hx hb hts (inU inW_X12) hown hK hP k_172 (hts _ (List.mem_cons_of_mem _ lw_1483)) dX12_bestFor_8 ?_
    refine lv_sipush (v := 168) hx hb dX12_bestFor_11 (by decide) ?_
    refine xl_14 hx hb hK hP k_198 l_198 (ix_in (by decide)) dX12_bestFor_14 ?_
    refine lv_icmp_ge (tgt := 75) hx hb dX12_bestFor_15 (by decide) (fun c1 => ?_) (fun c1 => ?_)
    · rw [if_pos c1] at h
      refine lv_iload_n hx hb dX12_bestFor_75 rfl (lv_at hl 3 rfl) ?_
      exact x_iret hx hb hr hlocks hK hP hS h dX12_bestFor_76
    · rw [if_neg c1] at h
      refine lv_aload_n hx hb dX12_bestFor_18 rfl (lv_at hl 0 rfl) ?_
      refine lv_iload hx hb dX12_bestFor_19 (lv_at hl 4 rfl) ?_
      obtain ⟨r3, z4, h2, h⟩ := bd_s h
      refine x_Vi (Rz := (r3, z4)) (As := [.int v4]) (rest := []) ⟨hx, hb, hml, hown, hts⟩ hK hP hS (kd_lt k_172 (by decide)) (cell_12 k_172) rfl (m_X12_isFree hG   h2) (cwV 1 hts (gV lw_1885 lw_1887 lw_82 lw_125 lw_1888) rfl rfl rfl (by decide +kernel) (rmd_ok (by decide) (by decide))) rfl hl.1 rfl (Nat.le_of_ble_eq_true rfl) dX12_bestFor_21 ⟨Nat.le_refl _, Nat.le_refl _⟩ (fun H locs hP hS => ?_)
      refine lv_if_eq (tgt := 69) hx hb dX12_bestFor_24 (by decide) (fun c5 => ?_) (fun c5 => ?_)
      · rw [if_pos c5] at h
        exact pf_X12_bestFor_69 C  ih v1 v2 v3 v4 z4  hP hS (lv_sub hl [0, 1, 2, 3, 4] rfl) h
      · rw [if_neg c5] at h
        refine lv_iload_n hx hb dX12_bestFor_27 rfl (lv_at hl 2 rfl) ?_
        refine lv_iload hx hb dX12_bestFor_28 (lv_at hl 4 rfl) ?_
        refine lv_ishr hx hb dX12_bestFor_30 ?_
        refine lv_iconst (v := 1) hx hb dX12_bestFor_31 (by decide) ?_
        refine lv_iand hx hb dX12_bestFor_32 ?_
        refine lv_if_ne (tgt := 69) hx hb dX12_bestFor_33 (by decide) (fun c6 => ?_) (fun c6 => ?_)
        · rw [if_neg c6] at h
          exact pf_X12_bestFor_69 C  ih v1 v2 v3 v4 z4  hP hS (lv_sub hl [0, 1, 2, 3, 4] rfl) h
        · rw [if_pos c6] at h
          refine lv_iload_n hx hb dX12_bestFor_36 rfl (lv_at hl 3 rfl) ?_
          refine lv_if_lt (tgt := 66) hx hb dX12_bestFor_37 (by decide) (fun c7 => ?_) (fun c7 => ?_)
          · rw [if_pos c7] at h
            exact pf_X12_bestFor_66 C  ih v1 v2 v4 z4  hP hS (lv_sub hl [0, 1, 2, 4] rfl) h
          · rw [if_neg c7] at h
            refine lv_aload_n hx hb dX12_bestFor_40 rfl (lv_at hl 0 rfl) ?_
            refine ge_12_61 hx hb hts (inU inW_X12) hown hK hP k_172 (hts _ (List.mem_cons_of_mem _ lw_1495)) dX12_bestFor_41 ?_
            refine lv_bipush (v := 24) hx hb dX12_bestFor_44 (by decide) ?_
            refine lv_iload_n hx hb dX12_bestFor_46 rfl (lv_at hl 1 rfl) ?_
            refine lv_imul hx hb dX12_bestFor_47 ?_
            refine lv_iload hx hb dX12_bestFor_48 (lv_at hl 4 rfl) ?_
            refine lv_iadd hx hb dX12_bestFor_50 ?_
            obtain ⟨g8, h⟩ := gd_s h
            refine xl_14 hx hb hK hP k_202 l_202 (ix_in g8) dX12_bestFor_51 ?_
            refine lv_aload_n hx hb dX12_bestFor_52 rfl (lv_at hl 0 rfl) ?_
            refine ge_12_61 hx hb hts (inU inW_X12) hown hK hP k_172 (hts _ (List.mem_cons_of_mem _ lw_1495)) dX12_bestFor_53 ?_
            refine lv_bipush (v := 24) hx hb dX12_bestFor_56 (by decide) ?_
            refine lv_iload_n hx hb dX12_bestFor_58 rfl (lv_at hl 1 rfl) ?_
            refine lv_imul hx hb dX12_bestFor_59 ?_
            refine lv_iload_n hx hb dX12_bestFor_60 rfl (lv_at hl 3 rfl) ?_
            refine lv_iadd hx hb dX12_bestFor_61 ?_
            obtain ⟨g9, h⟩ := gd_s h
            refine xl_14 hx hb hK hP k_202 l_202 (ix_in g9) dX12_bestFor_62 ?_
            refine lv_icmp_le (tgt := 69) hx hb dX12_bestFor_63 (by decide) (fun c10 => ?_) (fun c10 => ?_)
            · rw [if_pos c10] at h
              exact pf_X12_bestFor_69 C  ih v1 v2 v3 v4 z4  hP hS (lv_sub hl [0, 1, 2, 3, 4] rfl) h
            · rw [if_neg c10] at h
              exact pf_X12_bestFor_66 C  ih v1 v2 v4 z4  hP hS (lv_sub hl [0, 1, 2, 4] rfl) h
def fn_X12_bestFor (v1 : Int32) (v2 : Int32) (z : St) : Option (Int32 × St) := fn_X12_bestFor_5   fu v1 v2 (-1) 0 z
set_option maxHeartbeats 4000000 in
set_option maxRecDepth 100000 in
theorem m_X12_bestFor {l : Launch} {G : wG} (hG : Ok G) {v1 : Int32} {v2 : Int32} {z : St} {Rz : Int32 × St}  (h : fn_X12_bestFor  v1 v2 z = some Rz) : Met l yX12_bestFor (wsU yX12_bestFor cX12_bestFor 5 (some .int)) (rmd 2) (va_Pc [.ref (G.2.2 172), .int v1, .int v2] (Pre G z)) (va_Qi (fun r u => (r, u) = Rz) (Pre G) (AW G)) 0 0 (AW G) := by
  refine Met.ofW (cc := cX12_bestFor) (maxL := 5) (ret := (some .int)) (by decide) rfl ?_
  intro p e s m args below meth c s₁ B hml hv
  obtain ⟨rfl, hP, hK⟩ := hv
  have C : CX p s m ([.ref (G.2.2 172), .int v1, .int v2] : List Value).toArray meth c cX12_bestFor 5 (wsU yX12_bestFor cX12_bestFor 5 (some .int)) RX12 (some .int) G := ⟨B.exec, B.bytes, hml, findClass_of_methodNamed B.named, atoms_spec (ws := (wsU yX12_bestFor cX12_bestFor 5 (some .int))) B.pre, B.returns, B.notSynchronized, hK, hG⟩
  obtain ⟨hx, hb, -, hown, hts, hr, hlocks, -, -⟩ := id C
  have hS : va_S (AW G) s.heap s.heap [] := va_S.rf
  have hl := lv_entry [.ref (G.2.2 172), .int v1, .int v2] (n := 5) (Nat.le_of_ble_eq_true rfl)
  rw [lg_entry_eq]
  generalize (lg_sl [.ref (G.2.2 172), .int v1, .int v2] ++ List.replicate (5 - (lg_sl [.ref (G.2.2 172), .int v1, .int v2]).length) Slot.unset).toArray = ls at hl ⊢
  have hl : lv_has ls 5 [(0, .ref (G.2.2 172)), (1, .int v1), (2, .int v2)] := hl
  unfold fn_X12_bestFor at h
  refine lv_iconst (v := (-1)) hx hb dX12_bestFor_0 (by decide) ?_
  refine lv_istore_n (lv' := [(3, .int (-1)), (0, .ref (G.2.2 172)), (1, .int v1), (2, .int v2)]) hx hb dX12_bestFor_1 rfl hl (by decide) rfl (fun ls hl => ?_)
  refine lv_iconst (v := 0) hx hb dX12_bestFor_2 (by decide) ?_
  refine lv_istore (lv' := [(4, .int 0), (3, .int (-1)), (0, .ref (G.2.2 172)), (1, .int v1), (2, .int v2)]) hx hb dX12_bestFor_3 hl (by decide) rfl (fun ls hl => ?_)
  exact pf_X12_bestFor_5 C   fu v1 v2 (-1) 0 z  _ _ _ hP hS (lv_sub hl [2, 3, 4, 1, 0] rfl) h
def fn_X12_picks_64 (k10 : Int32 → Int32 → Int32 → St → Option (Int32 × St)) (v1 : Int32) (v2 : Int32) (v3 : Int32) (z : St) : Option (Int32 × St) := k10 v1 v2 (v3 + 1) z
set_option maxHeartbeats 4000000 in
set_option maxRecDepth 100000 in
theorem pf_X12_picks_64 {p : Program} {l : Launch} {e : Env} {s : State} {m : MethodId} {args : Array Value} {below : List Frame} {meth : Method} {c : Code} {G : wG} (C : CX p s m args meth c cX12_picks 5 (wsU yX12_picks cX12_picks 5 (some .int)) RX12 (some .int) G) {Rz : Int32 × St} {k10 : Int32 → Int32 → Int32 → St → Option (Int32 × St)} (hk_10 : ∀ (v1 : Int32) (v2 : Int32) (v3 : Int32) (z : St)  (H : Heap) (locs : List Loc) (ls : Array Slot), WP G z H → va_S (AW G) s.heap H locs → lv_has ls 5 [(0, .ref (G.2.2 172)), (1, .int v1), (2, .int v2), (3, .int v3)] → k10 v1 v2 v3 z = some Rz → W p l e (rmd 6) s m args below meth c H locs 0 0 (QI below args s G Rz) (F0 m 10 ls [])) (v1 : Int32) (v2 : Int32) (v3 : Int32) (z : St)  {H : Heap} {locs : List Loc} {ls : Array Slot} (hP : WP G z H) (hS : va_S (AW G) s.heap H locs) (hl : lv_has ls 5 [(0, .ref (G.2.2 172)), (1, .int v1), (2, .int v2), (3, .int v3)]) (h : fn_X12_picks_64  k10 v1 v2 v3 z = some Rz) : W p l e (rmd 6) s m args below meth c H locs 0 0 (QI below args s G Rz) (F0 m 64 ls []) := by
  obtain ⟨hx, hb, hml, hown, hts, hr, hlocks, hK, hG⟩ := id C
  unfold fn_X12_picks_64 at h
  refine lv_iinc (v := (v3 + 1)) (lv' := [(3, .int (v3 + 1)), (0, .ref (G.2.2 172)), (1, .int v1), (2, .int v2)]) hx hb dX12_picks_64 hl (k := 3) rfl rfl (by decide) rfl (fun ls hl => ?_)
  refine lv_goto (tgt := 10) hx hb dX12_picks_67 (by decide) ?_
  exact hk_10 v1 v2 (v3 + 1) z  _ _ _ hP hS (lv_sub hl [1, 2, 3, 0] rfl) h
def fn_X12_picks_36 (k10 : Int32 → Int32 → Int32 → St → Option (Int32 × St)) (v1 : Int32) (v2 : Int32) (v3 : Int32) (tv0 : Int32) (z : St) : Option (Int32 × St) := gd (ix v3 6) (nm (sI z 205 (Int32.toNatClampNeg v3) tv0) (fun z2 => (if 0 ≤ tv0 then nm (v1 ||| (1 <<< (tv0 &&& 31))) (fun v1_4 => fn_X12_picks_64  k10 v1_4 (v2 + 1) v3 z2) else fn_X12_picks_64  k10 v1 v2 v3 z2)))
set_option maxHeartbeats 4000000 in
set_option maxRecDepth 100000 in
theorem pf_X12_picks_36 {p : Program} {l : Launch} {e : Env} {s : State} {m : MethodId} {args : Array Value} {below : List Frame} {meth : Method} {c : Code} {G : wG} (C : CX p s m args meth c cX12_picks 5 (wsU yX12_picks cX12_picks 5 (some .int)) RX12 (some .int) G) {Rz : Int32 × St} {k10 : Int32 → Int32 → Int32 → St → Option (Int32 × St)} (hk_10 : ∀ (v1 : Int32) (v2 : Int32) (v3 : Int32) (z : St)  (H : Heap) (locs : List Loc) (ls : Array Slot), WP G z H → va_S (AW G) s.heap H locs → lv_has ls 5 [(0, .ref (G.2.2 172)), (1, .int v1), (2, .int v2), (3, .int v3)] → k10 v1 v2 v3 z = some Rz → W p l e (rmd 6) s m args below meth c H locs 0 0 (QI below args s G Rz) (F0 m 10 ls [])) (v1 : Int32) (v2 : Int32) (v3 : Int32) (tv0 : Int32) (z : St)  {H : Heap} {locs : List Loc} {ls : Array Slot} (hP : WP G z H) (hS : va_S (AW G) s.heap H locs) (hl : lv_has ls 5 [(0, .ref (G.2.2 172)), (1, .int v1), (2, .int v2), (3, .int v3)]) (h : fn_X12_picks_36  k10 v1 v2 v3 tv0 z = some Rz) : W p l e (rmd 6) s m args below meth c H locs 0 0 (QI below args s G Rz) (F0 m 36 ls [.int tv0]) := by
  obtain ⟨hx, hb, hml, hown, hts, hr, hlocks, hK, hG⟩ := id C
  unfold fn_X12_picks_36 at h
  refine lv_istore (lv' := [(4, .int tv0), (0, .ref (G.2.2 172)), (1, .int v1), (2, .int v2), (3, .int v3)]) hx hb dX12_picks_36 hl (by decide) rfl (fun ls hl => ?_)
  refine lv_aload_n hx hb dX12_picks_38 rfl (lv_at hl 1 rfl) ?_
  refine ge_12_64 hx hb hts (inU inW_X12) hown hK hP k_172 (hts _ (List.mem_cons_of_mem _ lw_1498)) dX12_picks_39 ?_
  refine lv_iload_n hx hb dX12_picks_42 rfl (lv_at hl 4 rfl) ?_
  refine lv_iload hx hb dX12_picks_43 (lv_at hl 0 rfl) ?_
  obtain ⟨g1, h⟩ := gd_s h
  obtain ⟨z2, e_z2, h⟩ := nm_s h
  refine xs_14 hx hb hK hG hP hS k_205 l_205 (ix_in g1) dX12_picks_45 (fun H locs hP hS => ?_)
  rw [← e_z2] at hP
  refine lv_iload hx hb dX12_picks_46 (lv_at hl 0 rfl) ?_
  refine lv_if_ge (tgt := 54) hx hb dX12_picks_48 (by decide) (fun c3 => ?_) (fun c3 => ?_)
  · rw [if_pos c3] at h
    refine lv_iload_n hx hb dX12_picks_54 rfl (lv_at hl 2 rfl) ?_
    refine lv_iconst (v := 1) hx hb dX12_picks_55 (by decide) ?_
    refine lv_iload hx hb dX12_picks_56 (lv_at hl 0 rfl) ?_
    refine lv_ishl hx hb dX12_picks_58 ?_
    refine lv_ior hx hb dX12_picks_59 ?_
    obtain ⟨v1_4, e_v1_4, h⟩ := nm_s h
    refine x_top e_v1_4 ?_
    refine lv_istore_n (lv' := [(1, .int v1_4), (4, .int tv0), (0, .ref (G.2.2 172)), (2, .int v2), (3, .int v3)]) hx hb dX12_picks_60 rfl hl (by decide) rfl (fun ls hl => ?_)
    refine lv_iinc (v := (v2 + 1)) (lv' := [(2, .int (v2 + 1)), (1, .int v1_4), (4, .int tv0), (0, .ref (G.2.2 172)), (3, .int v3)]) hx hb dX12_picks_61 hl (k := 3) rfl rfl (by decide) rfl (fun ls hl => ?_)
    exact pf_X12_picks_64 C  hk_10 v1_4 (v2 + 1) v3 z2  hP hS (lv_sub hl [3, 1, 0, 4] rfl) h
  · rw [if_neg c3] at h
    refine lv_goto (tgt := 64) hx hb dX12_picks_51 (by decide) ?_
    exact pf_X12_picks_64 C  hk_10 v1 v2 v3 z2  hP hS (lv_sub hl [1, 2, 3, 4] rfl) h
def fn_X12_picks_10 : Nat → Int32 → Int32 → Int32 → St → Option (Int32 × St)
  | 0, _, _, _, _ => none
  | n + 1, v1, v2, v3, z => (if (z.1 172 44) ≤ v3 then nm (sI z 172 65 (z.1 172 44)) (fun z2 => some (v2, z2)) else bd (fn_X12_pieceOf  v3 z) (fun r4 z5 => (if r4 < 0 then bd (fn_X12_bestFor  v3 v1 z5) (fun r8 z9 => fn_X12_picks_36  (fn_X12_picks_10   n) v1 v2 v3 r8 z9) else fn_X12_picks_36  (fn_X12_picks_10   n) v1 v2 v3 (-1) z5)))
set_option maxHeartbeats 4000000 in
set_option maxRecDepth 100000 in
theorem pf_X12_picks_10 {p : Program} {l : Launch} {e : Env} {s : State} {m : MethodId} {args : Array Value} {below : List Frame} {meth : Method} {c : Code} {G : wG} (C : CX p s m args meth c cX12_picks 5 (wsU yX12_picks cX12_picks 5 (some .int)) RX12 (some .int) G) {Rz : Int32 × St} : ∀ (n : Nat) (v1 : Int32) (v2 : Int32) (v3 : Int32) (z : St)  (H : Heap) (locs : List Loc) (ls : Array Slot), WP G z H → va_S (AW G) s.heap H locs → lv_has ls 5 [(0, .ref (G.2.2 172)), (1, .int v1), (2, .int v2), (3, .int v3)] → fn_X12_picks_10   n v1 v2 v3 z = some Rz → W p l e (rmd 6) s m args below meth c H locs 0 0 (QI below args s G Rz) (F0 m 10 ls []) := by
  obtain ⟨hx, hb, hml, hown, hts, hr, hlocks, hK, hG⟩ := id C
  intro n
  induction n with
  | zero => intro v1 v2 v3 z  H locs ls hP hS hl h; cases h
  | succ n ih =>
    intro v1 v2 v3 z  H locs ls hP hS hl h
    rw [fn_X12_picks_10] at h
    refine lv_iload_n hx hb dX12_picks_10 rfl (lv_at hl 3 rfl) ?_
    refine lv_aload_n hx hb dX12_picks_11 rfl (lv_at hl 0 rfl) ?_
    refine ge_12_44 hx hb hts (inU inW_X12) hown hK hP k_172 (hts _ (List.mem_cons_of_mem _ lw_1478)) dX12_picks_12 ?_
    refine lv_icmp_ge (tgt := 70) hx hb dX12_picks_15 (by decide) (fun c1 => ?_) (fun c1 => ?_)
    · rw [if_pos c1] at h
      refine lv_aload_n hx hb dX12_picks_70 rfl (lv_at hl 0 rfl) ?_
      refine lv_aload_n hx hb dX12_picks_71 rfl (lv_at hl 0 rfl) ?_
      refine ge_12_44 hx hb hts (inU inW_X12) hown hK hP k_172 (hts _ (List.mem_cons_of_mem _ lw_1478)) dX12_picks_72 ?_
      obtain ⟨z2, e_z2, h⟩ := nm_s h
      refine pu_12_65 hx hb hts (inU inW_X12) hown hK hG hP hS k_172 (hts _ (List.mem_cons_of_mem _ lw_1499)) dX12_picks_75 (fun H locs hP hS => ?_)
      rw [← e_z2] at hP
      refine lv_iload_n hx hb dX12_picks_78 rfl (lv_at hl 2 rfl) ?_
      exact x_iret hx hb hr hlocks hK hP hS h dX12_picks_79
    · rw [if_neg c1] at h
      refine lv_aload_n hx hb dX12_picks_18 rfl (lv_at hl 0 rfl) ?_
      refine lv_iload_n hx hb dX12_picks_19 rfl (lv_at hl 3 rfl) ?_
      obtain ⟨r4, z5, h3, h⟩ := bd_s h
      refine x_Vi (Rz := (r4, z5)) (As := [.int v3]) (rest := []) ⟨hx, hb, hml, hown, hts⟩ hK hP hS (kd_lt k_172 (by decide)) (cell_12 k_172) rfl (m_X12_pieceOf hG   h3) (cwV 1 hts (gV lw_1853 lw_1855 lw_77 lw_125 lw_1856) rfl rfl rfl (by decide +kernel) (rmd_ok (by decide) (by decide))) rfl hl.1 rfl (Nat.le_of_ble_eq_true rfl) dX12_picks_20 ⟨Nat.le_refl _, Nat.le_refl _⟩ (fun H locs hP hS => ?_)
      refine lv_if_lt (tgt := 30) hx hb dX12_picks_23 (by decide) (fun c6 => ?_) (fun c6 => ?_)
      · rw [if_pos c6] at h
        refine lv_aload_n hx hb dX12_picks_30 rfl (lv_at hl 0 rfl) ?_
        refine lv_iload_n hx hb dX12_picks_31 rfl (lv_at hl 3 rfl) ?_
        refine lv_iload_n hx hb dX12_picks_32 rfl (lv_at hl 1 rfl) ?_
        obtain ⟨r8, z9, h7, h⟩ := bd_s h
        refine x_Vi (Rz := (r8, z9)) (As := [.int v3, .int v1]) (rest := []) ⟨hx, hb, hml, hown, hts⟩ hK hP hS (kd_lt k_172 (by decide)) (cell_12 k_172) rfl (m_X12_bestFor hG   h7) (cwV 2 hts (gV lw_1996 lw_1998 lw_94 lw_125 lw_1999) rfl rfl rfl (by decide +kernel) (rmd_ok (by decide) (by decide))) rfl hl.1 rfl (Nat.le_of_ble_eq_true rfl) dX12_picks_33 ⟨Nat.le_refl _, Nat.le_refl _⟩ (fun H locs hP hS => ?_)
        exact pf_X12_picks_36 C  ih v1 v2 v3 r8 z9  hP hS (lv_sub hl [0, 1, 2, 3] rfl) h
      · rw [if_neg c6] at h
        refine lv_iconst (v := (-1)) hx hb dX12_picks_26 (by decide) ?_
        refine lv_goto (tgt := 36) hx hb dX12_picks_27 (by decide) ?_
        exact pf_X12_picks_36 C  ih v1 v2 v3 (-1) z5  hP hS (lv_sub hl [0, 1, 2, 3] rfl) h
def fn_X12_picks  (z : St) : Option (Int32 × St) := bv (fn_X12_layWorths   z) (fun z2 => fn_X12_picks_10   fu 0 0 0 z2)
set_option maxHeartbeats 4000000 in
set_option maxRecDepth 100000 in
theorem m_X12_picks {l : Launch} {G : wG} (hG : Ok G)  {z : St} {Rz : Int32 × St}  (h : fn_X12_picks   z = some Rz) : Met l yX12_picks (wsU yX12_picks cX12_picks 5 (some .int)) (rmd 6) (va_Pc [.ref (G.2.2 172)] (Pre G z)) (va_Qi (fun r u => (r, u) = Rz) (Pre G) (AW G)) 0 0 (AW G) := by
  refine Met.ofW (cc := cX12_picks) (maxL := 5) (ret := (some .int)) (by decide) rfl ?_
  intro p e s m args below meth c s₁ B hml hv
  obtain ⟨rfl, hP, hK⟩ := hv
  have C : CX p s m ([.ref (G.2.2 172)] : List Value).toArray meth c cX12_picks 5 (wsU yX12_picks cX12_picks 5 (some .int)) RX12 (some .int) G := ⟨B.exec, B.bytes, hml, findClass_of_methodNamed B.named, atoms_spec (ws := (wsU yX12_picks cX12_picks 5 (some .int))) B.pre, B.returns, B.notSynchronized, hK, hG⟩
  obtain ⟨hx, hb, -, hown, hts, hr, hlocks, -, -⟩ := id C
  have hS : va_S (AW G) s.heap s.heap [] := va_S.rf
  have hl := lv_entry [.ref (G.2.2 172)] (n := 5) (Nat.le_of_ble_eq_true rfl)
  rw [lg_entry_eq]
  generalize (lg_sl [.ref (G.2.2 172)] ++ List.replicate (5 - (lg_sl [.ref (G.2.2 172)]).length) Slot.unset).toArray = ls at hl ⊢
  have hl : lv_has ls 5 [(0, .ref (G.2.2 172))] := hl
  unfold fn_X12_picks at h
  refine lv_aload_n hx hb dX12_picks_0 rfl (lv_at hl 0 rfl) ?_
  obtain ⟨z2, h1, h⟩ := bv_s h
  refine x_Vv (Rz := z2) (As := []) (rest := []) ⟨hx, hb, hml, hown, hts⟩ hK hP hS (kd_lt k_172 (by decide)) (cell_12 k_172) rfl (m_X12_layWorths hG   h1) (cwV 0 hts (gV lw_1992 lw_1994 lw_93 lw_125 lw_1995) rfl rfl rfl (by decide +kernel) (rmd_ok (by decide) (by decide))) rfl hl.1 rfl (Nat.le_of_ble_eq_true rfl) dX12_picks_1 ⟨Nat.le_refl _, Nat.le_refl _⟩ (fun H locs hP hS => ?_)
  refine lv_iconst (v := 0) hx hb dX12_picks_4 (by decide) ?_
  refine lv_istore_n (lv' := [(1, .int 0), (0, .ref (G.2.2 172))]) hx hb dX12_picks_5 rfl hl (by decide) rfl (fun ls hl => ?_)
  refine lv_iconst (v := 0) hx hb dX12_picks_6 (by decide) ?_
  refine lv_istore_n (lv' := [(2, .int 0), (1, .int 0), (0, .ref (G.2.2 172))]) hx hb dX12_picks_7 rfl hl (by decide) rfl (fun ls hl => ?_)
  refine lv_iconst (v := 0) hx hb dX12_picks_8 (by decide) ?_
  refine lv_istore_n (lv' := [(3, .int 0), (2, .int 0), (1, .int 0), (0, .ref (G.2.2 172))]) hx hb dX12_picks_9 rfl hl (by decide) rfl (fun ls hl => ?_)
  exact pf_X12_picks_10 C   fu 0 0 0 z2  _ _ _ hP hS (lv_sub hl [3, 2, 1, 0] rfl) h
def fn_X12_leastBy_84 (k9 : Int32 → Int32 → Int32 → Int32 → St → Option (Int32 × St)) (v1 : Int32) (v2 : Int32) (v3 : Int32) (v4 : Int32) (z : St) : Option (Int32 × St) := k9 v1 v2 v3 (v4 + 1) z
set_option maxHeartbeats 4000000 in
set_option maxRecDepth 100000 in
theorem pf_X12_leastBy_84 {p : Program} {l : Launch} {e : Env} {s : State} {m : MethodId} {args : Array Value} {below : List Frame} {meth : Method} {c : Code} {G : wG} (C : CX p s m args meth c cX12_leastBy 7 (wsU yX12_leastBy cX12_leastBy 7 (some .int)) RX12 (some .int) G) {Rz : Int32 × St} {k9 : Int32 → Int32 → Int32 → Int32 → St → Option (Int32 × St)} (hk_9 : ∀ (v1 : Int32) (v2 : Int32) (v3 : Int32) (v4 : Int32) (z : St)  (H : Heap) (locs : List Loc) (ls : Array Slot), WP G z H → va_S (AW G) s.heap H locs → lv_has ls 7 [(0, .ref (G.2.2 172)), (1, .int v1), (2, .int v2), (3, .int v3), (4, .int v4)] → k9 v1 v2 v3 v4 z = some Rz → W p l e (rmd 3) s m args below meth c H locs 0 0 (QI below args s G Rz) (F0 m 9 ls [])) (v1 : Int32) (v2 : Int32) (v3 : Int32) (v4 : Int32) (z : St)  {H : Heap} {locs : List Loc} {ls : Array Slot} (hP : WP G z H) (hS : va_S (AW G) s.heap H locs) (hl : lv_has ls 7 [(0, .ref (G.2.2 172)), (1, .int v1), (2, .int v2), (3, .int v3), (4, .int v4)]) (h : fn_X12_leastBy_84  k9 v1 v2 v3 v4 z = some Rz) : W p l e (rmd 3) s m args below meth c H locs 0 0 (QI below args s G Rz) (F0 m 84 ls []) := by
  obtain ⟨hx, hb, hml, hown, hts, hr, hlocks, hK, hG⟩ := id C
  unfold fn_X12_leastBy_84 at h
  refine lv_iinc (v := (v4 + 1)) (lv' := [(4, .int (v4 + 1)), (0, .ref (G.2.2 172)), (1, .int v1), (2, .int v2), (3, .int v3)]) hx hb dX12_leastBy_84 hl (k := 4) rfl rfl (by decide) rfl (fun ls hl => ?_)
  refine lv_goto (tgt := 9) hx hb dX12_leastBy_87 (by decide) ?_
  exact hk_9 v1 v2 v3 (v4 + 1) z  _ _ _ hP hS (lv_sub hl [1, 2, 3, 4, 0] rfl) h
def fn_X12_leastBy_81 (k9 : Int32 → Int32 → Int32 → Int32 → St → Option (Int32 × St)) (v1 : Int32) (v2 : Int32) (v4 : Int32) (v6 : Int32) (z : St) : Option (Int32 × St) := fn_X12_leastBy_84  k9 v1 v2 v6 v4 z
set_option maxHeartbeats 4000000 in
set_option maxRecDepth 100000 in
theorem pf_X12_leastBy_81 {p : Program} {l : Launch} {e : Env} {s : State} {m : MethodId} {args : Array Value} {below : List Frame} {meth : Method} {c : Code} {G : wG} (C : CX p s m args meth c cX12_leastBy 7 (wsU yX12_leastBy cX12_leastBy 7 (some .int)) RX12 (some .int) G) {Rz : Int32 × St} {k9 : Int32 → Int32 → Int32 → Int32 → St → Option (Int32 × St)} (hk_9 : ∀ (v1 : Int32) (v2 : Int32) (v3 : Int32) (v4 : Int32) (z : St)  (H : Heap) (locs : List Loc) (ls : Array Slot), WP G z H → va_S (AW G) s.heap H locs → lv_has ls 7 [(0, .ref (G.2.2 172)), (1, .int v1), (2, .int v2), (3, .int v3), (4, .int v4)] → k9 v1 v2 v3 v4 z = some Rz → W p l e (rmd 3) s m args below meth c H locs 0 0 (QI below args s G Rz) (F0 m 9 ls [])) (v1 : Int32) (v2 : Int32) (v4 : Int32) (v6 : Int32) (z : St)  {H : Heap} {locs : List Loc} {ls : Array Slot} (hP : WP G z H) (hS : va_S (AW G) s.heap H locs) (hl : lv_has ls 7 [(0, .ref (G.2.2 172)), (1, .int v1), (2, .int v2), (4, .int v4), (6, .int v6)]) (h : fn_X12_leastBy_81  k9 v1 v2 v4 v6 z = some Rz) : W p l e (rmd 3) s m args below meth c H locs 0 0 (QI below args s G Rz) (F0 m 81 ls []) := by
  obtain ⟨hx, hb, hml, hown, hts, hr, hlocks, hK, hG⟩ := id C
  unfold fn_X12_leastBy_81 at h
  refine lv_iload hx hb dX12_leastBy_81 (lv_at hl 4 rfl) ?_
  refine lv_istore_n (lv' := [(3, .int v6), (0, .ref (G.2.2 172)), (1, .int v1), (2, .int v2), (4, .int v4), (6, .int v6)]) hx hb dX12_leastBy_83 rfl hl (by decide) rfl (fun ls hl => ?_)
  exact pf_X12_leastBy_84 C  hk_9 v1 v2 v6 v4 z  hP hS (lv_sub hl [1, 2, 3, 0, 4] rfl) h
def fn_X12_leastBy_70 (k9 : Int32 → Int32 → Int32 → Int32 → St → Option (Int32 × St)) (v1 : Int32) (v2 : Int32) (v3 : Int32) (v4 : Int32) (v6 : Int32) (z : St) : Option (Int32 × St) := (if v4 = 0 then fn_X12_leastBy_81  k9 v1 v2 v4 v6 z else (if v3 ≤ v6 then fn_X12_leastBy_84  k9 v1 v2 v3 v4 z else fn_X12_leastBy_81  k9 v1 v2 v4 v6 z))
set_option maxHeartbeats 4000000 in
set_option maxRecDepth 100000 in
theorem pf_X12_leastBy_70 {p : Program} {l : Launch} {e : Env} {s : State} {m : MethodId} {args : Array Value} {below : List Frame} {meth : Method} {c : Code} {G : wG} (C : CX p s m args meth c cX12_leastBy 7 (wsU yX12_leastBy cX12_leastBy 7 (some .int)) RX12 (some .int) G) {Rz : Int32 × St} {k9 : Int32 → Int32 → Int32 → Int32 → St → Option (Int32 × St)} (hk_9 : ∀ (v1 : Int32) (v2 : Int32) (v3 : Int32) (v4 : Int32) (z : St)  (H : Heap) (locs : List Loc) (ls : Array Slot), WP G z H → va_S (AW G) s.heap H locs → lv_has ls 7 [(0, .ref (G.2.2 172)), (1, .int v1), (2, .int v2), (3, .int v3), (4, .int v4)] → k9 v1 v2 v3 v4 z = some Rz → W p l e (rmd 3) s m args below meth c H locs 0 0 (QI below args s G Rz) (F0 m 9 ls [])) (v1 : Int32) (v2 : Int32) (v3 : Int32) (v4 : Int32) (v6 : Int32) (z : St)  {H : Heap} {locs : List Loc} {ls : Array Slot} (hP : WP G z H) (hS : va_S (AW G) s.heap H locs) (hl : lv_has ls 7 [(0, .ref (G.2.2 172)), (1, .int v1), (2, .int v2), (3, .int v3), (4, .int v4), (6, .int v6)]) (h : fn_X12_leastBy_70  k9 v1 v2 v3 v4 v6 z = some Rz) : W p l e (rmd 3) s m args below meth c H locs 0 0 (QI below args s G Rz) (F0 m 70 ls []) := by
  obtain ⟨hx, hb, hml, hown, hts, hr, hlocks, hK, hG⟩ := id C
  unfold fn_X12_leastBy_70 at h
  refine lv_iload hx hb dX12_leastBy_70 (lv_at hl 4 rfl) ?_
  refine lv_if_eq (tgt := 81) hx hb dX12_leastBy_72 (by decide) (fun c1 => ?_) (fun c1 => ?_)
  · rw [if_pos c1] at h
    exact pf_X12_leastBy_81 C  hk_9 v1 v2 v4 v6 z  hP hS (lv_sub hl [0, 1, 2, 4, 5] rfl) h
  · rw [if_neg c1] at h
    refine lv_iload hx hb dX12_leastBy_75 (lv_at hl 5 rfl) ?_
    refine lv_iload_n hx hb dX12_leastBy_77 rfl (lv_at hl 3 rfl) ?_
    refine lv_icmp_ge (tgt := 84) hx hb dX12_leastBy_78 (by decide) (fun c2 => ?_) (fun c2 => ?_)
    · rw [if_pos c2] at h
      exact pf_X12_leastBy_84 C  hk_9 v1 v2 v3 v4 z  hP hS (lv_sub hl [0, 1, 2, 3, 4] rfl) h
    · rw [if_neg c2] at h
      exact pf_X12_leastBy_81 C  hk_9 v1 v2 v4 v6 z  hP hS (lv_sub hl [0, 1, 2, 4, 5] rfl) h
def fn_X12_leastBy_56 (k9 : Int32 → Int32 → Int32 → Int32 → St → Option (Int32 × St)) (v1 : Int32) (v2 : Int32) (v3 : Int32) (v4 : Int32) (v5 : Int32) (tv0 : Int32) (z : St) : Option (Int32 × St) := (if v5 < 0 then fn_X12_leastBy_70  k9 v1 v2 v3 v4 tv0 z else nm (v2 ||| (1 <<< (v5 &&& 31))) (fun v2_2 => fn_X12_leastBy_70  k9 v1 v2_2 v3 v4 tv0 z))
set_option maxHeartbeats 4000000 in
set_option maxRecDepth 100000 in
theorem pf_X12_leastBy_56 {p : Program} {l : Launch} {e : Env} {s : State} {m : MethodId} {args : Array Value} {below : List Frame} {meth : Method} {c : Code} {G : wG} (C : CX p s m args meth c cX12_leastBy 7 (wsU yX12_leastBy cX12_leastBy 7 (some .int)) RX12 (some .int) G) {Rz : Int32 × St} {k9 : Int32 → Int32 → Int32 → Int32 → St → Option (Int32 × St)} (hk_9 : ∀ (v1 : Int32) (v2 : Int32) (v3 : Int32) (v4 : Int32) (z : St)  (H : Heap) (locs : List Loc) (ls : Array Slot), WP G z H → va_S (AW G) s.heap H locs → lv_has ls 7 [(0, .ref (G.2.2 172)), (1, .int v1), (2, .int v2), (3, .int v3), (4, .int v4)] → k9 v1 v2 v3 v4 z = some Rz → W p l e (rmd 3) s m args below meth c H locs 0 0 (QI below args s G Rz) (F0 m 9 ls [])) (v1 : Int32) (v2 : Int32) (v3 : Int32) (v4 : Int32) (v5 : Int32) (tv0 : Int32) (z : St)  {H : Heap} {locs : List Loc} {ls : Array Slot} (hP : WP G z H) (hS : va_S (AW G) s.heap H locs) (hl : lv_has ls 7 [(0, .ref (G.2.2 172)), (1, .int v1), (2, .int v2), (3, .int v3), (4, .int v4), (5, .int v5)]) (h : fn_X12_leastBy_56  k9 v1 v2 v3 v4 v5 tv0 z = some Rz) : W p l e (rmd 3) s m args below meth c H locs 0 0 (QI below args s G Rz) (F0 m 56 ls [.int tv0]) := by
  obtain ⟨hx, hb, hml, hown, hts, hr, hlocks, hK, hG⟩ := id C
  unfold fn_X12_leastBy_56 at h
  refine lv_istore (lv' := [(6, .int tv0), (0, .ref (G.2.2 172)), (1, .int v1), (2, .int v2), (3, .int v3), (4, .int v4), (5, .int v5)]) hx hb dX12_leastBy_56 hl (by decide) rfl (fun ls hl => ?_)
  refine lv_iload hx hb dX12_leastBy_58 (lv_at hl 6 rfl) ?_
  refine lv_if_lt (tgt := 70) hx hb dX12_leastBy_60 (by decide) (fun c1 => ?_) (fun c1 => ?_)
  · rw [if_pos c1] at h
    exact pf_X12_leastBy_70 C  hk_9 v1 v2 v3 v4 tv0 z  hP hS (lv_sub hl [1, 2, 3, 4, 5, 0] rfl) h
  · rw [if_neg c1] at h
    refine lv_iload_n hx hb dX12_leastBy_63 rfl (lv_at hl 3 rfl) ?_
    refine lv_iconst (v := 1) hx hb dX12_leastBy_64 (by decide) ?_
    refine lv_iload hx hb dX12_leastBy_65 (lv_at hl 6 rfl) ?_
    refine lv_ishl hx hb dX12_leastBy_67 ?_
    refine lv_ior hx hb dX12_leastBy_68 ?_
    obtain ⟨v2_2, e_v2_2, h⟩ := nm_s h
    refine x_top e_v2_2 ?_
    refine lv_istore_n (lv' := [(2, .int v2_2), (6, .int tv0), (0, .ref (G.2.2 172)), (1, .int v1), (3, .int v3), (4, .int v4), (5, .int v5)]) hx hb dX12_leastBy_69 rfl hl (by decide) rfl (fun ls hl => ?_)
    exact pf_X12_leastBy_70 C  hk_9 v1 v2_2 v3 v4 tv0 z  hP hS (lv_sub hl [2, 3, 0, 4, 5, 1] rfl) h
def fn_X12_leastBy_9 : Nat → Int32 → Int32 → Int32 → Int32 → St → Option (Int32 × St)
  | 0, _, _, _, _, _ => none
  | n + 1, v1, v2, v3, v4, z => (if v1 ≤ v4 then some (v3, z) else gd (ix v4 6) (bd (fn_X12_bestFor  (z.1 203 (Int32.toNatClampNeg v4)) v2 z) (fun r4 z5 => (if 0 ≤ r4 then gd (ix v4 6) (gd (ix ((24 * (z5.1 203 (Int32.toNatClampNeg v4))) + r4) 144) (fn_X12_leastBy_56  (fn_X12_leastBy_9   n) v1 v2 v3 v4 r4 (z5.1 202 (Int32.toNatClampNeg ((24 * (z5.1 203 (Int32.toNatClampNeg v4))) + r4))) z5)) else fn_X12_leastBy_56  (fn_X12_leastBy_9   n) v1 v2 v3 v4 r4 0 z5))))
set_option maxHeartbeats 4000000 in
set_option maxRecDepth 100000 in
theorem pf_X12_leastBy_9 {p : Program} {l : Launch} {e : Env} {s : State} {m : MethodId} {args : Array Value} {below : List Frame} {meth : Method} {c : Code} {G : wG} (C : CX p s m args meth c cX12_leastBy 7 (wsU yX12_leastBy cX12_leastBy 7 (some .int)) RX12 (some .int) G) {Rz : Int32 × St} : ∀ (n : Nat) (v1 : Int32) (v2 : Int32) (v3 : Int32) (v4 : Int32) (z : St)  (H : Heap) (locs : List Loc) (ls : Array Slot), WP G z H → va_S (AW G) s.heap H locs → lv_has ls 7 [(0, .ref (G.2.2 172)), (1, .int v1), (2, .int v2), (3, .int v3), (4, .int v4)] → fn_X12_leastBy_9   n v1 v2 v3 v4 z = some Rz → W p l e (rmd 3) s m args below meth c H locs 0 0 (QI below args s G Rz) (F0 m 9 ls []) := by
  obtain ⟨hx, hb, hml, hown, hts, hr, hlocks, hK, hG⟩ := id C
  intro n
  induction n with
  | zero => intro v1 v2 v3 v4 z  H locs ls hP hS hl h; cases h
  | succ n ih =>
    intro v1 v2 v3 v4 z  H locs ls hP hS hl h
    rw [fn_X12_leastBy_9] at h
    refine lv_iload hx hb dX12_leastBy_9 (lv_at hl 4 rfl) ?_
    refine lv_iload_n hx hb dX12_leastBy_11 rfl (lv_at hl 1 rfl) ?_
    refine lv_icmp_ge (tgt := 90) hx hb dX12_leastBy_12 (by decide) (fun c1 => ?_) (fun c1 => ?_)
    · rw [if_pos c1] at h
      refine lv_iload_n hx hb dX12_leastBy_90 rfl (lv_at hl 3 rfl) ?_
      exact x_iret hx hb hr hlocks hK hP hS h dX12_leastBy_91
    · rw [if_neg c1] at h
      refine lv_aload_n hx hb dX12_leastBy_15 rfl (lv_at hl 0 rfl) ?_
      refine lv_aload_n hx hb dX12_leastBy_16 rfl (lv_at hl 0 rfl) ?_
      refine ge_12_62 hx hb hts (inU inW_X12) hown hK hP k_172 (hts _ (List.mem_cons_of_mem _ lw_1496)) dX12_leastBy_17 ?_
      refine lv_iload hx hb dX12_leastBy_20 (lv_at hl 4 rfl) ?_
      obtain ⟨g2, h⟩ := gd_s h
      refine xl_14 hx hb hK hP k_203 l_203 (ix_in g2) dX12_leastBy_22 ?_
      refine lv_iload_n hx hb dX12_leastBy_23 rfl (lv_at hl 2 rfl) ?_
      obtain ⟨r4, z5, h3, h⟩ := bd_s h
      refine x_Vi (Rz := (r4, z5)) (As := [.int (z.1 203 (Int32.toNatClampNeg v4)), .int v2]) (rest := []) ⟨hx, hb, hml, hown, hts⟩ hK hP hS (kd_lt k_172 (by decide)) (cell_12 k_172) rfl (m_X12_bestFor hG   h3) (cwV 2 hts (gV lw_1996 lw_1998 lw_94 lw_125 lw_1999) rfl rfl rfl (by decide +kernel) (rmd_ok (by decide) (by decide))) rfl hl.1 rfl (Nat.le_of_ble_eq_true rfl) dX12_leastBy_24 ⟨Nat.le_refl _, Nat.le_refl _⟩ (fun H locs hP hS => ?_)
      refine lv_istore (lv' := [(5, .int r4), (0, .ref (G.2.2 172)), (1, .int v1), (2, .int v2), (3, .int v3), (4, .int v4)]) hx hb dX12_leastBy_27 hl (by decide) rfl (fun ls hl => ?_)
      refine lv_iload hx hb dX12_leastBy_29 (lv_at hl 0 rfl) ?_
      refine lv_if_ge (tgt := 38) hx hb dX12_leastBy_31 (by decide) (fun c6 => ?_) (fun c6 => ?_)
      · rw [if_pos c6] at h
        refine lv_aload_n hx hb dX12_leastBy_38 rfl (lv_at hl 1 rfl) ?_
        refine ge_12_61 hx hb hts (inU inW_X12) hown hK hP k_172 (hts _ (List.mem_cons_of_mem _ lw_1495)) dX12_leastBy_39 ?_
        refine lv_bipush (v := 24) hx hb dX12_leastBy_42 (by decide) ?_
        refine lv_aload_n hx hb dX12_leastBy_44 rfl (lv_at hl 1 rfl) ?_
        refine ge_12_62 hx hb hts (inU inW_X12) hown hK hP k_172 (hts _ (List.mem_cons_of_mem _ lw_1496)) dX12_leastBy_45 ?_
        refine lv_iload hx hb dX12_leastBy_48 (lv_at hl 5 rfl) ?_
        obtain ⟨g7, h⟩ := gd_s h
        refine xl_14 hx hb hK hP k_203 l_203 (ix_in g7) dX12_leastBy_50 ?_
        refine lv_imul hx hb dX12_leastBy_51 ?_
        refine lv_iload hx hb dX12_leastBy_52 (lv_at hl 0 rfl) ?_
        refine lv_iadd hx hb dX12_leastBy_54 ?_
        obtain ⟨g8, h⟩ := gd_s h
        refine xl_14 hx hb hK hP k_202 l_202 (ix_in g8) dX12_leastBy_55 ?_
        exact pf_X12_leastBy_56 C  ih v1 v2 v3 v4 r4 (z5.1 202 (Int32.toNatClampNeg ((24 * (z5.1 203 (Int32.toNatClampNeg v4))) + r4))) z5  hP hS (lv_sub hl [1, 2, 3, 4, 5, 0] rfl) h
      · rw [if_neg c6] at h
        refine lv_iconst (v := 0) hx hb dX12_leastBy_34 (by decide) ?_
        refine lv_goto (tgt := 56) hx hb dX12_leastBy_35 (by decide) ?_
        exact pf_X12_leastBy_56 C  ih v1 v2 v3 v4 r4 0 z5  hP hS (lv_sub hl [1, 2, 3, 4, 5, 0] rfl) h
def fn_X12_leastBy (v1 : Int32) (z : St) : Option (Int32 × St) := fn_X12_leastBy_9   fu v1 0 (-1000000000) 0 z
set_option maxHeartbeats 4000000 in
set_option maxRecDepth 100000 in
theorem m_X12_leastBy {l : Launch} {G : wG} (hG : Ok G) {v1 : Int32} {z : St} {Rz : Int32 × St}  (h : fn_X12_leastBy  v1 z = some Rz) : Met l yX12_leastBy (wsU yX12_leastBy cX12_leastBy 7 (some .int)) (rmd 3) (va_Pc [.ref (G.2.2 172), .int v1] (Pre G z)) (va_Qi (fun r u => (r, u) = Rz) (Pre G) (AW G)) 0 0 (AW G) := by
  refine Met.ofW (cc := cX12_leastBy) (maxL := 7) (ret := (some .int)) (by decide) rfl ?_
  intro p e s m args below meth c s₁ B hml hv
  obtain ⟨rfl, hP, hK⟩ := hv
  have C : CX p s m ([.ref (G.2.2 172), .int v1] : List Value).toArray meth c cX12_leastBy 7 (wsU yX12_leastBy cX12_leastBy 7 (some .int)) RX12 (some .int) G := ⟨B.exec, B.bytes, hml, findClass_of_methodNamed B.named, atoms_spec (ws := (wsU yX12_leastBy cX12_leastBy 7 (some .int))) B.pre, B.returns, B.notSynchronized, hK, hG⟩
  obtain ⟨hx, hb, -, hown, hts, hr, hlocks, -, -⟩ := id C
  have hS : va_S (AW G) s.heap s.heap [] := va_S.rf
  have hl := lv_entry [.ref (G.2.2 172), .int v1] (n := 7) (Nat.le_of_ble_eq_true rfl)
  rw [lg_entry_eq]
  generalize (lg_sl [.ref (G.2.2 172), .int v1] ++ List.replicate (7 - (lg_sl [.ref (G.2.2 172), .int v1]).length) Slot.unset).toArray = ls at hl ⊢
  have hl : lv_has ls 7 [(0, .ref (G.2.2 172)), (1, .int v1)] := hl
  unfold fn_X12_leastBy at h
  refine lv_iconst (v := 0) hx hb dX12_leastBy_0 (by decide) ?_
  refine lv_istore_n (lv' := [(2, .int 0), (0, .ref (G.2.2 172)), (1, .int v1)]) hx hb dX12_leastBy_1 rfl hl (by decide) rfl (fun ls hl => ?_)
  refine lv_ldcw (v := (-1000000000)) hx hb hown (hts _ (List.mem_cons_of_mem _ lw_1876)) dX12_leastBy_2 ?_
  refine lv_istore_n (lv' := [(3, .int (-1000000000)), (2, .int 0), (0, .ref (G.2.2 172)), (1, .int v1)]) hx hb dX12_leastBy_5 rfl hl (by decide) rfl (fun ls hl => ?_)
  refine lv_iconst (v := 0) hx hb dX12_leastBy_6 (by decide) ?_
  refine lv_istore (lv' := [(4, .int 0), (3, .int (-1000000000)), (2, .int 0), (0, .ref (G.2.2 172)), (1, .int v1)]) hx hb dX12_leastBy_7 hl (by decide) rfl (fun ls hl => ?_)
  exact pf_X12_leastBy_9 C   fu v1 0 (-1000000000) 0 z  _ _ _ hP hS (lv_sub hl [3, 4, 2, 1, 0] rfl) h
def fn_X12_layTurn_11 : Nat → Int32 → Int32 → Int32 → Int32 → St → Option (Int32 × St)
  | 0, _, _, _, _, _ => none
  | n + 1, v3, v4, v5, v6, z => (if v6 < 0 then (if v5 = v3 then some (1, z) else some (0, z)) else gd (ix v6 6) (nm (sI z 203 (Int32.toNatClampNeg v6) (v4 - v4 / 6 * 6)) (fun z4 => nm (v4 / 6) (fun v4_5 => gd (ix v6 6) (nm (v5 ||| (1 <<< ((z4.1 203 (Int32.toNatClampNeg v6)) &&& 31))) (fun v5_7 => fn_X12_layTurn_11   n v3 v4_5 v5_7 (v6 + (-1)) z4))))))
set_option maxHeartbeats 4000000 in
set_option maxRecDepth 100000 in
theorem pf_X12_layTurn_11 {p : Program} {l : Launch} {e : Env} {s : State} {m : MethodId} {args : Array Value} {below : List Frame} {meth : Method} {c : Code} {G : wG} (C : CX p s m args meth c cX12_layTurn 7 (wsU yX12_layTurn cX12_layTurn 7 (some .boolean)) RX12 (some .boolean) G) {Rz : Int32 × St} : ∀ (n : Nat) (v3 : Int32) (v4 : Int32) (v5 : Int32) (v6 : Int32) (z : St)  (H : Heap) (locs : List Loc) (ls : Array Slot), WP G z H → va_S (AW G) s.heap H locs → lv_has ls 7 [(0, .ref (G.2.2 172)), (3, .int v3), (4, .int v4), (5, .int v5), (6, .int v6)] → fn_X12_layTurn_11   n v3 v4 v5 v6 z = some Rz → W p l e (rmd 1) s m args below meth c H locs 0 0 (QI below args s G Rz) (F0 m 11 ls []) := by
  obtain ⟨hx, hb, hml, hown, hts, hr, hlocks, hK, hG⟩ := id C
  intro n
  induction n with
  | zero => intro v3 v4 v5 v6 z  H locs ls hP hS hl h; cases h
  | succ n ih =>
    intro v3 v4 v5 v6 z  H locs ls hP hS hl h
    rw [fn_X12_layTurn_11] at h
    refine lv_iload hx hb dX12_layTurn_11 (lv_at hl 4 rfl) ?_
    refine lv_if_lt (tgt := 55) hx hb dX12_layTurn_13 (by decide) (fun c1 => ?_) (fun c1 => ?_)
    · rw [if_pos c1] at h
      refine lv_iload hx hb dX12_layTurn_55 (lv_at hl 3 rfl) ?_
      refine lv_iload_n hx hb dX12_layTurn_57 rfl (lv_at hl 1 rfl) ?_
      refine lv_icmp_ne (tgt := 65) hx hb dX12_layTurn_58 (by decide) (fun c2 => ?_) (fun c2 => ?_)
      · rw [if_neg c2] at h
        refine lv_iconst (v := 0) hx hb dX12_layTurn_65 (by decide) ?_
        exact x_zret hx hb hr hlocks hK hP hS rfl h dX12_layTurn_66
      · rw [if_pos c2] at h
        refine lv_iconst (v := 1) hx hb dX12_layTurn_61 (by decide) ?_
        refine lv_goto (tgt := 66) hx hb dX12_layTurn_62 (by decide) ?_
        exact x_zret hx hb hr hlocks hK hP hS rfl h dX12_layTurn_66
    · rw [if_neg c1] at h
      refine lv_aload_n hx hb dX12_layTurn_16 rfl (lv_at hl 0 rfl) ?_
      refine ge_12_62 hx hb hts (inU inW_X12) hown hK hP k_172 (hts _ (List.mem_cons_of_mem _ lw_1496)) dX12_layTurn_17 ?_
      refine lv_iload hx hb dX12_layTurn_20 (lv_at hl 4 rfl) ?_
      refine lv_iload hx hb dX12_layTurn_22 (lv_at hl 2 rfl) ?_
      refine lv_bipush (v := 6) hx hb dX12_layTurn_24 (by decide) ?_
      refine lv_irem hx hb dX12_layTurn_26 (by decide) ?_
      obtain ⟨g3, h⟩ := gd_s h
      obtain ⟨z4, e_z4, h⟩ := nm_s h
      refine xs_14 hx hb hK hG hP hS k_203 l_203 (ix_in g3) dX12_layTurn_27 (fun H locs hP hS => ?_)
      rw [← e_z4] at hP
      refine lv_iload hx hb dX12_layTurn_28 (lv_at hl 2 rfl) ?_
      refine lv_bipush (v := 6) hx hb dX12_layTurn_30 (by decide) ?_
      refine lv_idiv hx hb dX12_layTurn_32 (by decide) ?_
      obtain ⟨v4_5, e_v4_5, h⟩ := nm_s h
      refine x_top e_v4_5 ?_
      refine lv_istore (lv' := [(4, .int v4_5), (0, .ref (G.2.2 172)), (3, .int v3), (5, .int v5), (6, .int v6)]) hx hb dX12_layTurn_33 hl (by decide) rfl (fun ls hl => ?_)
      refine lv_iload hx hb dX12_layTurn_35 (lv_at hl 3 rfl) ?_
      refine lv_iconst (v := 1) hx hb dX12_layTurn_37 (by decide) ?_
      refine lv_aload_n hx hb dX12_layTurn_38 rfl (lv_at hl 1 rfl) ?_
      refine ge_12_62 hx hb hts (inU inW_X12) hown hK hP k_172 (hts _ (List.mem_cons_of_mem _ lw_1496)) dX12_layTurn_39 ?_
      refine lv_iload hx hb dX12_layTurn_42 (lv_at hl 4 rfl) ?_
      obtain ⟨g6, h⟩ := gd_s h
      refine xl_14 hx hb hK hP k_203 l_203 (ix_in g6) dX12_layTurn_44 ?_
      refine lv_ishl hx hb dX12_layTurn_45 ?_
      refine lv_ior hx hb dX12_layTurn_46 ?_
      obtain ⟨v5_7, e_v5_7, h⟩ := nm_s h
      refine x_top e_v5_7 ?_
      refine lv_istore (lv' := [(5, .int v5_7), (4, .int v4_5), (0, .ref (G.2.2 172)), (3, .int v3), (6, .int v6)]) hx hb dX12_layTurn_47 hl (by decide) rfl (fun ls hl => ?_)
      refine lv_iinc (v := (v6 + (-1))) (lv' := [(6, .int (v6 + (-1))), (5, .int v5_7), (4, .int v4_5), (0, .ref (G.2.2 172)), (3, .int v3)]) hx hb dX12_layTurn_49 hl (k := 4) rfl rfl (by decide) rfl (fun ls hl => ?_)
      refine lv_goto (tgt := 11) hx hb dX12_layTurn_52 (by decide) ?_
      exact ih v3 v4_5 v5_7 (v6 + (-1)) z4  _ _ _ hP hS (lv_sub hl [3, 4, 2, 1, 0] rfl) h
def fn_X12_layTurn (v1 : Int32) (v2 : Int32) (v3 : Int32) (z : St) : Option (Int32 × St) := nm (v1 - 1) (fun v6_1 => fn_X12_layTurn_11   fu v3 v2 0 v6_1 z)
set_option maxHeartbeats 4000000 in
set_option maxRecDepth 100000 in
theorem m_X12_layTurn {l : Launch} {G : wG} (hG : Ok G) {v1 : Int32} {v2 : Int32} {v3 : Int32} {z : St} {Rz : Int32 × St}  (h : fn_X12_layTurn  v1 v2 v3 z = some Rz) : Met l yX12_layTurn (wsU yX12_layTurn cX12_layTurn 7 (some .boolean)) (rmd 1) (va_Pc [.ref (G.2.2 172), .int v1, .int v2, .int v3] (Pre G z)) (va_Qi (fun r u => (r, u) = Rz) (Pre G) (AW G)) 0 0 (AW G) := by
  refine Met.ofW (cc := cX12_layTurn) (maxL := 7) (ret := (some .boolean)) (by decide) rfl ?_
  intro p e s m args below meth c s₁ B hml hv
  obtain ⟨rfl, hP, hK⟩ := hv
  have C : CX p s m ([.ref (G.2.2 172), .int v1, .int v2, .int v3] : List Value).toArray meth c cX12_layTurn 7 (wsU yX12_layTurn cX12_layTurn 7 (some .boolean)) RX12 (some .boolean) G := ⟨B.exec, B.bytes, hml, findClass_of_methodNamed B.named, atoms_spec (ws := (wsU yX12_layTurn cX12_layTurn 7 (some .boolean))) B.pre, B.returns, B.notSynchronized, hK, hG⟩
  obtain ⟨hx, hb, -, hown, hts, hr, hlocks, -, -⟩ := id C
  have hS : va_S (AW G) s.heap s.heap [] := va_S.rf
  have hl := lv_entry [.ref (G.2.2 172), .int v1, .int v2, .int v3] (n := 7) (Nat.le_of_ble_eq_true rfl)
  rw [lg_entry_eq]
  generalize (lg_sl [.ref (G.2.2 172), .int v1, .int v2, .int v3] ++ List.replicate (7 - (lg_sl [.ref (G.2.2 172), .int v1, .int v2, .int v3]).length) Slot.unset).toArray = ls at hl ⊢
  have hl : lv_has ls 7 [(0, .ref (G.2.2 172)), (1, .int v1), (2, .int v2), (3, .int v3)] := hl
  unfold fn_X12_layTurn at h
  refine lv_iload_n hx hb dX12_layTurn_0 rfl (lv_at hl 2 rfl) ?_
  refine lv_istore (lv' := [(4, .int v2), (0, .ref (G.2.2 172)), (1, .int v1), (2, .int v2), (3, .int v3)]) hx hb dX12_layTurn_1 hl (by decide) rfl (fun ls hl => ?_)
  refine lv_iconst (v := 0) hx hb dX12_layTurn_3 (by decide) ?_
  refine lv_istore (lv' := [(5, .int 0), (4, .int v2), (0, .ref (G.2.2 172)), (1, .int v1), (2, .int v2), (3, .int v3)]) hx hb dX12_layTurn_4 hl (by decide) rfl (fun ls hl => ?_)
  refine lv_iload_n hx hb dX12_layTurn_6 rfl (lv_at hl 3 rfl) ?_
  refine lv_iconst (v := 1) hx hb dX12_layTurn_7 (by decide) ?_
  refine lv_isub hx hb dX12_layTurn_8 ?_
  obtain ⟨v6_1, e_v6_1, h⟩ := nm_s h
  refine x_top e_v6_1 ?_
  refine lv_istore (lv' := [(6, .int v6_1), (5, .int 0), (4, .int v2), (0, .ref (G.2.2 172)), (1, .int v1), (2, .int v2), (3, .int v3)]) hx hb dX12_layTurn_9 hl (by decide) rfl (fun ls hl => ?_)
  exact pf_X12_layTurn_11 C   fu v3 v2 0 v6_1 z  _ _ _ hP hS (lv_sub hl [3, 6, 2, 1, 0] rfl) h
def fn_X12_order_54 (k18 : Int32 → Int32 → Int32 → Int32 → St → Option (Int32 × St)) (v1 : Int32) (v2 : Int32) (v3 : Int32) (v4 : Int32) (z : St) : Option (Int32 × St) := k18 v1 v2 v3 (v4 + 1) z
set_option maxHeartbeats 4000000 in
set_option maxRecDepth 100000 in
theorem pf_X12_order_54 {p : Program} {l : Launch} {e : Env} {s : State} {m : MethodId} {args : Array Value} {below : List Frame} {meth : Method} {c : Code} {G : wG} (C : CX p s m args meth c cX12_order 9 (wsU yX12_order cX12_order 9 (some .int)) RX12 (some .int) G) {Rz : Int32 × St} {k18 : Int32 → Int32 → Int32 → Int32 → St → Option (Int32 × St)} (hk_18 : ∀ (v1 : Int32) (v2 : Int32) (v3 : Int32) (v4 : Int32) (z : St)  (H : Heap) (locs : List Loc) (ls : Array Slot), WP G z H → va_S (AW G) s.heap H locs → lv_has ls 9 [(0, .ref (G.2.2 172)), (1, .int v1), (2, .int v2), (3, .int v3), (4, .int v4)] → k18 v1 v2 v3 v4 z = some Rz → W p l e (rmd 6) s m args below meth c H locs 0 0 (QI below args s G Rz) (F0 m 18 ls [])) (v1 : Int32) (v2 : Int32) (v3 : Int32) (v4 : Int32) (z : St)  {H : Heap} {locs : List Loc} {ls : Array Slot} (hP : WP G z H) (hS : va_S (AW G) s.heap H locs) (hl : lv_has ls 9 [(0, .ref (G.2.2 172)), (1, .int v1), (2, .int v2), (3, .int v3), (4, .int v4)]) (h : fn_X12_order_54  k18 v1 v2 v3 v4 z = some Rz) : W p l e (rmd 6) s m args below meth c H locs 0 0 (QI below args s G Rz) (F0 m 54 ls []) := by
  obtain ⟨hx, hb, hml, hown, hts, hr, hlocks, hK, hG⟩ := id C
  unfold fn_X12_order_54 at h
  refine lv_iinc (v := (v4 + 1)) (lv' := [(4, .int (v4 + 1)), (0, .ref (G.2.2 172)), (1, .int v1), (2, .int v2), (3, .int v3)]) hx hb dX12_order_54 hl (k := 4) rfl rfl (by decide) rfl (fun ls hl => ?_)
  refine lv_goto (tgt := 18) hx hb dX12_order_57 (by decide) ?_
  exact hk_18 v1 v2 v3 (v4 + 1) z  _ _ _ hP hS (lv_sub hl [1, 2, 3, 4, 0] rfl) h
def fn_X12_order_157 (k79 : Int32 → Int32 → Int32 → Int32 → Int32 → Int32 → St → Option (Int32 × St)) (v1 : Int32) (v2 : Int32) (v3 : Int32) (v4 : Int32) (v5 : Int32) (v6 : Int32) (z : St) : Option (Int32 × St) := k79 v1 v2 v3 v4 v5 (v6 + 1) z
set_option maxHeartbeats 4000000 in
set_option maxRecDepth 100000 in
theorem pf_X12_order_157 {p : Program} {l : Launch} {e : Env} {s : State} {m : MethodId} {args : Array Value} {below : List Frame} {meth : Method} {c : Code} {G : wG} (C : CX p s m args meth c cX12_order 9 (wsU yX12_order cX12_order 9 (some .int)) RX12 (some .int) G) {Rz : Int32 × St} {k79 : Int32 → Int32 → Int32 → Int32 → Int32 → Int32 → St → Option (Int32 × St)} (hk_79 : ∀ (v1 : Int32) (v2 : Int32) (v3 : Int32) (v4 : Int32) (v5 : Int32) (v6 : Int32) (z : St)  (H : Heap) (locs : List Loc) (ls : Array Slot), WP G z H → va_S (AW G) s.heap H locs → lv_has ls 9 [(0, .ref (G.2.2 172)), (1, .int v1), (2, .int v2), (3, .int v3), (4, .int v4), (5, .int v5), (6, .int v6)] → k79 v1 v2 v3 v4 v5 v6 z = some Rz → W p l e (rmd 6) s m args below meth c H locs 0 0 (QI below args s G Rz) (F0 m 79 ls [])) (v1 : Int32) (v2 : Int32) (v3 : Int32) (v4 : Int32) (v5 : Int32) (v6 : Int32) (z : St)  {H : Heap} {locs : List Loc} {ls : Array Slot} (hP : WP G z H) (hS : va_S (AW G) s.heap H locs) (hl : lv_has ls 9 [(0, .ref (G.2.2 172)), (1, .int v1), (2, .int v2), (3, .int v3), (4, .int v4), (5, .int v5), (6, .int v6)]) (h : fn_X12_order_157  k79 v1 v2 v3 v4 v5 v6 z = some Rz) : W p l e (rmd 6) s m args below meth c H locs 0 0 (QI below args s G Rz) (F0 m 157 ls []) := by
  obtain ⟨hx, hb, hml, hown, hts, hr, hlocks, hK, hG⟩ := id C
  unfold fn_X12_order_157 at h
  refine lv_iinc (v := (v6 + 1)) (lv' := [(6, .int (v6 + 1)), (0, .ref (G.2.2 172)), (1, .int v1), (2, .int v2), (3, .int v3), (4, .int v4), (5, .int v5)]) hx hb dX12_order_157 hl (k := 6) rfl rfl (by decide) rfl (fun ls hl => ?_)
  refine lv_goto (tgt := 79) hx hb dX12_order_160 (by decide) ?_
  exact hk_79 v1 v2 v3 v4 v5 (v6 + 1) z  _ _ _ hP hS (lv_sub hl [1, 2, 3, 4, 5, 6, 0] rfl) h
def fn_X12_order_131 (k79 : Int32 → Int32 → Int32 → Int32 → Int32 → Int32 → St → Option (Int32 × St)) : Nat → Int32 → Int32 → Int32 → Int32 → Int32 → Int32 → Int32 → St → Option (Int32 × St)
  | 0, _, _, _, _, _, _, _, _ => none
  | n + 1, v1, v2, v3, v4, v5, v6, v8, z => (if v2 ≤ v8 then fn_X12_order_157  k79 v1 v2 v3 v4 v5 v6 z else gd (ix v8 6) (gd (ix v8 6) (nm (sI z 204 (Int32.toNatClampNeg v8) (z.1 203 (Int32.toNatClampNeg v8))) (fun z4 => fn_X12_order_131  k79 n v1 v2 v3 v4 v5 v6 (v8 + 1) z4))))
set_option maxHeartbeats 4000000 in
set_option maxRecDepth 100000 in
theorem pf_X12_order_131 {p : Program} {l : Launch} {e : Env} {s : State} {m : MethodId} {args : Array Value} {below : List Frame} {meth : Method} {c : Code} {G : wG} (C : CX p s m args meth c cX12_order 9 (wsU yX12_order cX12_order 9 (some .int)) RX12 (some .int) G) {Rz : Int32 × St} {k79 : Int32 → Int32 → Int32 → Int32 → Int32 → Int32 → St → Option (Int32 × St)} (hk_79 : ∀ (v1 : Int32) (v2 : Int32) (v3 : Int32) (v4 : Int32) (v5 : Int32) (v6 : Int32) (z : St)  (H : Heap) (locs : List Loc) (ls : Array Slot), WP G z H → va_S (AW G) s.heap H locs → lv_has ls 9 [(0, .ref (G.2.2 172)), (1, .int v1), (2, .int v2), (3, .int v3), (4, .int v4), (5, .int v5), (6, .int v6)] → k79 v1 v2 v3 v4 v5 v6 z = some Rz → W p l e (rmd 6) s m args below meth c H locs 0 0 (QI below args s G Rz) (F0 m 79 ls [])) : ∀ (n : Nat) (v1 : Int32) (v2 : Int32) (v3 : Int32) (v4 : Int32) (v5 : Int32) (v6 : Int32) (v8 : Int32) (z : St)  (H : Heap) (locs : List Loc) (ls : Array Slot), WP G z H → va_S (AW G) s.heap H locs → lv_has ls 9 [(0, .ref (G.2.2 172)), (1, .int v1), (2, .int v2), (3, .int v3), (4, .int v4), (5, .int v5), (6, .int v6), (8, .int v8)] → fn_X12_order_131  k79 n v1 v2 v3 v4 v5 v6 v8 z = some Rz → W p l e (rmd 6) s m args below meth c H locs 0 0 (QI below args s G Rz) (F0 m 131 ls []) := by
  obtain ⟨hx, hb, hml, hown, hts, hr, hlocks, hK, hG⟩ := id C
  intro n
  induction n with
  | zero => intro v1 v2 v3 v4 v5 v6 v8 z  H locs ls hP hS hl h; cases h
  | succ n ih =>
    intro v1 v2 v3 v4 v5 v6 v8 z  H locs ls hP hS hl h
    rw [fn_X12_order_131] at h
    refine lv_iload hx hb dX12_order_131 (lv_at hl 7 rfl) ?_
    refine lv_iload_n hx hb dX12_order_133 rfl (lv_at hl 2 rfl) ?_
    refine lv_icmp_ge (tgt := 157) hx hb dX12_order_134 (by decide) (fun c1 => ?_) (fun c1 => ?_)
    · rw [if_pos c1] at h
      exact pf_X12_order_157 C  hk_79 v1 v2 v3 v4 v5 v6 z  hP hS (lv_sub hl [0, 1, 2, 3, 4, 5, 6] rfl) h
    · rw [if_neg c1] at h
      refine lv_aload_n hx hb dX12_order_137 rfl (lv_at hl 0 rfl) ?_
      refine ge_12_63 hx hb hts (inU inW_X12) hown hK hP k_172 (hts _ (List.mem_cons_of_mem _ lw_1497)) dX12_order_138 ?_
      refine lv_iload hx hb dX12_order_141 (lv_at hl 7 rfl) ?_
      refine lv_aload_n hx hb dX12_order_143 rfl (lv_at hl 0 rfl) ?_
      refine ge_12_62 hx hb hts (inU inW_X12) hown hK hP k_172 (hts _ (List.mem_cons_of_mem _ lw_1496)) dX12_order_144 ?_
      refine lv_iload hx hb dX12_order_147 (lv_at hl 7 rfl) ?_
      obtain ⟨g2, h⟩ := gd_s h
      refine xl_14 hx hb hK hP k_203 l_203 (ix_in g2) dX12_order_149 ?_
      obtain ⟨g3, h⟩ := gd_s h
      obtain ⟨z4, e_z4, h⟩ := nm_s h
      refine xs_14 hx hb hK hG hP hS k_204 l_204 (ix_in g3) dX12_order_150 (fun H locs hP hS => ?_)
      rw [← e_z4] at hP
      refine lv_iinc (v := (v8 + 1)) (lv' := [(8, .int (v8 + 1)), (0, .ref (G.2.2 172)), (1, .int v1), (2, .int v2), (3, .int v3), (4, .int v4), (5, .int v5), (6, .int v6)]) hx hb dX12_order_151 hl (k := 7) rfl rfl (by decide) rfl (fun ls hl => ?_)
      refine lv_goto (tgt := 131) hx hb dX12_order_154 (by decide) ?_
      exact ih v1 v2 v3 v4 v5 v6 (v8 + 1) z4  _ _ _ hP hS (lv_sub hl [1, 2, 3, 4, 5, 6, 7, 0] rfl) h
def fn_X12_order_121 (k79 : Int32 → Int32 → Int32 → Int32 → Int32 → Int32 → St → Option (Int32 × St)) (v1 : Int32) (v2 : Int32) (v3 : Int32) (v6 : Int32) (v7 : Int32) (z : St) : Option (Int32 × St) := fn_X12_order_131  k79 fu v1 v2 v3 v7 1 v6 0 z
set_option maxHeartbeats 4000000 in
set_option maxRecDepth 100000 in
theorem pf_X12_order_121 {p : Program} {l : Launch} {e : Env} {s : State} {m : MethodId} {args : Array Value} {below : List Frame} {meth : Method} {c : Code} {G : wG} (C : CX p s m args meth c cX12_order 9 (wsU yX12_order cX12_order 9 (some .int)) RX12 (some .int) G) {Rz : Int32 × St} {k79 : Int32 → Int32 → Int32 → Int32 → Int32 → Int32 → St → Option (Int32 × St)} (hk_79 : ∀ (v1 : Int32) (v2 : Int32) (v3 : Int32) (v4 : Int32) (v5 : Int32) (v6 : Int32) (z : St)  (H : Heap) (locs : List Loc) (ls : Array Slot), WP G z H → va_S (AW G) s.heap H locs → lv_has ls 9 [(0, .ref (G.2.2 172)), (1, .int v1), (2, .int v2), (3, .int v3), (4, .int v4), (5, .int v5), (6, .int v6)] → k79 v1 v2 v3 v4 v5 v6 z = some Rz → W p l e (rmd 6) s m args below meth c H locs 0 0 (QI below args s G Rz) (F0 m 79 ls [])) (v1 : Int32) (v2 : Int32) (v3 : Int32) (v6 : Int32) (v7 : Int32) (z : St)  {H : Heap} {locs : List Loc} {ls : Array Slot} (hP : WP G z H) (hS : va_S (AW G) s.heap H locs) (hl : lv_has ls 9 [(0, .ref (G.2.2 172)), (1, .int v1), (2, .int v2), (3, .int v3), (6, .int v6), (7, .int v7)]) (h : fn_X12_order_121  k79 v1 v2 v3 v6 v7 z = some Rz) : W p l e (rmd 6) s m args below meth c H locs 0 0 (QI below args s G Rz) (F0 m 121 ls []) := by
  obtain ⟨hx, hb, hml, hown, hts, hr, hlocks, hK, hG⟩ := id C
  unfold fn_X12_order_121 at h
  refine lv_iconst (v := 1) hx hb dX12_order_121 (by decide) ?_
  refine lv_istore (lv' := [(5, .int 1), (0, .ref (G.2.2 172)), (1, .int v1), (2, .int v2), (3, .int v3), (6, .int v6), (7, .int v7)]) hx hb dX12_order_122 hl (by decide) rfl (fun ls hl => ?_)
  refine lv_iload hx hb dX12_order_124 (lv_at hl 6 rfl) ?_
  refine lv_istore (lv' := [(4, .int v7), (5, .int 1), (0, .ref (G.2.2 172)), (1, .int v1), (2, .int v2), (3, .int v3), (6, .int v6), (7, .int v7)]) hx hb dX12_order_126 hl (by decide) rfl (fun ls hl => ?_)
  refine lv_iconst (v := 0) hx hb dX12_order_128 (by decide) ?_
  refine lv_istore (lv' := [(8, .int 0), (4, .int v7), (5, .int 1), (0, .ref (G.2.2 172)), (1, .int v1), (2, .int v2), (3, .int v3), (6, .int v6), (7, .int v7)]) hx hb dX12_order_129 hl (by decide) rfl (fun ls hl => ?_)
  exact pf_X12_order_131 C  hk_79 fu v1 v2 v3 v7 1 v6 0 z  _ _ _ hP hS (lv_sub hl [3, 4, 5, 6, 1, 2, 7, 0] rfl) h
def fn_X12_order_166 : Nat → Int32 → Int32 → Int32 → St → Option (Int32 × St)
  | 0, _, _, _, _ => none
  | n + 1, v2, v4, v6, z => (if v2 ≤ v6 then nm (sI z 172 65 v2) (fun z2 => some (v4, z2)) else gd (ix v6 6) (gd (ix v6 6) (nm (sI z 205 (Int32.toNatClampNeg v6) (z.1 204 (Int32.toNatClampNeg v6))) (fun z5 => fn_X12_order_166   n v2 v4 (v6 + 1) z5))))
set_option maxHeartbeats 4000000 in
set_option maxRecDepth 100000 in
theorem pf_X12_order_166 {p : Program} {l : Launch} {e : Env} {s : State} {m : MethodId} {args : Array Value} {below : List Frame} {meth : Method} {c : Code} {G : wG} (C : CX p s m args meth c cX12_order 9 (wsU yX12_order cX12_order 9 (some .int)) RX12 (some .int) G) {Rz : Int32 × St} : ∀ (n : Nat) (v2 : Int32) (v4 : Int32) (v6 : Int32) (z : St)  (H : Heap) (locs : List Loc) (ls : Array Slot), WP G z H → va_S (AW G) s.heap H locs → lv_has ls 9 [(0, .ref (G.2.2 172)), (2, .int v2), (4, .int v4), (6, .int v6)] → fn_X12_order_166   n v2 v4 v6 z = some Rz → W p l e (rmd 6) s m args below meth c H locs 0 0 (QI below args s G Rz) (F0 m 166 ls []) := by
  obtain ⟨hx, hb, hml, hown, hts, hr, hlocks, hK, hG⟩ := id C
  intro n
  induction n with
  | zero => intro v2 v4 v6 z  H locs ls hP hS hl h; cases h
  | succ n ih =>
    intro v2 v4 v6 z  H locs ls hP hS hl h
    rw [fn_X12_order_166] at h
    refine lv_iload hx hb dX12_order_166 (lv_at hl 3 rfl) ?_
    refine lv_iload_n hx hb dX12_order_168 rfl (lv_at hl 1 rfl) ?_
    refine lv_icmp_ge (tgt := 192) hx hb dX12_order_169 (by decide) (fun c1 => ?_) (fun c1 => ?_)
    · rw [if_pos c1] at h
      refine lv_aload_n hx hb dX12_order_192 rfl (lv_at hl 0 rfl) ?_
      refine lv_iload_n hx hb dX12_order_193 rfl (lv_at hl 1 rfl) ?_
      obtain ⟨z2, e_z2, h⟩ := nm_s h
      refine pu_12_65 hx hb hts (inU inW_X12) hown hK hG hP hS k_172 (hts _ (List.mem_cons_of_mem _ lw_1499)) dX12_order_194 (fun H locs hP hS => ?_)
      rw [← e_z2] at hP
      refine lv_iload hx hb dX12_order_197 (lv_at hl 2 rfl) ?_
      exact x_iret hx hb hr hlocks hK hP hS h dX12_order_199
    · rw [if_neg c1] at h
      refine lv_aload_n hx hb dX12_order_172 rfl (lv_at hl 0 rfl) ?_
      refine ge_12_64 hx hb hts (inU inW_X12) hown hK hP k_172 (hts _ (List.mem_cons_of_mem _ lw_1498)) dX12_order_173 ?_
      refine lv_iload hx hb dX12_order_176 (lv_at hl 3 rfl) ?_
      refine lv_aload_n hx hb dX12_order_178 rfl (lv_at hl 0 rfl) ?_
      refine ge_12_63 hx hb hts (inU inW_X12) hown hK hP k_172 (hts _ (List.mem_cons_of_mem _ lw_1497)) dX12_order_179 ?_
      refine lv_iload hx hb dX12_order_182 (lv_at hl 3 rfl) ?_
      obtain ⟨g3, h⟩ := gd_s h
      refine xl_14 hx hb hK hP k_204 l_204 (ix_in g3) dX12_order_184 ?_
      obtain ⟨g4, h⟩ := gd_s h
      obtain ⟨z5, e_z5, h⟩ := nm_s h
      refine xs_14 hx hb hK hG hP hS k_205 l_205 (ix_in g4) dX12_order_185 (fun H locs hP hS => ?_)
      rw [← e_z5] at hP
      refine lv_iinc (v := (v6 + 1)) (lv' := [(6, .int (v6 + 1)), (0, .ref (G.2.2 172)), (2, .int v2), (4, .int v4)]) hx hb dX12_order_186 hl (k := 3) rfl rfl (by decide) rfl (fun ls hl => ?_)
      refine lv_goto (tgt := 166) hx hb dX12_order_189 (by decide) ?_
      exact ih v2 v4 (v6 + 1) z5  _ _ _ hP hS (lv_sub hl [1, 2, 3, 0] rfl) h
def fn_X12_order_79 : Nat → Int32 → Int32 → Int32 → Int32 → Int32 → Int32 → St → Option (Int32 × St)
  | 0, _, _, _, _, _, _, _ => none
  | n + 1, v1, v2, v3, v4, v5, v6, z => (if v3 ≤ v6 then fn_X12_order_166   fu v2 v4 0 z else bd (fn_X12_layTurn  v2 v6 v1 z) (fun r3 z4 => (if r3 = 0 then fn_X12_order_157  (fn_X12_order_79   n) v1 v2 v3 v4 v5 v6 z4 else bd (fn_X12_leastBy  v2 z4) (fun r7 z8 => (if v5 = 0 then fn_X12_order_121  (fn_X12_order_79   n) v1 v2 v3 v6 r7 z8 else (if v4 < r7 then fn_X12_order_121  (fn_X12_order_79   n) v1 v2 v3 v6 r7 z8 else fn_X12_order_157  (fn_X12_order_79   n) v1 v2 v3 v4 v5 v6 z8))))))
set_option maxHeartbeats 4000000 in
set_option maxRecDepth 100000 in
theorem pf_X12_order_79 {p : Program} {l : Launch} {e : Env} {s : State} {m : MethodId} {args : Array Value} {below : List Frame} {meth : Method} {c : Code} {G : wG} (C : CX p s m args meth c cX12_order 9 (wsU yX12_order cX12_order 9 (some .int)) RX12 (some .int) G) {Rz : Int32 × St} : ∀ (n : Nat) (v1 : Int32) (v2 : Int32) (v3 : Int32) (v4 : Int32) (v5 : Int32) (v6 : Int32) (z : St)  (H : Heap) (locs : List Loc) (ls : Array Slot), WP G z H → va_S (AW G) s.heap H locs → lv_has ls 9 [(0, .ref (G.2.2 172)), (1, .int v1), (2, .int v2), (3, .int v3), (4, .int v4), (5, .int v5), (6, .int v6)] → fn_X12_order_79   n v1 v2 v3 v4 v5 v6 z = some Rz → W p l e (rmd 6) s m args below meth c H locs 0 0 (QI below args s G Rz) (F0 m 79 ls []) := by
  obtain ⟨hx, hb, hml, hown, hts, hr, hlocks, hK, hG⟩ := id C
  intro n
  induction n with
  | zero => intro v1 v2 v3 v4 v5 v6 z  H locs ls hP hS hl h; cases h
  | succ n ih =>
    intro v1 v2 v3 v4 v5 v6 z  H locs ls hP hS hl h
    rw [fn_X12_order_79] at h
    refine lv_iload hx hb dX12_order_79 (lv_at hl 6 rfl) ?_
    refine lv_iload_n hx hb dX12_order_81 rfl (lv_at hl 3 rfl) ?_
    refine lv_icmp_ge (tgt := 163) hx hb dX12_order_82 (by decide) (fun c1 => ?_) (fun c1 => ?_)
    · rw [if_pos c1] at h
      refine lv_iconst (v := 0) hx hb dX12_order_163 (by decide) ?_
      refine lv_istore (lv' := [(6, .int 0), (0, .ref (G.2.2 172)), (1, .int v1), (2, .int v2), (3, .int v3), (4, .int v4), (5, .int v5)]) hx hb dX12_order_164 hl (by decide) rfl (fun ls hl => ?_)
      exact pf_X12_order_166 C   fu v2 v4 0 z  _ _ _ hP hS (lv_sub hl [1, 3, 5, 0] rfl) h
    · rw [if_neg c1] at h
      refine lv_aload_n hx hb dX12_order_85 rfl (lv_at hl 0 rfl) ?_
      refine lv_iload_n hx hb dX12_order_86 rfl (lv_at hl 2 rfl) ?_
      refine lv_iload hx hb dX12_order_87 (lv_at hl 6 rfl) ?_
      refine lv_iload_n hx hb dX12_order_89 rfl (lv_at hl 1 rfl) ?_
      obtain ⟨r3, z4, h2, h⟩ := bd_s h
      refine x_Vi (Rz := (r3, z4)) (As := [.int v2, .int v6, .int v1]) (rest := []) ⟨hx, hb, hml, hown, hts⟩ hK hP hS (kd_lt k_172 (by decide)) (cell_12 k_172) rfl (m_X12_layTurn hG   h2) (cwV 3 hts (gV lw_2004 lw_2006 lw_95 lw_125 lw_2007) rfl rfl rfl (by decide +kernel) (rmd_ok (by decide) (by decide))) rfl hl.1 rfl (Nat.le_of_ble_eq_true rfl) dX12_order_90 ⟨Nat.le_refl _, Nat.le_refl _⟩ (fun H locs hP hS => ?_)
      refine lv_if_ne (tgt := 99) hx hb dX12_order_93 (by decide) (fun c5 => ?_) (fun c5 => ?_)
      · rw [if_neg c5] at h
        refine lv_aload_n hx hb dX12_order_99 rfl (lv_at hl 0 rfl) ?_
        refine lv_iload_n hx hb dX12_order_100 rfl (lv_at hl 2 rfl) ?_
        obtain ⟨r7, z8, h6, h⟩ := bd_s h
        refine x_Vi (Rz := (r7, z8)) (As := [.int v2]) (rest := []) ⟨hx, hb, hml, hown, hts⟩ hK hP hS (kd_lt k_172 (by decide)) (cell_12 k_172) rfl (m_X12_leastBy hG   h6) (cwV 1 hts (gV lw_2008 lw_2010 lw_96 lw_125 lw_2011) rfl rfl rfl (by decide +kernel) (rmd_ok (by decide) (by decide))) rfl hl.1 rfl (Nat.le_of_ble_eq_true rfl) dX12_order_101 ⟨Nat.le_refl _, Nat.le_refl _⟩ (fun H locs hP hS => ?_)
        refine lv_istore (lv' := [(7, .int r7), (0, .ref (G.2.2 172)), (1, .int v1), (2, .int v2), (3, .int v3), (4, .int v4), (5, .int v5), (6, .int v6)]) hx hb dX12_order_104 hl (by decide) rfl (fun ls hl => ?_)
        refine lv_iload hx hb dX12_order_106 (lv_at hl 6 rfl) ?_
        refine lv_if_eq (tgt := 121) hx hb dX12_order_108 (by decide) (fun c9 => ?_) (fun c9 => ?_)
        · rw [if_pos c9] at h
          exact pf_X12_order_121 C  ih v1 v2 v3 v6 r7 z8  hP hS (lv_sub hl [1, 2, 3, 4, 7, 0] rfl) h
        · rw [if_neg c9] at h
          refine lv_iload hx hb dX12_order_111 (lv_at hl 0 rfl) ?_
          refine lv_iload hx hb dX12_order_113 (lv_at hl 5 rfl) ?_
          refine lv_icmp_gt (tgt := 121) hx hb dX12_order_115 (by decide) (fun c10 => ?_) (fun c10 => ?_)
          · rw [if_pos c10] at h
            exact pf_X12_order_121 C  ih v1 v2 v3 v6 r7 z8  hP hS (lv_sub hl [1, 2, 3, 4, 7, 0] rfl) h
          · rw [if_neg c10] at h
            refine lv_goto (tgt := 157) hx hb dX12_order_118 (by decide) ?_
            exact pf_X12_order_157 C  ih v1 v2 v3 v4 v5 v6 z8  hP hS (lv_sub hl [1, 2, 3, 4, 5, 6, 7] rfl) h
      · rw [if_pos c5] at h
        refine lv_goto (tgt := 157) hx hb dX12_order_96 (by decide) ?_
        exact pf_X12_order_157 C  ih v1 v2 v3 v4 v5 v6 z4  hP hS (lv_sub hl [0, 1, 2, 3, 4, 5, 6] rfl) h
def fn_X12_order_18 : Nat → Int32 → Int32 → Int32 → Int32 → St → Option (Int32 × St)
  | 0, _, _, _, _, _ => none
  | n + 1, v1, v2, v3, v4, z => (if (z.1 172 44) ≤ v4 then (if v2 = 0 then some ((-1000000000), z) else fn_X12_order_79   fu v1 v2 v3 (-1000000000) 0 0 z) else bd (fn_X12_pieceOf  v4 z) (fun r4 z5 => (if r4 < 0 then nm (v1 ||| (1 <<< (v4 &&& 31))) (fun v1_7 => nm (v3 * 6) (fun v3_8 => fn_X12_order_54  (fn_X12_order_18   n) v1_7 (v2 + 1) v3_8 v4 z5)) else fn_X12_order_54  (fn_X12_order_18   n) v1 v2 v3 v4 z5)))
set_option maxHeartbeats 4000000 in
set_option maxRecDepth 100000 in
theorem pf_X12_order_18 {p : Program} {l : Launch} {e : Env} {s : State} {m : MethodId} {args : Array Value} {below : List Frame} {meth : Method} {c : Code} {G : wG} (C : CX p s m args meth c cX12_order 9 (wsU yX12_order cX12_order 9 (some .int)) RX12 (some .int) G) {Rz : Int32 × St} : ∀ (n : Nat) (v1 : Int32) (v2 : Int32) (v3 : Int32) (v4 : Int32) (z : St)  (H : Heap) (locs : List Loc) (ls : Array Slot), WP G z H → va_S (AW G) s.heap H locs → lv_has ls 9 [(0, .ref (G.2.2 172)), (1, .int v1), (2, .int v2), (3, .int v3), (4, .int v4)] → fn_X12_order_18   n v1 v2 v3 v4 z = some Rz → W p l e (rmd 6) s m args below meth c H locs 0 0 (QI below args s G Rz) (F0 m 18 ls []) := by
  obtain ⟨hx, hb, hml, hown, hts, hr, hlocks, hK, hG⟩ := id C
  intro n
  induction n with
  | zero => intro v1 v2 v3 v4 z  H locs ls hP hS hl h; cases h
  | succ n ih =>
    intro v1 v2 v3 v4 z  H locs ls hP hS hl h
    rw [fn_X12_order_18] at h
    refine lv_iload hx hb dX12_order_18 (lv_at hl 4 rfl) ?_
    refine lv_aload_n hx hb dX12_order_20 rfl (lv_at hl 0 rfl) ?_
    refine ge_12_44 hx hb hts (inU inW_X12) hown hK hP k_172 (hts _ (List.mem_cons_of_mem _ lw_1478)) dX12_order_21 ?_
    refine lv_icmp_ge (tgt := 60) hx hb dX12_order_24 (by decide) (fun c1 => ?_) (fun c1 => ?_)
    · rw [if_pos c1] at h
      refine lv_iload_n hx hb dX12_order_60 rfl (lv_at hl 2 rfl) ?_
      refine lv_if_ne (tgt := 68) hx hb dX12_order_61 (by decide) (fun c2 => ?_) (fun c2 => ?_)
      · rw [if_neg c2] at h
        refine lv_ldcw (v := (-1000000000)) hx hb hown (hts _ (List.mem_cons_of_mem _ lw_1876)) dX12_order_68 ?_
        refine lv_istore (lv' := [(4, .int (-1000000000)), (0, .ref (G.2.2 172)), (1, .int v1), (2, .int v2), (3, .int v3)]) hx hb dX12_order_71 hl (by decide) rfl (fun ls hl => ?_)
        refine lv_iconst (v := 0) hx hb dX12_order_73 (by decide) ?_
        refine lv_istore (lv' := [(5, .int 0), (4, .int (-1000000000)), (0, .ref (G.2.2 172)), (1, .int v1), (2, .int v2), (3, .int v3)]) hx hb dX12_order_74 hl (by decide) rfl (fun ls hl => ?_)
        refine lv_iconst (v := 0) hx hb dX12_order_76 (by decide) ?_
        refine lv_istore (lv' := [(6, .int 0), (5, .int 0), (4, .int (-1000000000)), (0, .ref (G.2.2 172)), (1, .int v1), (2, .int v2), (3, .int v3)]) hx hb dX12_order_77 hl (by decide) rfl (fun ls hl => ?_)
        exact pf_X12_order_79 C   fu v1 v2 v3 (-1000000000) 0 0 z  _ _ _ hP hS (lv_sub hl [3, 4, 5, 6, 2, 1, 0] rfl) h
      · rw [if_pos c2] at h
        refine lv_ldcw (v := (-1000000000)) hx hb hown (hts _ (List.mem_cons_of_mem _ lw_1876)) dX12_order_64 ?_
        exact x_iret hx hb hr hlocks hK hP hS h dX12_order_67
    · rw [if_neg c1] at h
      refine lv_aload_n hx hb dX12_order_27 rfl (lv_at hl 0 rfl) ?_
      refine lv_iload hx hb dX12_order_28 (lv_at hl 4 rfl) ?_
      obtain ⟨r4, z5, h3, h⟩ := bd_s h
      refine x_Vi (Rz := (r4, z5)) (As := [.int v4]) (rest := []) ⟨hx, hb, hml, hown, hts⟩ hK hP hS (kd_lt k_172 (by decide)) (cell_12 k_172) rfl (m_X12_pieceOf hG   h3) (cwV 1 hts (gV lw_1853 lw_1855 lw_77 lw_125 lw_1856) rfl rfl rfl (by decide +kernel) (rmd_ok (by decide) (by decide))) rfl hl.1 rfl (Nat.le_of_ble_eq_true rfl) dX12_order_30 ⟨Nat.le_refl _, Nat.le_refl _⟩ (fun H locs hP hS => ?_)
      refine lv_if_lt (tgt := 39) hx hb dX12_order_33 (by decide) (fun c6 => ?_) (fun c6 => ?_)
      · rw [if_pos c6] at h
        refine lv_iload_n hx hb dX12_order_39 rfl (lv_at hl 1 rfl) ?_
        refine lv_iconst (v := 1) hx hb dX12_order_40 (by decide) ?_
        refine lv_iload hx hb dX12_order_41 (lv_at hl 4 rfl) ?_
        refine lv_ishl hx hb dX12_order_43 ?_
        refine lv_ior hx hb dX12_order_44 ?_
        obtain ⟨v1_7, e_v1_7, h⟩ := nm_s h
        refine x_top e_v1_7 ?_
        refine lv_istore_n (lv' := [(1, .int v1_7), (0, .ref (G.2.2 172)), (2, .int v2), (3, .int v3), (4, .int v4)]) hx hb dX12_order_45 rfl hl (by decide) rfl (fun ls hl => ?_)
        refine lv_iinc (v := (v2 + 1)) (lv' := [(2, .int (v2 + 1)), (1, .int v1_7), (0, .ref (G.2.2 172)), (3, .int v3), (4, .int v4)]) hx hb dX12_order_46 hl (k := 2) rfl rfl (by decide) rfl (fun ls hl => ?_)
        refine lv_iload_n hx hb dX12_order_49 rfl (lv_at hl 3 rfl) ?_
        refine lv_bipush (v := 6) hx hb dX12_order_50 (by decide) ?_
        refine lv_imul hx hb dX12_order_52 ?_
        obtain ⟨v3_8, e_v3_8, h⟩ := nm_s h
        refine x_top e_v3_8 ?_
        refine lv_istore_n (lv' := [(3, .int v3_8), (2, .int (v2 + 1)), (1, .int v1_7), (0, .ref (G.2.2 172)), (4, .int v4)]) hx hb dX12_order_53 rfl hl (by decide) rfl (fun ls hl => ?_)
        exact pf_X12_order_54 C  ih v1_7 (v2 + 1) v3_8 v4 z5  hP hS (lv_sub hl [3, 2, 1, 0, 4] rfl) h
      · rw [if_neg c6] at h
        refine lv_goto (tgt := 54) hx hb dX12_order_36 (by decide) ?_
        exact pf_X12_order_54 C  ih v1 v2 v3 v4 z5  hP hS (lv_sub hl [0, 1, 2, 3, 4] rfl) h
def fn_X12_order  (z : St) : Option (Int32 × St) := nm (sI z 172 65 0) (fun z1 => bv (fn_X12_layWorths   z1) (fun z3 => fn_X12_order_18   fu 0 0 1 0 z3))
set_option maxHeartbeats 4000000 in
set_option maxRecDepth 100000 in
theorem m_X12_order {l : Launch} {G : wG} (hG : Ok G)  {z : St} {Rz : Int32 × St}  (h : fn_X12_order   z = some Rz) : Met l yX12_order (wsU yX12_order cX12_order 9 (some .int)) (rmd 6) (va_Pc [.ref (G.2.2 172)] (Pre G z)) (va_Qi (fun r u => (r, u) = Rz) (Pre G) (AW G)) 0 0 (AW G) := by
  refine Met.ofW (cc := cX12_order) (maxL := 9) (ret := (some .int)) (by decide) rfl ?_
  intro p e s m args below meth c s₁ B hml hv
  obtain ⟨rfl, hP, hK⟩ := hv
  have C : CX p s m ([.ref (G.2.2 172)] : List Value).toArray meth c cX12_order 9 (wsU yX12_order cX12_order 9 (some .int)) RX12 (some .int) G := ⟨B.exec, B.bytes, hml, findClass_of_methodNamed B.named, atoms_spec (ws := (wsU yX12_order cX12_order 9 (some .int))) B.pre, B.returns, B.notSynchronized, hK, hG⟩
  obtain ⟨hx, hb, -, hown, hts, hr, hlocks, -, -⟩ := id C
  have hS : va_S (AW G) s.heap s.heap [] := va_S.rf
  have hl := lv_entry [.ref (G.2.2 172)] (n := 9) (Nat.le_of_ble_eq_true rfl)
  rw [lg_entry_eq]
  generalize (lg_sl [.ref (G.2.2 172)] ++ List.replicate (9 - (lg_sl [.ref (G.2.2 172)]).length) Slot.unset).toArray = ls at hl ⊢
  have hl : lv_has ls 9 [(0, .ref (G.2.2 172))] := hl
  unfold fn_X12_order at h
  refine lv_aload_n hx hb dX12_order_0 rfl (lv_at hl 0 rfl) ?_
  refine lv_iconst (v := 0) hx hb dX12_order_1 (by decide) ?_
  obtain ⟨z1, e_z1, h⟩ := nm_s h
  refine pu_12_65 hx hb hts (inU inW_X12) hown hK hG hP hS k_172 (hts _ (List.mem_cons_of_mem _ lw_1499)) dX12_order_2 (fun H locs hP hS => ?_)
  rw [← e_z1] at hP
  refine lv_aload_n hx hb dX12_order_5 rfl (lv_at hl 0 rfl) ?_
  obtain ⟨z3, h2, h⟩ := bv_s h
  refine x_Vv (Rz := z3) (As := []) (rest := []) ⟨hx, hb, hml, hown, hts⟩ hK hP hS (kd_lt k_172 (by decide)) (cell_12 k_172) rfl (m_X12_layWorths hG   h2) (cwV 0 hts (gV lw_1992 lw_1994 lw_93 lw_125 lw_1995) rfl rfl rfl (by decide +kernel) (rmd_ok (by decide) (by decide))) rfl hl.1 rfl (Nat.le_of_ble_eq_true rfl) dX12_order_6 ⟨Nat.le_refl _, Nat.le_refl _⟩ (fun H locs hP hS => ?_)
  refine lv_iconst (v := 0) hx hb dX12_order_9 (by decide) ?_
  refine lv_istore_n (lv' := [(1, .int 0), (0, .ref (G.2.2 172))]) hx hb dX12_order_10 rfl hl (by decide) rfl (fun ls hl => ?_)
  refine lv_iconst (v := 0) hx hb dX12_order_11 (by decide) ?_
  refine lv_istore_n (lv' := [(2, .int 0), (1, .int 0), (0, .ref (G.2.2 172))]) hx hb dX12_order_12 rfl hl (by decide) rfl (fun ls hl => ?_)
  refine lv_iconst (v := 1) hx hb dX12_order_13 (by decide) ?_
  refine lv_istore_n (lv' := [(3, .int 1), (2, .int 0), (1, .int 0), (0, .ref (G.2.2 172))]) hx hb dX12_order_14 rfl hl (by decide) rfl (fun ls hl => ?_)
  refine lv_iconst (v := 0) hx hb dX12_order_15 (by decide) ?_
  refine lv_istore (lv' := [(4, .int 0), (3, .int 1), (2, .int 0), (1, .int 0), (0, .ref (G.2.2 172))]) hx hb dX12_order_16 hl (by decide) rfl (fun ls hl => ?_)
  exact pf_X12_order_18 C   fu 0 0 1 0 z3  _ _ _ hP hS (lv_sub hl [4, 3, 2, 1, 0] rfl) h
def fn_X12_isGrid (v1 : Int32) (v2 : Int32) (v3 : Int32) (z : St) : Option (Int32 × St) := gd (ix v1 3) (gd (v2 != 0) ((if ((z.1 188 (Int32.toNatClampNeg v1)) - (z.1 188 (Int32.toNatClampNeg v1)) / v2 * v2) = 0 then gd (ix v1 3) (gd (v3 != 0) ((if ((z.1 189 (Int32.toNatClampNeg v1)) - (z.1 189 (Int32.toNatClampNeg v1)) / v3 * v3) = 0 then some (1, z) else some (0, z)))) else some (0, z))))
set_option maxHeartbeats 4000000 in
set_option maxRecDepth 100000 in
theorem m_X12_isGrid {l : Launch} {G : wG} (hG : Ok G) {v1 : Int32} {v2 : Int32} {v3 : Int32} {z : St} {Rz : Int32 × St}  (h : fn_X12_isGrid  v1 v2 v3 z = some Rz) : Met l yX12_isGrid (wsU yX12_isGrid cX12_isGrid 4 (some .boolean)) (rmd 1) (va_Pc [.ref (G.2.2 172), .int v1, .int v2, .int v3] (Pre G z)) (va_Qi (fun r u => (r, u) = Rz) (Pre G) (AW G)) 0 0 (AW G) := by
  refine Met.ofW (cc := cX12_isGrid) (maxL := 4) (ret := (some .boolean)) (by decide) rfl ?_
  intro p e s m args below meth c s₁ B hml hv
  obtain ⟨rfl, hP, hK⟩ := hv
  have C : CX p s m ([.ref (G.2.2 172), .int v1, .int v2, .int v3] : List Value).toArray meth c cX12_isGrid 4 (wsU yX12_isGrid cX12_isGrid 4 (some .boolean)) RX12 (some .boolean) G := ⟨B.exec, B.bytes, hml, findClass_of_methodNamed B.named, atoms_spec (ws := (wsU yX12_isGrid cX12_isGrid 4 (some .boolean))) B.pre, B.returns, B.notSynchronized, hK, hG⟩
  obtain ⟨hx, hb, -, hown, hts, hr, hlocks, -, -⟩ := id C
  have hS : va_S (AW G) s.heap s.heap [] := va_S.rf
  have hl := lv_entry [.ref (G.2.2 172), .int v1, .int v2, .int v3] (n := 4) (Nat.le_of_ble_eq_true rfl)
  rw [lg_entry_eq]
  generalize (lg_sl [.ref (G.2.2 172), .int v1, .int v2, .int v3] ++ List.replicate (4 - (lg_sl [.ref (G.2.2 172), .int v1, .int v2, .int v3]).length) Slot.unset).toArray = ls at hl ⊢
  have hl : lv_has ls 4 [(0, .ref (G.2.2 172)), (1, .int v1), (2, .int v2), (3, .int v3)] := hl
  unfold fn_X12_isGrid at h
  refine lv_aload_n hx hb dX12_isGrid_0 rfl (lv_at hl 0 rfl) ?_
  refine ge_12_30 hx hb hts (inU inW_X12) hown hK hP k_172 (hts _ (List.mem_cons_of_mem _ lw_1464)) dX12_isGrid_1 ?_
  refine lv_iload_n hx hb dX12_isGrid_4 rfl (lv_at hl 1 rfl) ?_
  obtain ⟨g1, h⟩ := gd_s h
  refine xl_14 hx hb hK hP k_188 l_188 (ix_in g1) dX12_isGrid_5 ?_
  refine lv_iload_n hx hb dX12_isGrid_6 rfl (lv_at hl 2 rfl) ?_
  obtain ⟨g2, h⟩ := gd_s h
  refine lv_irem hx hb dX12_isGrid_7 (bne_z g2) ?_
  refine lv_if_ne (tgt := 26) hx hb dX12_isGrid_8 (by decide) (fun c3 => ?_) (fun c3 => ?_)
  · rw [if_neg c3] at h
    refine lv_iconst (v := 0) hx hb dX12_isGrid_26 (by decide) ?_
    exact x_zret hx hb hr hlocks hK hP hS rfl h dX12_isGrid_27
  · rw [if_pos c3] at h
    refine lv_aload_n hx hb dX12_isGrid_11 rfl (lv_at hl 0 rfl) ?_
    refine ge_12_31 hx hb hts (inU inW_X12) hown hK hP k_172 (hts _ (List.mem_cons_of_mem _ lw_1465)) dX12_isGrid_12 ?_
    refine lv_iload_n hx hb dX12_isGrid_15 rfl (lv_at hl 1 rfl) ?_
    obtain ⟨g4, h⟩ := gd_s h
    refine xl_14 hx hb hK hP k_189 l_189 (ix_in g4) dX12_isGrid_16 ?_
    refine lv_iload_n hx hb dX12_isGrid_17 rfl (lv_at hl 3 rfl) ?_
    obtain ⟨g5, h⟩ := gd_s h
    refine lv_irem hx hb dX12_isGrid_18 (bne_z g5) ?_
    refine lv_if_ne (tgt := 26) hx hb dX12_isGrid_19 (by decide) (fun c6 => ?_) (fun c6 => ?_)
    · rw [if_neg c6] at h
      refine lv_iconst (v := 0) hx hb dX12_isGrid_26 (by decide) ?_
      exact x_zret hx hb hr hlocks hK hP hS rfl h dX12_isGrid_27
    · rw [if_pos c6] at h
      refine lv_iconst (v := 1) hx hb dX12_isGrid_22 (by decide) ?_
      refine lv_goto (tgt := 27) hx hb dX12_isGrid_23 (by decide) ?_
      exact x_zret hx hb hr hlocks hK hP hS rfl h dX12_isGrid_27
def fn_X12_gridIcing_73 (tv0 : Int32) (tv1 : Int32) (tv2 : Int32) (tv3 : Int32) (z : St) : Option (Int32 × St) := bd (fn_X12_truth  tv3 z) (fun r2 z3 => some ((tv0 + (tv1 * (tv2 + r2))), z3))
set_option maxHeartbeats 4000000 in
set_option maxRecDepth 100000 in
theorem pf_X12_gridIcing_73 {p : Program} {l : Launch} {e : Env} {s : State} {m : MethodId} {args : Array Value} {below : List Frame} {meth : Method} {c : Code} {G : wG} (C : CX p s m args meth c cX12_gridIcing 6 (wsU yX12_gridIcing cX12_gridIcing 6 (some .int)) RX12 (some .int) G) {Rz : Int32 × St} (tv0 : Int32) (tv1 : Int32) (tv2 : Int32) (tv3 : Int32) (z : St)  {H : Heap} {locs : List Loc} {ls : Array Slot} (hP : WP G z H) (hS : va_S (AW G) s.heap H locs) (hl : lv_has ls 6 []) (h : fn_X12_gridIcing_73   tv0 tv1 tv2 tv3 z = some Rz) : W p l e (rmd 2) s m args below meth c H locs 0 0 (QI below args s G Rz) (F0 m 73 ls [.int tv3, .int tv2, .int tv1, .int tv0]) := by
  obtain ⟨hx, hb, hml, hown, hts, hr, hlocks, hK, hG⟩ := id C
  unfold fn_X12_gridIcing_73 at h
  obtain ⟨r2, z3, h1, h⟩ := bd_s h
  refine x_Si (Rz := (r2, z3)) (As := [.int tv3]) (rest := [.int tv2, .int tv1, .int tv0]) ⟨hx, hb, hml, hown, hts⟩ hK hP hS (m_X12_truth hG   h1) (va_cwS 1 hts (gS lw_1842 lw_1843 lw_125 lw_1844) rfl rfl rfl (by decide +kernel) (rmd_ok (by decide) (by decide))) rfl hl.1 rfl (Nat.le_of_ble_eq_true rfl) dX12_gridIcing_73 ⟨Nat.le_refl _, Nat.le_refl _⟩ (fun H locs hP hS => ?_)
  refine lv_iadd hx hb dX12_gridIcing_76 ?_
  refine lv_imul hx hb dX12_gridIcing_77 ?_
  refine lv_iadd hx hb dX12_gridIcing_78 ?_
  exact x_iret hx hb hr hlocks hK hP hS h dX12_gridIcing_79
def fn_X12_gridIcing_57 (v2 : Int32) (v4 : Int32) (tv0 : Int32) (tv1 : Int32) (tv2 : Int32) (z : St) : Option (Int32 × St) := bd (fn_X12_truth  tv2 z) (fun r2 z3 => (if v4 = (v2 - 1) then fn_X12_gridIcing_73   tv0 tv1 r2 1 z3 else fn_X12_gridIcing_73   tv0 tv1 r2 0 z3))
set_option maxHeartbeats 4000000 in
set_option maxRecDepth 100000 in
theorem pf_X12_gridIcing_57 {p : Program} {l : Launch} {e : Env} {s : State} {m : MethodId} {args : Array Value} {below : List Frame} {meth : Method} {c : Code} {G : wG} (C : CX p s m args meth c cX12_gridIcing 6 (wsU yX12_gridIcing cX12_gridIcing 6 (some .int)) RX12 (some .int) G) {Rz : Int32 × St} (v2 : Int32) (v4 : Int32) (tv0 : Int32) (tv1 : Int32) (tv2 : Int32) (z : St)  {H : Heap} {locs : List Loc} {ls : Array Slot} (hP : WP G z H) (hS : va_S (AW G) s.heap H locs) (hl : lv_has ls 6 [(2, .int v2), (4, .int v4)]) (h : fn_X12_gridIcing_57   v2 v4 tv0 tv1 tv2 z = some Rz) : W p l e (rmd 2) s m args below meth c H locs 0 0 (QI below args s G Rz) (F0 m 57 ls [.int tv2, .int tv1, .int tv0]) := by
  obtain ⟨hx, hb, hml, hown, hts, hr, hlocks, hK, hG⟩ := id C
  unfold fn_X12_gridIcing_57 at h
  obtain ⟨r2, z3, h1, h⟩ := bd_s h
  refine x_Si (Rz := (r2, z3)) (As := [.int tv2]) (rest := [.int tv1, .int tv0]) ⟨hx, hb, hml, hown, hts⟩ hK hP hS (m_X12_truth hG   h1) (va_cwS 1 hts (gS lw_1842 lw_1843 lw_125 lw_1844) rfl rfl rfl (by decide +kernel) (rmd_ok (by decide) (by decide))) rfl hl.1 rfl (Nat.le_of_ble_eq_true rfl) dX12_gridIcing_57 ⟨Nat.le_refl _, Nat.le_refl _⟩ (fun H locs hP hS => ?_)
  refine lv_iload hx hb dX12_gridIcing_60 (lv_at hl 1 rfl) ?_
  refine lv_iload_n hx hb dX12_gridIcing_62 rfl (lv_at hl 0 rfl) ?_
  refine lv_iconst (v := 1) hx hb dX12_gridIcing_63 (by decide) ?_
  refine lv_isub hx hb dX12_gridIcing_64 ?_
  refine lv_icmp_ne (tgt := 72) hx hb dX12_gridIcing_65 (by decide) (fun c4 => ?_) (fun c4 => ?_)
  · rw [if_neg c4] at h
    refine lv_iconst (v := 0) hx hb dX12_gridIcing_72 (by decide) ?_
    exact pf_X12_gridIcing_73 C   tv0 tv1 r2 0 z3  hP hS (lv_sub hl [] rfl) h
  · rw [if_pos c4] at h
    refine lv_iconst (v := 1) hx hb dX12_gridIcing_68 (by decide) ?_
    refine lv_goto (tgt := 73) hx hb dX12_gridIcing_69 (by decide) ?_
    exact pf_X12_gridIcing_73 C   tv0 tv1 r2 1 z3  hP hS (lv_sub hl [] rfl) h
def fn_X12_gridIcing_34 (v1 : Int32) (v2 : Int32) (v3 : Int32) (v4 : Int32) (tv0 : Int32) (tv1 : Int32) (tv2 : Int32) (z : St) : Option (Int32 × St) := bd (fn_X12_truth  tv2 z) (fun r2 z3 => gd (ix v1 3) (gd (v3 != 0) ((if v4 = 0 then fn_X12_gridIcing_57   v2 v4 (tv0 * (tv1 + r2)) ((z3.1 189 (Int32.toNatClampNeg v1)) / v3) 1 z3 else fn_X12_gridIcing_57   v2 v4 (tv0 * (tv1 + r2)) ((z3.1 189 (Int32.toNatClampNeg v1)) / v3) 0 z3))))
set_option maxHeartbeats 4000000 in
set_option maxRecDepth 100000 in
theorem pf_X12_gridIcing_34 {p : Program} {l : Launch} {e : Env} {s : State} {m : MethodId} {args : Array Value} {below : List Frame} {meth : Method} {c : Code} {G : wG} (C : CX p s m args meth c cX12_gridIcing 6 (wsU yX12_gridIcing cX12_gridIcing 6 (some .int)) RX12 (some .int) G) {Rz : Int32 × St} (v1 : Int32) (v2 : Int32) (v3 : Int32) (v4 : Int32) (tv0 : Int32) (tv1 : Int32) (tv2 : Int32) (z : St)  {H : Heap} {locs : List Loc} {ls : Array Slot} (hP : WP G z H) (hS : va_S (AW G) s.heap H locs) (hl : lv_has ls 6 [(0, .ref (G.2.2 172)), (1, .int v1), (2, .int v2), (3, .int v3), (4, .int v4)]) (h : fn_X12_gridIcing_34   v1 v2 v3 v4 tv0 tv1 tv2 z = some Rz) : W p l e (rmd 2) s m args below meth c H locs 0 0 (QI below args s G Rz) (F0 m 34 ls [.int tv2, .int tv1, .int tv0]) := by
  obtain ⟨hx, hb, hml, hown, hts, hr, hlocks, hK, hG⟩ := id C
  unfold fn_X12_gridIcing_34 at h
  obtain ⟨r2, z3, h1, h⟩ := bd_s h
  refine x_Si (Rz := (r2, z3)) (As := [.int tv2]) (rest := [.int tv1, .int tv0]) ⟨hx, hb, hml, hown, hts⟩ hK hP hS (m_X12_truth hG   h1) (va_cwS 1 hts (gS lw_1842 lw_1843 lw_125 lw_1844) rfl rfl rfl (by decide +kernel) (rmd_ok (by decide) (by decide))) rfl hl.1 rfl (Nat.le_of_ble_eq_true rfl) dX12_gridIcing_34 ⟨Nat.le_refl _, Nat.le_refl _⟩ (fun H locs hP hS => ?_)
  refine lv_iadd hx hb dX12_gridIcing_37 ?_
  refine lv_imul hx hb dX12_gridIcing_38 ?_
  refine lv_aload_n hx hb dX12_gridIcing_39 rfl (lv_at hl 0 rfl) ?_
  refine ge_12_31 hx hb hts (inU inW_X12) hown hK hP k_172 (hts _ (List.mem_cons_of_mem _ lw_1465)) dX12_gridIcing_40 ?_
  refine lv_iload_n hx hb dX12_gridIcing_43 rfl (lv_at hl 1 rfl) ?_
  obtain ⟨g4, h⟩ := gd_s h
  refine xl_14 hx hb hK hP k_189 l_189 (ix_in g4) dX12_gridIcing_44 ?_
  refine lv_iload_n hx hb dX12_gridIcing_45 rfl (lv_at hl 3 rfl) ?_
  obtain ⟨g5, h⟩ := gd_s h
  refine lv_idiv hx hb dX12_gridIcing_46 (bne_z g5) ?_
  refine lv_iload hx hb dX12_gridIcing_47 (lv_at hl 4 rfl) ?_
  refine lv_if_ne (tgt := 56) hx hb dX12_gridIcing_49 (by decide) (fun c6 => ?_) (fun c6 => ?_)
  · rw [if_neg c6] at h
    refine lv_iconst (v := 0) hx hb dX12_gridIcing_56 (by decide) ?_
    exact pf_X12_gridIcing_57 C   v2 v4 (tv0 * (tv1 + r2)) ((z3.1 189 (Int32.toNatClampNeg v1)) / v3) 0 z3  hP hS (lv_sub hl [2, 4] rfl) h
  · rw [if_pos c6] at h
    refine lv_iconst (v := 1) hx hb dX12_gridIcing_52 (by decide) ?_
    refine lv_goto (tgt := 57) hx hb dX12_gridIcing_53 (by decide) ?_
    exact pf_X12_gridIcing_57 C   v2 v4 (tv0 * (tv1 + r2)) ((z3.1 189 (Int32.toNatClampNeg v1)) / v3) 1 z3  hP hS (lv_sub hl [2, 4] rfl) h
def fn_X12_gridIcing_18 (v1 : Int32) (v2 : Int32) (v3 : Int32) (v4 : Int32) (v5 : Int32) (tv0 : Int32) (tv1 : Int32) (z : St) : Option (Int32 × St) := bd (fn_X12_truth  tv1 z) (fun r2 z3 => (if v5 = (v3 - 1) then fn_X12_gridIcing_34   v1 v2 v3 v4 tv0 r2 1 z3 else fn_X12_gridIcing_34   v1 v2 v3 v4 tv0 r2 0 z3))
set_option maxHeartbeats 4000000 in
set_option maxRecDepth 100000 in
theorem pf_X12_gridIcing_18 {p : Program} {l : Launch} {e : Env} {s : State} {m : MethodId} {args : Array Value} {below : List Frame} {meth : Method} {c : Code} {G : wG} (C : CX p s m args meth c cX12_gridIcing 6 (wsU yX12_gridIcing cX12_gridIcing 6 (some .int)) RX12 (some .int) G) {Rz : Int32 × St} (v1 : Int32) (v2 : Int32) (v3 : Int32) (v4 : Int32) (v5 : Int32) (tv0 : Int32) (tv1 : Int32) (z : St)  {H : Heap} {locs : List Loc} {ls : Array Slot} (hP : WP G z H) (hS : va_S (AW G) s.heap H locs) (hl : lv_has ls 6 [(0, .ref (G.2.2 172)), (1, .int v1), (2, .int v2), (3, .int v3), (4, .int v4), (5, .int v5)]) (h : fn_X12_gridIcing_18   v1 v2 v3 v4 v5 tv0 tv1 z = some Rz) : W p l e (rmd 2) s m args below meth c H locs 0 0 (QI below args s G Rz) (F0 m 18 ls [.int tv1, .int tv0]) := by
  obtain ⟨hx, hb, hml, hown, hts, hr, hlocks, hK, hG⟩ := id C
  unfold fn_X12_gridIcing_18 at h
  obtain ⟨r2, z3, h1, h⟩ := bd_s h
  refine x_Si (Rz := (r2, z3)) (As := [.int tv1]) (rest := [.int tv0]) ⟨hx, hb, hml, hown, hts⟩ hK hP hS (m_X12_truth hG   h1) (va_cwS 1 hts (gS lw_1842 lw_1843 lw_125 lw_1844) rfl rfl rfl (by decide +kernel) (rmd_ok (by decide) (by decide))) rfl hl.1 rfl (Nat.le_of_ble_eq_true rfl) dX12_gridIcing_18 ⟨Nat.le_refl _, Nat.le_refl _⟩ (fun H locs hP hS => ?_)
  refine lv_iload hx hb dX12_gridIcing_21 (lv_at hl 5 rfl) ?_
  refine lv_iload_n hx hb dX12_gridIcing_23 rfl (lv_at hl 3 rfl) ?_
  refine lv_iconst (v := 1) hx hb dX12_gridIcing_24 (by decide) ?_
  refine lv_isub hx hb dX12_gridIcing_25 ?_
  refine lv_icmp_ne (tgt := 33) hx hb dX12_gridIcing_26 (by decide) (fun c4 => ?_) (fun c4 => ?_)
  · rw [if_neg c4] at h
    refine lv_iconst (v := 0) hx hb dX12_gridIcing_33 (by decide) ?_
    exact pf_X12_gridIcing_34 C   v1 v2 v3 v4 tv0 r2 0 z3  hP hS (lv_sub hl [0, 1, 2, 3, 4] rfl) h
  · rw [if_pos c4] at h
    refine lv_iconst (v := 1) hx hb dX12_gridIcing_29 (by decide) ?_
    refine lv_goto (tgt := 34) hx hb dX12_gridIcing_30 (by decide) ?_
    exact pf_X12_gridIcing_34 C   v1 v2 v3 v4 tv0 r2 1 z3  hP hS (lv_sub hl [0, 1, 2, 3, 4] rfl) h
def fn_X12_gridIcing (v1 : Int32) (v2 : Int32) (v3 : Int32) (v4 : Int32) (v5 : Int32) (z : St) : Option (Int32 × St) := gd (ix v1 3) (gd (v2 != 0) ((if v5 = 0 then fn_X12_gridIcing_18   v1 v2 v3 v4 v5 ((z.1 188 (Int32.toNatClampNeg v1)) / v2) 1 z else fn_X12_gridIcing_18   v1 v2 v3 v4 v5 ((z.1 188 (Int32.toNatClampNeg v1)) / v2) 0 z)))
set_option maxHeartbeats 4000000 in
set_option maxRecDepth 100000 in
theorem m_X12_gridIcing {l : Launch} {G : wG} (hG : Ok G) {v1 : Int32} {v2 : Int32} {v3 : Int32} {v4 : Int32} {v5 : Int32} {z : St} {Rz : Int32 × St}  (h : fn_X12_gridIcing  v1 v2 v3 v4 v5 z = some Rz) : Met l yX12_gridIcing (wsU yX12_gridIcing cX12_gridIcing 6 (some .int)) (rmd 2) (va_Pc [.ref (G.2.2 172), .int v1, .int v2, .int v3, .int v4, .int v5] (Pre G z)) (va_Qi (fun r u => (r, u) = Rz) (Pre G) (AW G)) 0 0 (AW G) := by
  refine Met.ofW (cc := cX12_gridIcing) (maxL := 6) (ret := (some .int)) (by decide) rfl ?_
  intro p e s m args below meth c s₁ B hml hv
  obtain ⟨rfl, hP, hK⟩ := hv
  have C : CX p s m ([.ref (G.2.2 172), .int v1, .int v2, .int v3, .int v4, .int v5] : List Value).toArray meth c cX12_gridIcing 6 (wsU yX12_gridIcing cX12_gridIcing 6 (some .int)) RX12 (some .int) G := ⟨B.exec, B.bytes, hml, findClass_of_methodNamed B.named, atoms_spec (ws := (wsU yX12_gridIcing cX12_gridIcing 6 (some .int))) B.pre, B.returns, B.notSynchronized, hK, hG⟩
  obtain ⟨hx, hb, -, hown, hts, hr, hlocks, -, -⟩ := id C
  have hS : va_S (AW G) s.heap s.heap [] := va_S.rf
  have hl := lv_entry [.ref (G.2.2 172), .int v1, .int v2, .int v3, .int v4, .int v5] (n := 6) (Nat.le_of_ble_eq_true rfl)
  rw [lg_entry_eq]
  generalize (lg_sl [.ref (G.2.2 172), .int v1, .int v2, .int v3, .int v4, .int v5] ++ List.replicate (6 - (lg_sl [.ref (G.2.2 172), .int v1, .int v2, .int v3, .int v4, .int v5]).length) Slot.unset).toArray = ls at hl ⊢
  have hl : lv_has ls 6 [(0, .ref (G.2.2 172)), (1, .int v1), (2, .int v2), (3, .int v3), (4, .int v4), (5, .int v5)] := hl
  unfold fn_X12_gridIcing at h
  refine lv_aload_n hx hb dX12_gridIcing_0 rfl (lv_at hl 0 rfl) ?_
  refine ge_12_30 hx hb hts (inU inW_X12) hown hK hP k_172 (hts _ (List.mem_cons_of_mem _ lw_1464)) dX12_gridIcing_1 ?_
  refine lv_iload_n hx hb dX12_gridIcing_4 rfl (lv_at hl 1 rfl) ?_
  obtain ⟨g1, h⟩ := gd_s h
  refine xl_14 hx hb hK hP k_188 l_188 (ix_in g1) dX12_gridIcing_5 ?_
  refine lv_iload_n hx hb dX12_gridIcing_6 rfl (lv_at hl 2 rfl) ?_
  obtain ⟨g2, h⟩ := gd_s h
  refine lv_idiv hx hb dX12_gridIcing_7 (bne_z g2) ?_
  refine lv_iload hx hb dX12_gridIcing_8 (lv_at hl 5 rfl) ?_
  refine lv_if_ne (tgt := 17) hx hb dX12_gridIcing_10 (by decide) (fun c3 => ?_) (fun c3 => ?_)
  · rw [if_neg c3] at h
    refine lv_iconst (v := 0) hx hb dX12_gridIcing_17 (by decide) ?_
    exact pf_X12_gridIcing_18 C   v1 v2 v3 v4 v5 ((z.1 188 (Int32.toNatClampNeg v1)) / v2) 0 z  hP hS (lv_sub hl [0, 1, 2, 3, 4, 5] rfl) h
  · rw [if_pos c3] at h
    refine lv_iconst (v := 1) hx hb dX12_gridIcing_13 (by decide) ?_
    refine lv_goto (tgt := 18) hx hb dX12_gridIcing_14 (by decide) ?_
    exact pf_X12_gridIcing_18 C   v1 v2 v3 v4 v5 ((z.1 188 (Int32.toNatClampNeg v1)) / v2) 1 z  hP hS (lv_sub hl [0, 1, 2, 3, 4, 5] rfl) h
