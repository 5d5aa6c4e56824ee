def fn_X6_unit_63 (kE : Nat → Int32 → St → Option St)  (z : St) : Option (St) := bv (fn_X6_refuse   z) (fun z2 => some z2)
set_option maxHeartbeats 4000000 in
set_option maxRecDepth 100000 in
theorem pf_X6_unit_63 {p : Program} {l : Launch} {e : Env} {s : State} {m : MethodId} {args : Array Value} {below : List Frame} {meth : Method} {c : Code} {G : wG} (C : CX p s m args meth c cX6_unit 6 (wsU yX6_unit cX6_unit 6 none) RX6 none G) {Rz : St} {kE : Nat → Int32 → St → Option St} {dd D : Nat} (hd0 : 10 ≤ dd) (hD : dd + 1 ≤ D) (hkE : ∀ {p1 : Nat} {v2 : Int32} {z : St} {Rz : St}, kd p1 = 2 → kE p1 v2 z = some Rz → Met l yX6_either (wsU yX6_either cX6_either 4 none) (rmd dd) (va_Pc [.ref (G.2.2 32), .ref (G.2.2 p1), .int v2] (Pre G z)) (va_Qv (fun u => u = Rz) (Pre G) (AW G)) 0 0 (AW G))  (z : St)  {H : Heap} {locs : List Loc} {ls : Array Slot} (hP : WP G z H) (hS : va_S (AW G) s.heap H locs) (hl : lv_has ls 6 [(0, .ref (G.2.2 32))]) (h : fn_X6_unit_63 kE   z = some Rz) : W p l e (rmd D) s m args below meth c H locs 0 0 (QV below args s G Rz) (F0 m 63 ls []) := by
  obtain ⟨hx, hb, hml, hown, hts, hr, hlocks, hK, hG⟩ := id C
  unfold fn_X6_unit_63 at h
  refine lv_aload_n hx hb dX6_unit_63 rfl (lv_at hl 0 rfl) ?_
  obtain ⟨z2, h1, h⟩ := bv_s h
  refine x_Vv (Rz := z2) (As := []) (rest := []) ⟨hx, hb, hml, hown, hts⟩ hK hP hS (kd_lt k_32 (by decide)) (cell_6 k_32) rfl (m_X6_refuse hG   h1) (cwV 0 hts (gV lw_813 lw_815 lw_7 lw_112 lw_816) rfl rfl rfl (by decide +kernel) (rmd_ok (by omega) (by decide))) rfl hl.1 rfl (Nat.le_of_ble_eq_true rfl) dX6_unit_64 ⟨Nat.le_refl _, Nat.le_refl _⟩ (fun H locs hP hS => ?_)
  exact x_vret hx hb hr hlocks hK hP hS h dX6_unit_67
def fn_X6_unit_91 (kE : Nat → Int32 → St → Option St) (p1 : Nat) (v2 : Int32) (v3 : Int32) (z : St) : Option (St) := bv (fn_X6_advance   z) (fun z2 => (if v3 = 0 then some z2 else bv (kE p1 (v2 + 1) z2) (fun z5 => bv (fn_X6_expectSign  41 z5) (fun z7 => some z7))))
set_option maxHeartbeats 4000000 in
set_option maxRecDepth 100000 in
theorem pf_X6_unit_91 {p : Program} {l : Launch} {e : Env} {s : State} {m : MethodId} {args : Array Value} {below : List Frame} {meth : Method} {c : Code} {G : wG} (C : CX p s m args meth c cX6_unit 6 (wsU yX6_unit cX6_unit 6 none) RX6 none G) {Rz : St} {kE : Nat → Int32 → St → Option St} {dd D : Nat} (hd0 : 10 ≤ dd) (hD : dd + 1 ≤ D) (hkE : ∀ {p1 : Nat} {v2 : Int32} {z : St} {Rz : St}, kd p1 = 2 → kE p1 v2 z = some Rz → Met l yX6_either (wsU yX6_either cX6_either 4 none) (rmd dd) (va_Pc [.ref (G.2.2 32), .ref (G.2.2 p1), .int v2] (Pre G z)) (va_Qv (fun u => u = Rz) (Pre G) (AW G)) 0 0 (AW G)) (p1 : Nat) (v2 : Int32) (v3 : Int32) (z : St) (hk1 : kd p1 = 2) {H : Heap} {locs : List Loc} {ls : Array Slot} (hP : WP G z H) (hS : va_S (AW G) s.heap H locs) (hl : lv_has ls 6 [(0, .ref (G.2.2 32)), (1, .ref (G.2.2 p1)), (2, .int v2), (3, .int v3)]) (h : fn_X6_unit_91 kE  p1 v2 v3 z = some Rz) : W p l e (rmd D) s m args below meth c H locs 0 0 (QV below args s G Rz) (F0 m 91 ls []) := by
  obtain ⟨hx, hb, hml, hown, hts, hr, hlocks, hK, hG⟩ := id C
  unfold fn_X6_unit_91 at h
  refine lv_aload_n hx hb dX6_unit_91 rfl (lv_at hl 0 rfl) ?_
  obtain ⟨z2, h1, h⟩ := bv_s h
  refine x_Vv (Rz := z2) (As := []) (rest := []) ⟨hx, hb, hml, hown, hts⟩ hK hP hS (kd_lt k_32 (by decide)) (cell_6 k_32) rfl (m_X6_advance hG   h1) (cwV 0 hts (gV lw_777 lw_779 lw_1 lw_112 lw_780) rfl rfl rfl (by decide +kernel) (rmd_ok (by omega) (by decide))) rfl hl.1 rfl (Nat.le_of_ble_eq_true rfl) dX6_unit_92 ⟨Nat.le_refl _, Nat.le_refl _⟩ (fun H locs hP hS => ?_)
  refine lv_iload_n hx hb dX6_unit_95 rfl (lv_at hl 3 rfl) ?_
  refine lv_if_eq (tgt := 113) hx hb dX6_unit_96 (by decide) (fun c3 => ?_) (fun c3 => ?_)
  · rw [if_pos c3] at h
    exact x_vret hx hb hr hlocks hK hP hS h dX6_unit_113
  · rw [if_neg c3] at h
    refine lv_aload_n hx hb dX6_unit_99 rfl (lv_at hl 0 rfl) ?_
    refine lv_aload_n hx hb dX6_unit_100 rfl (lv_at hl 1 rfl) ?_
    refine lv_iload_n hx hb dX6_unit_101 rfl (lv_at hl 2 rfl) ?_
    refine lv_iconst (v := 1) hx hb dX6_unit_102 (by decide) ?_
    refine lv_iadd hx hb dX6_unit_103 ?_
    obtain ⟨z5, h4, h⟩ := bv_s h
    refine x_Vv (Rz := z5) (As := [.ref (G.2.2 p1), .int (v2 + 1)]) (rest := []) ⟨hx, hb, hml, hown, hts⟩ hK hP hS (kd_lt k_32 (by decide)) (cell_6 k_32) rfl (hkE hk1 h4) (cwV 2 hts (gV lw_865 lw_867 lw_17 lw_112 lw_868) rfl rfl rfl (by decide +kernel) (rmd_ok (by omega) (by decide))) rfl hl.1 rfl (Nat.le_of_ble_eq_true rfl) dX6_unit_104 ⟨Nat.le_refl _, Nat.le_refl _⟩ (fun H locs hP hS => ?_)
    refine lv_aload_n hx hb dX6_unit_107 rfl (lv_at hl 0 rfl) ?_
    refine lv_bipush (v := 41) hx hb dX6_unit_108 (by decide) ?_
    obtain ⟨z7, h6, h⟩ := bv_s h
    refine x_Vv (Rz := z7) (As := [.int 41]) (rest := []) ⟨hx, hb, hml, hown, hts⟩ hK hP hS (kd_lt k_32 (by decide)) (cell_6 k_32) rfl (m_X6_expectSign hG   h6) (cwV 1 hts (gV lw_837 lw_839 lw_13 lw_112 lw_840) rfl rfl rfl (by decide +kernel) (rmd_ok (by omega) (by decide))) rfl hl.1 rfl (Nat.le_of_ble_eq_true rfl) dX6_unit_110 ⟨Nat.le_refl _, Nat.le_refl _⟩ (fun H locs hP hS => ?_)
    exact x_vret hx hb hr hlocks hK hP hS h dX6_unit_113
def fn_X6_unit_88 (kE : Nat → Int32 → St → Option St) (p1 : Nat) (v2 : Int32) (v3 : Int32) (tv1 : Int32) (tv2 : Int32) (z : St) : Option (St) := bv (fn_X2_add  p1 tv1 tv2 z) (fun z2 => fn_X6_unit_91 kE  p1 v2 v3 z2)
set_option maxHeartbeats 4000000 in
set_option maxRecDepth 100000 in
theorem pf_X6_unit_88 {p : Program} {l : Launch} {e : Env} {s : State} {m : MethodId} {args : Array Value} {below : List Frame} {meth : Method} {c : Code} {G : wG} (C : CX p s m args meth c cX6_unit 6 (wsU yX6_unit cX6_unit 6 none) RX6 none G) {Rz : St} {kE : Nat → Int32 → St → Option St} {dd D : Nat} (hd0 : 10 ≤ dd) (hD : dd + 1 ≤ D) (hkE : ∀ {p1 : Nat} {v2 : Int32} {z : St} {Rz : St}, kd p1 = 2 → kE p1 v2 z = some Rz → Met l yX6_either (wsU yX6_either cX6_either 4 none) (rmd dd) (va_Pc [.ref (G.2.2 32), .ref (G.2.2 p1), .int v2] (Pre G z)) (va_Qv (fun u => u = Rz) (Pre G) (AW G)) 0 0 (AW G)) (p1 : Nat) (v2 : Int32) (v3 : Int32) (tv1 : Int32) (tv2 : Int32) (z : St) (hk1 : kd p1 = 2) {H : Heap} {locs : List Loc} {ls : Array Slot} (hP : WP G z H) (hS : va_S (AW G) s.heap H locs) (hl : lv_has ls 6 [(0, .ref (G.2.2 32)), (1, .ref (G.2.2 p1)), (2, .int v2), (3, .int v3)]) (h : fn_X6_unit_88 kE  p1 v2 v3 tv1 tv2 z = some Rz) : W p l e (rmd D) s m args below meth c H locs 0 0 (QV below args s G Rz) (F0 m 88 ls [.int tv2, .int tv1, .ref (G.2.2 p1)]) := by
  obtain ⟨hx, hb, hml, hown, hts, hr, hlocks, hK, hG⟩ := id C
  unfold fn_X6_unit_88 at h
  obtain ⟨z2, h1, h⟩ := bv_s h
  refine x_Vv (Rz := z2) (As := [.int tv1, .int tv2]) (rest := []) ⟨hx, hb, hml, hown, hts⟩ hK hP hS (kd_lt hk1 (by decide)) (cell_2 hk1) rfl (m_X2_add hG  hk1 h1) (cwV 2 hts (gV lw_901 lw_153 lw_154 lw_111 lw_155) rfl rfl rfl (by decide +kernel) (rmd_ok (by omega) (by decide))) rfl hl.1 rfl (Nat.le_of_ble_eq_true rfl) dX6_unit_88 ⟨Nat.le_refl _, Nat.le_refl _⟩ (fun H locs hP hS => ?_)
  exact pf_X6_unit_91 C hd0 hD hkE  p1 v2 v3 z2 hk1 hP hS (lv_sub hl [0, 1, 2, 3] rfl) h
def fn_X6_unit_42 (kE : Nat → Int32 → St → Option St) (p1 : Nat) (v2 : Int32) (v3 : Int32) (v4 : Int32) (tv0 : Int32) (z : St) : Option (St) := (if (z.1 32 11) = 0 then (if tv0 = 0 then fn_X6_unit_63 kE   z else bd (fn_X2_countUnit  p1 z) (fun r4 z5 => (if r4 = 0 then fn_X6_unit_63 kE   z5 else (if v3 = 0 then (if v4 = 0 then fn_X6_unit_88 kE  p1 v2 v3 v4 (z5.1 32 7) z5 else fn_X6_unit_88 kE  p1 v2 v3 v4 0 z5) else fn_X6_unit_91 kE  p1 v2 v3 z5)))) else fn_X6_unit_63 kE   z)
set_option maxHeartbeats 4000000 in
set_option maxRecDepth 100000 in
theorem pf_X6_unit_42 {p : Program} {l : Launch} {e : Env} {s : State} {m : MethodId} {args : Array Value} {below : List Frame} {meth : Method} {c : Code} {G : wG} (C : CX p s m args meth c cX6_unit 6 (wsU yX6_unit cX6_unit 6 none) RX6 none G) {Rz : St} {kE : Nat → Int32 → St → Option St} {dd D : Nat} (hd0 : 10 ≤ dd) (hD : dd + 1 ≤ D) (hkE : ∀ {p1 : Nat} {v2 : Int32} {z : St} {Rz : St}, kd p1 = 2 → kE p1 v2 z = some Rz → Met l yX6_either (wsU yX6_either cX6_either 4 none) (rmd dd) (va_Pc [.ref (G.2.2 32), .ref (G.2.2 p1), .int v2] (Pre G z)) (va_Qv (fun u => u = Rz) (Pre G) (AW G)) 0 0 (AW G)) (p1 : Nat) (v2 : Int32) (v3 : Int32) (v4 : Int32) (tv0 : Int32) (z : St) (hk1 : kd p1 = 2) {H : Heap} {locs : List Loc} {ls : Array Slot} (hP : WP G z H) (hS : va_S (AW G) s.heap H locs) (hl : lv_has ls 6 [(0, .ref (G.2.2 32)), (1, .ref (G.2.2 p1)), (2, .int v2), (3, .int v3), (4, .int v4)]) (h : fn_X6_unit_42 kE  p1 v2 v3 v4 tv0 z = some Rz) : W p l e (rmd D) s m args below meth c H locs 0 0 (QV below args s G Rz) (F0 m 42 ls [.int tv0]) := by
  obtain ⟨hx, hb, hml, hown, hts, hr, hlocks, hK, hG⟩ := id C
  unfold fn_X6_unit_42 at h
  refine lv_istore (lv' := [(5, .int tv0), (0, .ref (G.2.2 32)), (1, .ref (G.2.2 p1)), (2, .int v2), (3, .int v3), (4, .int v4)]) hx hb dX6_unit_42 hl (by decide) rfl (fun ls hl => ?_)
  refine lv_aload_n hx hb dX6_unit_44 rfl (lv_at hl 1 rfl) ?_
  refine ge_6_11 hx hb hts (inU inW_X6) hown hK hP k_32 (hts _ (List.mem_cons_of_mem _ lw_331)) dX6_unit_45 ?_
  refine lv_if_ne (tgt := 63) hx hb dX6_unit_48 (by decide) (fun c1 => ?_) (fun c1 => ?_)
  · rw [if_neg c1] at h
    exact pf_X6_unit_63 C hd0 hD hkE   z  hP hS (lv_sub hl [1] rfl) h
  · rw [if_pos c1] at h
    refine lv_iload hx hb dX6_unit_51 (lv_at hl 0 rfl) ?_
    refine lv_if_eq (tgt := 63) hx hb dX6_unit_53 (by decide) (fun c2 => ?_) (fun c2 => ?_)
    · rw [if_pos c2] at h
      exact pf_X6_unit_63 C hd0 hD hkE   z  hP hS (lv_sub hl [1] rfl) h
    · rw [if_neg c2] at h
      refine lv_aload_n hx hb dX6_unit_56 rfl (lv_at hl 2 rfl) ?_
      obtain ⟨r4, z5, h3, h⟩ := bd_s h
      refine x_Vi (Rz := (r4, z5)) (As := []) (rest := []) ⟨hx, hb, hml, hown, hts⟩ hK hP hS (kd_lt hk1 (by decide)) (cell_2 hk1) rfl (m_X2_countUnit hG  hk1 h3) (cwV 0 hts (gV lw_897 lw_898 lw_899 lw_111 lw_900) rfl rfl rfl (by decide +kernel) (rmd_ok (by omega) (by decide))) rfl hl.1 rfl (Nat.le_of_ble_eq_true rfl) dX6_unit_57 ⟨Nat.le_refl _, Nat.le_refl _⟩ (fun H locs hP hS => ?_)
      refine lv_if_ne (tgt := 68) hx hb dX6_unit_60 (by decide) (fun c6 => ?_) (fun c6 => ?_)
      · rw [if_neg c6] at h
        refine lv_iload_n hx hb dX6_unit_68 rfl (lv_at hl 4 rfl) ?_
        refine lv_if_ne (tgt := 91) hx hb dX6_unit_69 (by decide) (fun c7 => ?_) (fun c7 => ?_)
        · rw [if_neg c7] at h
          exact pf_X6_unit_91 C hd0 hD hkE  p1 v2 v3 z5 hk1 hP hS (lv_sub hl [1, 2, 3, 4] rfl) h
        · rw [if_pos c7] at h
          refine lv_aload_n hx hb dX6_unit_72 rfl (lv_at hl 2 rfl) ?_
          refine lv_iload hx hb dX6_unit_73 (lv_at hl 5 rfl) ?_
          refine lv_iload hx hb dX6_unit_75 (lv_at hl 5 rfl) ?_
          refine lv_if_ne (tgt := 87) hx hb dX6_unit_77 (by decide) (fun c8 => ?_) (fun c8 => ?_)
          · rw [if_neg c8] at h
            refine lv_iconst (v := 0) hx hb dX6_unit_87 (by decide) ?_
            exact pf_X6_unit_88 C hd0 hD hkE  p1 v2 v3 v4 0 z5 hk1 hP hS (lv_sub hl [1, 2, 3, 4] rfl) h
          · rw [if_pos c8] at h
            refine lv_aload_n hx hb dX6_unit_80 rfl (lv_at hl 1 rfl) ?_
            refine ge_6_7 hx hb hts (inU inW_X6) hown hK hP k_32 (hts _ (List.mem_cons_of_mem _ lw_327)) dX6_unit_81 ?_
            refine lv_goto (tgt := 88) hx hb dX6_unit_84 (by decide) ?_
            exact pf_X6_unit_88 C hd0 hD hkE  p1 v2 v3 v4 (z5.1 32 7) z5 hk1 hP hS (lv_sub hl [1, 2, 3, 4] rfl) h
      · rw [if_pos c6] at h
        exact pf_X6_unit_63 C hd0 hD hkE   z5  hP hS (lv_sub hl [1] rfl) h
def fn_X6_unit (kE : Nat → Int32 → St → Option St) (p1 : Nat) (v2 : Int32) (z : St) : Option (St) := bd (fn_X6_isSign  40 z) (fun r2 z3 => bd (fn_X6_plainUnit   z3) (fun r5 z6 => (if r2 = 0 then (if r5 = (-1) then fn_X6_unit_42 kE  p1 v2 r2 r5 0 z6 else fn_X6_unit_42 kE  p1 v2 r2 r5 1 z6) else (if 6 < v2 then fn_X6_unit_42 kE  p1 v2 r2 r5 0 z6 else fn_X6_unit_42 kE  p1 v2 r2 r5 1 z6))))
set_option maxHeartbeats 4000000 in
set_option maxRecDepth 100000 in
theorem m_X6_unit {l : Launch} {G : wG} (hG : Ok G) {kE : Nat → Int32 → St → Option St} {dd D : Nat} (hd0 : 10 ≤ dd) (hD : dd + 1 ≤ D) (hkE : ∀ {p1 : Nat} {v2 : Int32} {z : St} {Rz : St}, kd p1 = 2 → kE p1 v2 z = some Rz → Met l yX6_either (wsU yX6_either cX6_either 4 none) (rmd dd) (va_Pc [.ref (G.2.2 32), .ref (G.2.2 p1), .int v2] (Pre G z)) (va_Qv (fun u => u = Rz) (Pre G) (AW G)) 0 0 (AW G)) {p1 : Nat} {v2 : Int32} {z : St} {Rz : St} (hk1 : kd p1 = 2) (h : fn_X6_unit kE p1 v2 z = some Rz) : Met l yX6_unit (wsU yX6_unit cX6_unit 6 none) (rmd D) (va_Pc [.ref (G.2.2 32), .ref (G.2.2 p1), .int v2] (Pre G z)) (va_Qv (fun u => u = Rz) (Pre G) (AW G)) 0 0 (AW G) := by
  refine Met.ofW (cc := cX6_unit) (maxL := 6) (ret := none) (by decide) rfl ?_
  intro p e s m args below meth c s₁ B hml hv
  obtain ⟨rfl, hP, hK⟩ := hv
  have C : CX p s m ([.ref (G.2.2 32), .ref (G.2.2 p1), .int v2] : List Value).toArray meth c cX6_unit 6 (wsU yX6_unit cX6_unit 6 none) RX6 none G := ⟨B.exec, B.bytes, hml, findClass_of_methodNamed B.named, atoms_spec (ws := (wsU yX6_unit cX6_unit 6 none)) B.pre, B.returns, B.notSynchronized, hK, hG⟩
  obtain ⟨hx, hb, -, hown, hts, hr, hlocks, -, -⟩ := id C
  have hS : va_S (AW G) s.heap s.heap [] := va_S.rf
  have hl := lv_entry [.ref (G.2.2 32), .ref (G.2.2 p1), .int v2] (n := 6) (Nat.le_of_ble_eq_true rfl)
  rw [lg_entry_eq]
  generalize (lg_sl [.ref (G.2.2 32), .ref (G.2.2 p1), .int v2] ++ List.replicate (6 - (lg_sl [.ref (G.2.2 32), .ref (G.2.2 p1), .int v2]).length) Slot.unset).toArray = ls at hl ⊢
  have hl : lv_has ls 6 [(0, .ref (G.2.2 32)), (1, .ref (G.2.2 p1)), (2, .int v2)] := hl
  unfold fn_X6_unit at h
  refine lv_aload_n hx hb dX6_unit_0 rfl (lv_at hl 0 rfl) ?_
  refine lv_bipush (v := 40) hx hb dX6_unit_1 (by decide) ?_
  obtain ⟨r2, z3, h1, h⟩ := bd_s h
  refine x_Vi (Rz := (r2, z3)) (As := [.int 40]) (rest := []) ⟨hx, hb, hml, hown, hts⟩ hK hP hS (kd_lt k_32 (by decide)) (cell_6 k_32) rfl (m_X6_isSign hG   h1) (cwV 1 hts (gV lw_841 lw_843 lw_14 lw_112 lw_844) rfl rfl rfl (by decide +kernel) (rmd_ok (by omega) (by decide))) rfl hl.1 rfl (Nat.le_of_ble_eq_true rfl) dX6_unit_3 ⟨Nat.le_refl _, Nat.le_refl _⟩ (fun H locs hP hS => ?_)
  refine lv_istore_n (lv' := [(3, .int r2), (0, .ref (G.2.2 32)), (1, .ref (G.2.2 p1)), (2, .int v2)]) hx hb dX6_unit_6 rfl hl (by decide) rfl (fun ls hl => ?_)
  refine lv_aload_n hx hb dX6_unit_7 rfl (lv_at hl 1 rfl) ?_
  obtain ⟨r5, z6, h4, h⟩ := bd_s h
  refine x_Vi (Rz := (r5, z6)) (As := []) (rest := []) ⟨hx, hb, hml, hown, hts⟩ hK hP hS (kd_lt k_32 (by decide)) (cell_6 k_32) rfl (m_X6_plainUnit hG   h4) (cwV 0 hts (gV lw_893 lw_895 lw_24 lw_112 lw_896) rfl rfl rfl (by decide +kernel) (rmd_ok (by omega) (by decide))) rfl hl.1 rfl (Nat.le_of_ble_eq_true rfl) dX6_unit_8 ⟨Nat.le_refl _, Nat.le_refl _⟩ (fun H locs hP hS => ?_)
  refine lv_istore (lv' := [(4, .int r5), (3, .int r2), (0, .ref (G.2.2 32)), (1, .ref (G.2.2 p1)), (2, .int v2)]) hx hb dX6_unit_11 hl (by decide) rfl (fun ls hl => ?_)
  refine lv_iload_n hx hb dX6_unit_13 rfl (lv_at hl 1 rfl) ?_
  refine lv_if_eq (tgt := 31) hx hb dX6_unit_14 (by decide) (fun c7 => ?_) (fun c7 => ?_)
  · rw [if_pos c7] at h
    refine lv_iload hx hb dX6_unit_31 (lv_at hl 0 rfl) ?_
    refine lv_iconst (v := (-1)) hx hb dX6_unit_33 (by decide) ?_
    refine lv_icmp_eq (tgt := 41) hx hb dX6_unit_34 (by decide) (fun c8 => ?_) (fun c8 => ?_)
    · rw [if_pos c8] at h
      refine lv_iconst (v := 0) hx hb dX6_unit_41 (by decide) ?_
      exact pf_X6_unit_42 C hd0 hD hkE  p1 v2 r2 r5 0 z6 hk1 hP hS (lv_sub hl [2, 3, 4, 1, 0] rfl) h
    · rw [if_neg c8] at h
      refine lv_iconst (v := 1) hx hb dX6_unit_37 (by decide) ?_
      refine lv_goto (tgt := 42) hx hb dX6_unit_38 (by decide) ?_
      exact pf_X6_unit_42 C hd0 hD hkE  p1 v2 r2 r5 1 z6 hk1 hP hS (lv_sub hl [2, 3, 4, 1, 0] rfl) h
  · rw [if_neg c7] at h
    refine lv_iload_n hx hb dX6_unit_17 rfl (lv_at hl 4 rfl) ?_
    refine lv_bipush (v := 6) hx hb dX6_unit_18 (by decide) ?_
    refine lv_icmp_gt (tgt := 27) hx hb dX6_unit_20 (by decide) (fun c9 => ?_) (fun c9 => ?_)
    · rw [if_pos c9] at h
      refine lv_iconst (v := 0) hx hb dX6_unit_27 (by decide) ?_
      refine lv_goto (tgt := 42) hx hb dX6_unit_28 (by decide) ?_
      exact pf_X6_unit_42 C hd0 hD hkE  p1 v2 r2 r5 0 z6 hk1 hP hS (lv_sub hl [2, 3, 4, 1, 0] rfl) h
    · rw [if_neg c9] at h
      refine lv_iconst (v := 1) hx hb dX6_unit_23 (by decide) ?_
      refine lv_goto (tgt := 42) hx hb dX6_unit_24 (by decide) ?_
      exact pf_X6_unit_42 C hd0 hD hkE  p1 v2 r2 r5 1 z6 hk1 hP hS (lv_sub hl [2, 3, 4, 1, 0] rfl) h
def fn_X6_term_72 (kE : Nat → Int32 → St → Option St) (k8 : Nat → Int32 → Int32 → St → Option (St)) (p1 : Nat) (v2 : Int32) (v3 : Int32) (tv0 : Int32) (z : St) : Option (St) := bv (fn_X6_advance   z) (fun z2 => bv (fn_X6_unit kE p1 v2 z2) (fun z4 => bv (fn_X2_add  p1 tv0 0 z4) (fun z6 => k8 p1 v2 (v3 + 1) z6)))
set_option maxHeartbeats 4000000 in
set_option maxRecDepth 100000 in
theorem pf_X6_term_72 {p : Program} {l : Launch} {e : Env} {s : State} {m : MethodId} {args : Array Value} {below : List Frame} {meth : Method} {c : Code} {G : wG} (C : CX p s m args meth c cX6_term 5 (wsU yX6_term cX6_term 5 none) RX6 none G) {Rz : St} {kE : Nat → Int32 → St → Option St} {k8 : Nat → Int32 → Int32 → St → Option (St)} {dd D : Nat} (hd0 : 10 ≤ dd) (hD : dd + 2 ≤ D) (hkE : ∀ {p1 : Nat} {v2 : Int32} {z : St} {Rz : St}, kd p1 = 2 → kE p1 v2 z = some Rz → Met l yX6_either (wsU yX6_either cX6_either 4 none) (rmd dd) (va_Pc [.ref (G.2.2 32), .ref (G.2.2 p1), .int v2] (Pre G z)) (va_Qv (fun u => u = Rz) (Pre G) (AW G)) 0 0 (AW G)) (hk_8 : ∀ (p1 : Nat) (v2 : Int32) (v3 : Int32) (z : St) (hk1 : kd p1 = 2) (H : Heap) (locs : List Loc) (ls : Array Slot), WP G z H → va_S (AW G) s.heap H locs → lv_has ls 5 [(0, .ref (G.2.2 32)), (1, .ref (G.2.2 p1)), (2, .int v2), (3, .int v3)] → k8 p1 v2 v3 z = some Rz → W p l e (rmd D) s m args below meth c H locs 0 0 (QV below args s G Rz) (F0 m 8 ls [])) (p1 : Nat) (v2 : Int32) (v3 : Int32) (tv0 : Int32) (z : St) (hk1 : kd p1 = 2) {H : Heap} {locs : List Loc} {ls : Array Slot} (hP : WP G z H) (hS : va_S (AW G) s.heap H locs) (hl : lv_has ls 5 [(0, .ref (G.2.2 32)), (1, .ref (G.2.2 p1)), (2, .int v2), (3, .int v3)]) (h : fn_X6_term_72 kE k8 p1 v2 v3 tv0 z = some Rz) : W p l e (rmd D) s m args below meth c H locs 0 0 (QV below args s G Rz) (F0 m 72 ls [.int tv0]) := by
  obtain ⟨hx, hb, hml, hown, hts, hr, hlocks, hK, hG⟩ := id C
  unfold fn_X6_term_72 at h
  refine lv_istore (lv' := [(4, .int tv0), (0, .ref (G.2.2 32)), (1, .ref (G.2.2 p1)), (2, .int v2), (3, .int v3)]) hx hb dX6_term_72 hl (by decide) rfl (fun ls hl => ?_)
  refine lv_aload_n hx hb dX6_term_74 rfl (lv_at hl 1 rfl) ?_
  obtain ⟨z2, h1, h⟩ := bv_s h
  refine x_Vv (Rz := z2) (As := []) (rest := []) ⟨hx, hb, hml, hown, hts⟩ hK hP hS (kd_lt k_32 (by decide)) (cell_6 k_32) rfl (m_X6_advance hG   h1) (cwV 0 hts (gV lw_777 lw_779 lw_1 lw_112 lw_780) rfl rfl rfl (by decide +kernel) (rmd_ok (by omega) (by decide))) rfl hl.1 rfl (Nat.le_of_ble_eq_true rfl) dX6_term_75 ⟨Nat.le_refl _, Nat.le_refl _⟩ (fun H locs hP hS => ?_)
  refine lv_aload_n hx hb dX6_term_78 rfl (lv_at hl 1 rfl) ?_
  refine lv_aload_n hx hb dX6_term_79 rfl (lv_at hl 2 rfl) ?_
  refine lv_iload_n hx hb dX6_term_80 rfl (lv_at hl 3 rfl) ?_
  obtain ⟨z4, h3, h⟩ := bv_s h
  refine x_Vv (Rz := z4) (As := [.ref (G.2.2 p1), .int v2]) (rest := []) ⟨hx, hb, hml, hown, hts⟩ hK hP hS (kd_lt k_32 (by decide)) (cell_6 k_32) rfl (m_X6_unit hG (D := D - 1) hd0 (by omega) hkE hk1 h3) (cwV 2 hts (gV lw_889 lw_891 lw_23 lw_112 lw_892) rfl rfl rfl (by decide +kernel) (rmd_ok (by omega) (by decide))) rfl hl.1 rfl (Nat.le_of_ble_eq_true rfl) dX6_term_81 ⟨Nat.le_refl _, Nat.le_refl _⟩ (fun H locs hP hS => ?_)
  refine lv_aload_n hx hb dX6_term_84 rfl (lv_at hl 2 rfl) ?_
  refine lv_iload hx hb dX6_term_85 (lv_at hl 0 rfl) ?_
  refine lv_iconst (v := 0) hx hb dX6_term_87 (by decide) ?_
  obtain ⟨z6, h5, h⟩ := bv_s h
  refine x_Vv (Rz := z6) (As := [.int tv0, .int 0]) (rest := []) ⟨hx, hb, hml, hown, hts⟩ hK hP hS (kd_lt hk1 (by decide)) (cell_2 hk1) rfl (m_X2_add hG  hk1 h5) (cwV 2 hts (gV lw_901 lw_153 lw_154 lw_111 lw_155) rfl rfl rfl (by decide +kernel) (rmd_ok (by omega) (by decide))) rfl hl.1 rfl (Nat.le_of_ble_eq_true rfl) dX6_term_88 ⟨Nat.le_refl _, Nat.le_refl _⟩ (fun H locs hP hS => ?_)
  refine lv_iinc (v := (v3 + 1)) (lv' := [(3, .int (v3 + 1)), (4, .int tv0), (0, .ref (G.2.2 32)), (1, .ref (G.2.2 p1)), (2, .int v2)]) hx hb dX6_term_91 hl (k := 4) rfl rfl (by decide) rfl (fun ls hl => ?_)
  refine lv_goto (tgt := 8) hx hb dX6_term_94 (by decide) ?_
  exact hk_8 p1 v2 (v3 + 1) z6 hk1 _ _ _ hP hS (lv_sub hl [2, 3, 4, 0] rfl) h
def fn_X6_term_42 (kE : Nat → Int32 → St → Option St) (k8 : Nat → Int32 → Int32 → St → Option (St)) (p1 : Nat) (v2 : Int32) (v3 : Int32) (z : St) : Option (St) := bd (fn_X6_isSign  42 z) (fun r2 z3 => (if r2 = 0 then bd (fn_X6_isSign  47 z3) (fun r6 z7 => (if r6 = 0 then fn_X6_term_72 kE k8 p1 v2 v3 17 z7 else fn_X6_term_72 kE k8 p1 v2 v3 16 z7)) else fn_X6_term_72 kE k8 p1 v2 v3 15 z3))
set_option maxHeartbeats 4000000 in
set_option maxRecDepth 100000 in
theorem pf_X6_term_42 {p : Program} {l : Launch} {e : Env} {s : State} {m : MethodId} {args : Array Value} {below : List Frame} {meth : Method} {c : Code} {G : wG} (C : CX p s m args meth c cX6_term 5 (wsU yX6_term cX6_term 5 none) RX6 none G) {Rz : St} {kE : Nat → Int32 → St → Option St} {k8 : Nat → Int32 → Int32 → St → Option (St)} {dd D : Nat} (hd0 : 10 ≤ dd) (hD : dd + 2 ≤ D) (hkE : ∀ {p1 : Nat} {v2 : Int32} {z : St} {Rz : St}, kd p1 = 2 → kE p1 v2 z = some Rz → Met l yX6_either (wsU yX6_either cX6_either 4 none) (rmd dd) (va_Pc [.ref (G.2.2 32), .ref (G.2.2 p1), .int v2] (Pre G z)) (va_Qv (fun u => u = Rz) (Pre G) (AW G)) 0 0 (AW G)) (hk_8 : ∀ (p1 : Nat) (v2 : Int32) (v3 : Int32) (z : St) (hk1 : kd p1 = 2) (H : Heap) (locs : List Loc) (ls : Array Slot), WP G z H → va_S (AW G) s.heap H locs → lv_has ls 5 [(0, .ref (G.2.2 32)), (1, .ref (G.2.2 p1)), (2, .int v2), (3, .int v3)] → k8 p1 v2 v3 z = some Rz → W p l e (rmd D) s m args below meth c H locs 0 0 (QV below args s G Rz) (F0 m 8 ls [])) (p1 : Nat) (v2 : Int32) (v3 : Int32) (z : St) (hk1 : kd p1 = 2) {H : Heap} {locs : List Loc} {ls : Array Slot} (hP : WP G z H) (hS : va_S (AW G) s.heap H locs) (hl : lv_has ls 5 [(0, .ref (G.2.2 32)), (1, .ref (G.2.2 p1)), (2, .int v2), (3, .int v3)]) (h : fn_X6_term_42 kE k8 p1 v2 v3 z = some Rz) : W p l e (rmd D) s m args below meth c H locs 0 0 (QV below args s G Rz) (F0 m 42 ls []) := by
  obtain ⟨hx, hb, hml, hown, hts, hr, hlocks, hK, hG⟩ := id C
  unfold fn_X6_term_42 at h
  refine lv_aload_n hx hb dX6_term_42 rfl (lv_at hl 0 rfl) ?_
  refine lv_bipush (v := 42) hx hb dX6_term_43 (by decide) ?_
  obtain ⟨r2, z3, h1, h⟩ := bd_s h
  refine x_Vi (Rz := (r2, z3)) (As := [.int 42]) (rest := []) ⟨hx, hb, hml, hown, hts⟩ hK hP hS (kd_lt k_32 (by decide)) (cell_6 k_32) rfl (m_X6_isSign hG   h1) (cwV 1 hts (gV lw_841 lw_843 lw_14 lw_112 lw_844) rfl rfl rfl (by decide +kernel) (rmd_ok (by omega) (by decide))) rfl hl.1 rfl (Nat.le_of_ble_eq_true rfl) dX6_term_45 ⟨Nat.le_refl _, Nat.le_refl _⟩ (fun H locs hP hS => ?_)
  refine lv_if_eq (tgt := 56) hx hb dX6_term_48 (by decide) (fun c4 => ?_) (fun c4 => ?_)
  · rw [if_pos c4] at h
    refine lv_aload_n hx hb dX6_term_56 rfl (lv_at hl 0 rfl) ?_
    refine lv_bipush (v := 47) hx hb dX6_term_57 (by decide) ?_
    obtain ⟨r6, z7, h5, h⟩ := bd_s h
    refine x_Vi (Rz := (r6, z7)) (As := [.int 47]) (rest := []) ⟨hx, hb, hml, hown, hts⟩ hK hP hS (kd_lt k_32 (by decide)) (cell_6 k_32) rfl (m_X6_isSign hG   h5) (cwV 1 hts (gV lw_841 lw_843 lw_14 lw_112 lw_844) rfl rfl rfl (by decide +kernel) (rmd_ok (by omega) (by decide))) rfl hl.1 rfl (Nat.le_of_ble_eq_true rfl) dX6_term_59 ⟨Nat.le_refl _, Nat.le_refl _⟩ (fun H locs hP hS => ?_)
    refine lv_if_eq (tgt := 70) hx hb dX6_term_62 (by decide) (fun c8 => ?_) (fun c8 => ?_)
    · rw [if_pos c8] at h
      refine lv_bipush (v := 17) hx hb dX6_term_70 (by decide) ?_
      exact pf_X6_term_72 C hd0 hD hkE hk_8 p1 v2 v3 17 z7 hk1 hP hS (lv_sub hl [0, 1, 2, 3] rfl) h
    · rw [if_neg c8] at h
      refine lv_bipush (v := 16) hx hb dX6_term_65 (by decide) ?_
      refine lv_goto (tgt := 72) hx hb dX6_term_67 (by decide) ?_
      exact pf_X6_term_72 C hd0 hD hkE hk_8 p1 v2 v3 16 z7 hk1 hP hS (lv_sub hl [0, 1, 2, 3] rfl) h
  · rw [if_neg c4] at h
    refine lv_bipush (v := 15) hx hb dX6_term_51 (by decide) ?_
    refine lv_goto (tgt := 72) hx hb dX6_term_53 (by decide) ?_
    exact pf_X6_term_72 C hd0 hD hkE hk_8 p1 v2 v3 15 z3 hk1 hP hS (lv_sub hl [0, 1, 2, 3] rfl) h
def fn_X6_term_8 (kE : Nat → Int32 → St → Option St) : Nat → Nat → Int32 → Int32 → St → Option (St)
  | 0, _, _, _, _ => none
  | n + 1, p1, v2, v3, z => (if 1600 ≤ v3 then some z else bd (fn_X6_isSign  42 z) (fun r3 z4 => (if r3 = 0 then bd (fn_X6_isSign  47 z4) (fun r7 z8 => (if r7 = 0 then bd (fn_X6_isSign  37 z8) (fun r11 z12 => (if r11 = 0 then some z12 else fn_X6_term_42 kE (fn_X6_term_8 kE  n) p1 v2 v3 z12)) else fn_X6_term_42 kE (fn_X6_term_8 kE  n) p1 v2 v3 z8)) else fn_X6_term_42 kE (fn_X6_term_8 kE  n) p1 v2 v3 z4)))
set_option maxHeartbeats 4000000 in
set_option maxRecDepth 100000 in
theorem pf_X6_term_8 {p : Program} {l : Launch} {e : Env} {s : State} {m : MethodId} {args : Array Value} {below : List Frame} {meth : Method} {c : Code} {G : wG} (C : CX p s m args meth c cX6_term 5 (wsU yX6_term cX6_term 5 none) RX6 none G) {Rz : St} {kE : Nat → Int32 → St → Option St} {dd D : Nat} (hd0 : 10 ≤ dd) (hD : dd + 2 ≤ D) (hkE : ∀ {p1 : Nat} {v2 : Int32} {z : St} {Rz : St}, kd p1 = 2 → kE p1 v2 z = some Rz → Met l yX6_either (wsU yX6_either cX6_either 4 none) (rmd dd) (va_Pc [.ref (G.2.2 32), .ref (G.2.2 p1), .int v2] (Pre G z)) (va_Qv (fun u => u = Rz) (Pre G) (AW G)) 0 0 (AW G)) : ∀ (n : Nat) (p1 : Nat) (v2 : Int32) (v3 : Int32) (z : St) (hk1 : kd p1 = 2) (H : Heap) (locs : List Loc) (ls : Array Slot), WP G z H → va_S (AW G) s.heap H locs → lv_has ls 5 [(0, .ref (G.2.2 32)), (1, .ref (G.2.2 p1)), (2, .int v2), (3, .int v3)] → fn_X6_term_8 kE  n p1 v2 v3 z = some Rz → W p l e (rmd D) s m args below meth c H locs 0 0 (QV below args s G Rz) (F0 m 8 ls []) := by
  obtain ⟨hx, hb, hml, hown, hts, hr, hlocks, hK, hG⟩ := id C
  intro n
  induction n with
  | zero => intro p1 v2 v3 z hk1 H locs ls hP hS hl h; cases h
  | succ n ih =>
    intro p1 v2 v3 z hk1 H locs ls hP hS hl h
    rw [fn_X6_term_8] at h
    refine lv_iload_n hx hb dX6_term_8 rfl (lv_at hl 3 rfl) ?_
    refine lv_sipush (v := 1600) hx hb dX6_term_9 (by decide) ?_
    refine lv_icmp_ge (tgt := 97) hx hb dX6_term_12 (by decide) (fun c1 => ?_) (fun c1 => ?_)
    · rw [if_pos c1] at h
      exact x_vret hx hb hr hlocks hK hP hS h dX6_term_97
    · rw [if_neg c1] at h
      refine lv_aload_n hx hb dX6_term_15 rfl (lv_at hl 0 rfl) ?_
      refine lv_bipush (v := 42) hx hb dX6_term_16 (by decide) ?_
      obtain ⟨r3, z4, h2, h⟩ := bd_s h
      refine x_Vi (Rz := (r3, z4)) (As := [.int 42]) (rest := []) ⟨hx, hb, hml, hown, hts⟩ hK hP hS (kd_lt k_32 (by decide)) (cell_6 k_32) rfl (m_X6_isSign hG   h2) (cwV 1 hts (gV lw_841 lw_843 lw_14 lw_112 lw_844) rfl rfl rfl (by decide +kernel) (rmd_ok (by omega) (by decide))) rfl hl.1 rfl (Nat.le_of_ble_eq_true rfl) dX6_term_18 ⟨Nat.le_refl _, Nat.le_refl _⟩ (fun H locs hP hS => ?_)
      refine lv_if_ne (tgt := 42) hx hb dX6_term_21 (by decide) (fun c5 => ?_) (fun c5 => ?_)
      · rw [if_neg c5] at h
        exact pf_X6_term_42 C hd0 hD hkE ih p1 v2 v3 z4 hk1 hP hS (lv_sub hl [0, 1, 2, 3] rfl) h
      · rw [if_pos c5] at h
        refine lv_aload_n hx hb dX6_term_24 rfl (lv_at hl 0 rfl) ?_
        refine lv_bipush (v := 47) hx hb dX6_term_25 (by decide) ?_
        obtain ⟨r7, z8, h6, h⟩ := bd_s h
        refine x_Vi (Rz := (r7, z8)) (As := [.int 47]) (rest := []) ⟨hx, hb, hml, hown, hts⟩ hK hP hS (kd_lt k_32 (by decide)) (cell_6 k_32) rfl (m_X6_isSign hG   h6) (cwV 1 hts (gV lw_841 lw_843 lw_14 lw_112 lw_844) rfl rfl rfl (by decide +kernel) (rmd_ok (by omega) (by decide))) rfl hl.1 rfl (Nat.le_of_ble_eq_true rfl) dX6_term_27 ⟨Nat.le_refl _, Nat.le_refl _⟩ (fun H locs hP hS => ?_)
        refine lv_if_ne (tgt := 42) hx hb dX6_term_30 (by decide) (fun c9 => ?_) (fun c9 => ?_)
        · rw [if_neg c9] at h
          exact pf_X6_term_42 C hd0 hD hkE ih p1 v2 v3 z8 hk1 hP hS (lv_sub hl [0, 1, 2, 3] rfl) h
        · rw [if_pos c9] at h
          refine lv_aload_n hx hb dX6_term_33 rfl (lv_at hl 0 rfl) ?_
          refine lv_bipush (v := 37) hx hb dX6_term_34 (by decide) ?_
          obtain ⟨r11, z12, h10, h⟩ := bd_s h
          refine x_Vi (Rz := (r11, z12)) (As := [.int 37]) (rest := []) ⟨hx, hb, hml, hown, hts⟩ hK hP hS (kd_lt k_32 (by decide)) (cell_6 k_32) rfl (m_X6_isSign hG   h10) (cwV 1 hts (gV lw_841 lw_843 lw_14 lw_112 lw_844) rfl rfl rfl (by decide +kernel) (rmd_ok (by omega) (by decide))) rfl hl.1 rfl (Nat.le_of_ble_eq_true rfl) dX6_term_36 ⟨Nat.le_refl _, Nat.le_refl _⟩ (fun H locs hP hS => ?_)
          refine lv_if_eq (tgt := 97) hx hb dX6_term_39 (by decide) (fun c13 => ?_) (fun c13 => ?_)
          · rw [if_pos c13] at h
            exact x_vret hx hb hr hlocks hK hP hS h dX6_term_97
          · rw [if_neg c13] at h
            exact pf_X6_term_42 C hd0 hD hkE ih p1 v2 v3 z12 hk1 hP hS (lv_sub hl [0, 1, 2, 3] rfl) h
def fn_X6_term (kE : Nat → Int32 → St → Option St) (p1 : Nat) (v2 : Int32) (z : St) : Option (St) := bv (fn_X6_unit kE p1 v2 z) (fun z2 => fn_X6_term_8 kE  fu p1 v2 0 z2)
set_option maxHeartbeats 4000000 in
set_option maxRecDepth 100000 in
theorem m_X6_term {l : Launch} {G : wG} (hG : Ok G) {kE : Nat → Int32 → St → Option St} {dd D : Nat} (hd0 : 10 ≤ dd) (hD : dd + 2 ≤ D) (hkE : ∀ {p1 : Nat} {v2 : Int32} {z : St} {Rz : St}, kd p1 = 2 → kE p1 v2 z = some Rz → Met l yX6_either (wsU yX6_either cX6_either 4 none) (rmd dd) (va_Pc [.ref (G.2.2 32), .ref (G.2.2 p1), .int v2] (Pre G z)) (va_Qv (fun u => u = Rz) (Pre G) (AW G)) 0 0 (AW G)) {p1 : Nat} {v2 : Int32} {z : St} {Rz : St} (hk1 : kd p1 = 2) (h : fn_X6_term kE p1 v2 z = some Rz) : Met l yX6_term (wsU yX6_term cX6_term 5 none) (rmd D) (va_Pc [.ref (G.2.2 32), .ref (G.2.2 p1), .int v2] (Pre G z)) (va_Qv (fun u => u = Rz) (Pre G) (AW G)) 0 0 (AW G) := by
  refine Met.ofW (cc := cX6_term) (maxL := 5) (ret := none) (by decide) rfl ?_
  intro p e s m args below meth c s₁ B hml hv
  obtain ⟨rfl, hP, hK⟩ := hv
  have C : CX p s m ([.ref (G.2.2 32), .ref (G.2.2 p1), .int v2] : List Value).toArray meth c cX6_term 5 (wsU yX6_term cX6_term 5 none) RX6 none G := ⟨B.exec, B.bytes, hml, findClass_of_methodNamed B.named, atoms_spec (ws := (wsU yX6_term cX6_term 5 none)) B.pre, B.returns, B.notSynchronized, hK, hG⟩
  obtain ⟨hx, hb, -, hown, hts, hr, hlocks, -, -⟩ := id C
  have hS : va_S (AW G) s.heap s.heap [] := va_S.rf
  have hl := lv_entry [.ref (G.2.2 32), .ref (G.2.2 p1), .int v2] (n := 5) (Nat.le_of_ble_eq_true rfl)
  rw [lg_entry_eq]
  generalize (lg_sl [.ref (G.2.2 32), .ref (G.2.2 p1), .int v2] ++ List.replicate (5 - (lg_sl [.ref (G.2.2 32), .ref (G.2.2 p1), .int v2]).length) Slot.unset).toArray = ls at hl ⊢
  have hl : lv_has ls 5 [(0, .ref (G.2.2 32)), (1, .ref (G.2.2 p1)), (2, .int v2)] := hl
  unfold fn_X6_term at h
  refine lv_aload_n hx hb dX6_term_0 rfl (lv_at hl 0 rfl) ?_
  refine lv_aload_n hx hb dX6_term_1 rfl (lv_at hl 1 rfl) ?_
  refine lv_iload_n hx hb dX6_term_2 rfl (lv_at hl 2 rfl) ?_
  obtain ⟨z2, h1, h⟩ := bv_s h
  refine x_Vv (Rz := z2) (As := [.ref (G.2.2 p1), .int v2]) (rest := []) ⟨hx, hb, hml, hown, hts⟩ hK hP hS (kd_lt k_32 (by decide)) (cell_6 k_32) rfl (m_X6_unit hG (D := D - 1) hd0 (by omega) hkE hk1 h1) (cwV 2 hts (gV lw_889 lw_891 lw_23 lw_112 lw_892) rfl rfl rfl (by decide +kernel) (rmd_ok (by omega) (by decide))) rfl hl.1 rfl (Nat.le_of_ble_eq_true rfl) dX6_term_3 ⟨Nat.le_refl _, Nat.le_refl _⟩ (fun H locs hP hS => ?_)
  refine lv_iconst (v := 0) hx hb dX6_term_6 (by decide) ?_
  refine lv_istore_n (lv' := [(3, .int 0), (0, .ref (G.2.2 32)), (1, .ref (G.2.2 p1)), (2, .int v2)]) hx hb dX6_term_7 rfl hl (by decide) rfl (fun ls hl => ?_)
  exact pf_X6_term_8 C hd0 hD hkE  fu p1 v2 0 z2 hk1 _ _ _ hP hS (lv_sub hl [1, 2, 3, 0] rfl) h
def fn_X6_sum_49 (kE : Nat → Int32 → St → Option St) (k8 : Nat → Int32 → Int32 → St → Option (St)) (p1 : Nat) (v2 : Int32) (v3 : Int32) (tv0 : Int32) (z : St) : Option (St) := bv (fn_X6_advance   z) (fun z2 => bv (fn_X6_term kE p1 v2 z2) (fun z4 => bv (fn_X2_add  p1 tv0 0 z4) (fun z6 => k8 p1 v2 (v3 + 1) z6)))
set_option maxHeartbeats 4000000 in
set_option maxRecDepth 100000 in
theorem pf_X6_sum_49 {p : Program} {l : Launch} {e : Env} {s : State} {m : MethodId} {args : Array Value} {below : List Frame} {meth : Method} {c : Code} {G : wG} (C : CX p s m args meth c cX6_sum 5 (wsU yX6_sum cX6_sum 5 none) RX6 none G) {Rz : St} {kE : Nat → Int32 → St → Option St} {k8 : Nat → Int32 → Int32 → St → Option (St)} {dd D : Nat} (hd0 : 10 ≤ dd) (hD : dd + 3 ≤ D) (hkE : ∀ {p1 : Nat} {v2 : Int32} {z : St} {Rz : St}, kd p1 = 2 → kE p1 v2 z = some Rz → Met l yX6_either (wsU yX6_either cX6_either 4 none) (rmd dd) (va_Pc [.ref (G.2.2 32), .ref (G.2.2 p1), .int v2] (Pre G z)) (va_Qv (fun u => u = Rz) (Pre G) (AW G)) 0 0 (AW G)) (hk_8 : ∀ (p1 : Nat) (v2 : Int32) (v3 : Int32) (z : St) (hk1 : kd p1 = 2) (H : Heap) (locs : List Loc) (ls : Array Slot), WP G z H → va_S (AW G) s.heap H locs → lv_has ls 5 [(0, .ref (G.2.2 32)), (1, .ref (G.2.2 p1)), (2, .int v2), (3, .int v3)] → k8 p1 v2 v3 z = some Rz → W p l e (rmd D) s m args below meth c H locs 0 0 (QV below args s G Rz) (F0 m 8 ls [])) (p1 : Nat) (v2 : Int32) (v3 : Int32) (tv0 : Int32) (z : St) (hk1 : kd p1 = 2) {H : Heap} {locs : List Loc} {ls : Array Slot} (hP : WP G z H) (hS : va_S (AW G) s.heap H locs) (hl : lv_has ls 5 [(0, .ref (G.2.2 32)), (1, .ref (G.2.2 p1)), (2, .int v2), (3, .int v3)]) (h : fn_X6_sum_49 kE k8 p1 v2 v3 tv0 z = some Rz) : W p l e (rmd D) s m args below meth c H locs 0 0 (QV below args s G Rz) (F0 m 49 ls [.int tv0]) := by
  obtain ⟨hx, hb, hml, hown, hts, hr, hlocks, hK, hG⟩ := id C
  unfold fn_X6_sum_49 at h
  refine lv_istore (lv' := [(4, .int tv0), (0, .ref (G.2.2 32)), (1, .ref (G.2.2 p1)), (2, .int v2), (3, .int v3)]) hx hb dX6_sum_49 hl (by decide) rfl (fun ls hl => ?_)
  refine lv_aload_n hx hb dX6_sum_51 rfl (lv_at hl 1 rfl) ?_
  obtain ⟨z2, h1, h⟩ := bv_s h
  refine x_Vv (Rz := z2) (As := []) (rest := []) ⟨hx, hb, hml, hown, hts⟩ hK hP hS (kd_lt k_32 (by decide)) (cell_6 k_32) rfl (m_X6_advance hG   h1) (cwV 0 hts (gV lw_777 lw_779 lw_1 lw_112 lw_780) rfl rfl rfl (by decide +kernel) (rmd_ok (by omega) (by decide))) rfl hl.1 rfl (Nat.le_of_ble_eq_true rfl) dX6_sum_52 ⟨Nat.le_refl _, Nat.le_refl _⟩ (fun H locs hP hS => ?_)
  refine lv_aload_n hx hb dX6_sum_55 rfl (lv_at hl 1 rfl) ?_
  refine lv_aload_n hx hb dX6_sum_56 rfl (lv_at hl 2 rfl) ?_
  refine lv_iload_n hx hb dX6_sum_57 rfl (lv_at hl 3 rfl) ?_
  obtain ⟨z4, h3, h⟩ := bv_s h
  refine x_Vv (Rz := z4) (As := [.ref (G.2.2 p1), .int v2]) (rest := []) ⟨hx, hb, hml, hown, hts⟩ hK hP hS (kd_lt k_32 (by decide)) (cell_6 k_32) rfl (m_X6_term hG (D := D - 1) hd0 (by omega) hkE hk1 h3) (cwV 2 hts (gV lw_885 lw_887 lw_22 lw_112 lw_888) rfl rfl rfl (by decide +kernel) (rmd_ok (by omega) (by decide))) rfl hl.1 rfl (Nat.le_of_ble_eq_true rfl) dX6_sum_58 ⟨Nat.le_refl _, Nat.le_refl _⟩ (fun H locs hP hS => ?_)
  refine lv_aload_n hx hb dX6_sum_61 rfl (lv_at hl 2 rfl) ?_
  refine lv_iload hx hb dX6_sum_62 (lv_at hl 0 rfl) ?_
  refine lv_iconst (v := 0) hx hb dX6_sum_64 (by decide) ?_
  obtain ⟨z6, h5, h⟩ := bv_s h
  refine x_Vv (Rz := z6) (As := [.int tv0, .int 0]) (rest := []) ⟨hx, hb, hml, hown, hts⟩ hK hP hS (kd_lt hk1 (by decide)) (cell_2 hk1) rfl (m_X2_add hG  hk1 h5) (cwV 2 hts (gV lw_901 lw_153 lw_154 lw_111 lw_155) rfl rfl rfl (by decide +kernel) (rmd_ok (by omega) (by decide))) rfl hl.1 rfl (Nat.le_of_ble_eq_true rfl) dX6_sum_65 ⟨Nat.le_refl _, Nat.le_refl _⟩ (fun H locs hP hS => ?_)
  refine lv_iinc (v := (v3 + 1)) (lv' := [(3, .int (v3 + 1)), (4, .int tv0), (0, .ref (G.2.2 32)), (1, .ref (G.2.2 p1)), (2, .int v2)]) hx hb dX6_sum_68 hl (k := 4) rfl rfl (by decide) rfl (fun ls hl => ?_)
  refine lv_goto (tgt := 8) hx hb dX6_sum_71 (by decide) ?_
  exact hk_8 p1 v2 (v3 + 1) z6 hk1 _ _ _ hP hS (lv_sub hl [2, 3, 4, 0] rfl) h
def fn_X6_sum_33 (kE : Nat → Int32 → St → Option St) (k8 : Nat → Int32 → Int32 → St → Option (St)) (p1 : Nat) (v2 : Int32) (v3 : Int32) (z : St) : Option (St) := bd (fn_X6_isSign  43 z) (fun r2 z3 => (if r2 = 0 then fn_X6_sum_49 kE k8 p1 v2 v3 14 z3 else fn_X6_sum_49 kE k8 p1 v2 v3 13 z3))
set_option maxHeartbeats 4000000 in
set_option maxRecDepth 100000 in
theorem pf_X6_sum_33 {p : Program} {l : Launch} {e : Env} {s : State} {m : MethodId} {args : Array Value} {below : List Frame} {meth : Method} {c : Code} {G : wG} (C : CX p s m args meth c cX6_sum 5 (wsU yX6_sum cX6_sum 5 none) RX6 none G) {Rz : St} {kE : Nat → Int32 → St → Option St} {k8 : Nat → Int32 → Int32 → St → Option (St)} {dd D : Nat} (hd0 : 10 ≤ dd) (hD : dd + 3 ≤ D) (hkE : ∀ {p1 : Nat} {v2 : Int32} {z : St} {Rz : St}, kd p1 = 2 → kE p1 v2 z = some Rz → Met l yX6_either (wsU yX6_either cX6_either 4 none) (rmd dd) (va_Pc [.ref (G.2.2 32), .ref (G.2.2 p1), .int v2] (Pre G z)) (va_Qv (fun u => u = Rz) (Pre G) (AW G)) 0 0 (AW G)) (hk_8 : ∀ (p1 : Nat) (v2 : Int32) (v3 : Int32) (z : St) (hk1 : kd p1 = 2) (H : Heap) (locs : List Loc) (ls : Array Slot), WP G z H → va_S (AW G) s.heap H locs → lv_has ls 5 [(0, .ref (G.2.2 32)), (1, .ref (G.2.2 p1)), (2, .int v2), (3, .int v3)] → k8 p1 v2 v3 z = some Rz → W p l e (rmd D) s m args below meth c H locs 0 0 (QV below args s G Rz) (F0 m 8 ls [])) (p1 : Nat) (v2 : Int32) (v3 : Int32) (z : St) (hk1 : kd p1 = 2) {H : Heap} {locs : List Loc} {ls : Array Slot} (hP : WP G z H) (hS : va_S (AW G) s.heap H locs) (hl : lv_has ls 5 [(0, .ref (G.2.2 32)), (1, .ref (G.2.2 p1)), (2, .int v2), (3, .int v3)]) (h : fn_X6_sum_33 kE k8 p1 v2 v3 z = some Rz) : W p l e (rmd D) s m args below meth c H locs 0 0 (QV below args s G Rz) (F0 m 33 ls []) := by
  obtain ⟨hx, hb, hml, hown, hts, hr, hlocks, hK, hG⟩ := id C
  unfold fn_X6_sum_33 at h
  refine lv_aload_n hx hb dX6_sum_33 rfl (lv_at hl 0 rfl) ?_
  refine lv_bipush (v := 43) hx hb dX6_sum_34 (by decide) ?_
  obtain ⟨r2, z3, h1, h⟩ := bd_s h
  refine x_Vi (Rz := (r2, z3)) (As := [.int 43]) (rest := []) ⟨hx, hb, hml, hown, hts⟩ hK hP hS (kd_lt k_32 (by decide)) (cell_6 k_32) rfl (m_X6_isSign hG   h1) (cwV 1 hts (gV lw_841 lw_843 lw_14 lw_112 lw_844) rfl rfl rfl (by decide +kernel) (rmd_ok (by omega) (by decide))) rfl hl.1 rfl (Nat.le_of_ble_eq_true rfl) dX6_sum_36 ⟨Nat.le_refl _, Nat.le_refl _⟩ (fun H locs hP hS => ?_)
  refine lv_if_eq (tgt := 47) hx hb dX6_sum_39 (by decide) (fun c4 => ?_) (fun c4 => ?_)
  · rw [if_pos c4] at h
    refine lv_bipush (v := 14) hx hb dX6_sum_47 (by decide) ?_
    exact pf_X6_sum_49 C hd0 hD hkE hk_8 p1 v2 v3 14 z3 hk1 hP hS (lv_sub hl [0, 1, 2, 3] rfl) h
  · rw [if_neg c4] at h
    refine lv_bipush (v := 13) hx hb dX6_sum_42 (by decide) ?_
    refine lv_goto (tgt := 49) hx hb dX6_sum_44 (by decide) ?_
    exact pf_X6_sum_49 C hd0 hD hkE hk_8 p1 v2 v3 13 z3 hk1 hP hS (lv_sub hl [0, 1, 2, 3] rfl) h
def fn_X6_sum_8 (kE : Nat → Int32 → St → Option St) : Nat → Nat → Int32 → Int32 → St → Option (St)
  | 0, _, _, _, _ => none
  | n + 1, p1, v2, v3, z => (if 1600 ≤ v3 then some z else bd (fn_X6_isSign  43 z) (fun r3 z4 => (if r3 = 0 then bd (fn_X6_isSign  45 z4) (fun r7 z8 => (if r7 = 0 then some z8 else fn_X6_sum_33 kE (fn_X6_sum_8 kE  n) p1 v2 v3 z8)) else fn_X6_sum_33 kE (fn_X6_sum_8 kE  n) p1 v2 v3 z4)))
set_option maxHeartbeats 4000000 in
set_option maxRecDepth 100000 in
theorem pf_X6_sum_8 {p : Program} {l : Launch} {e : Env} {s : State} {m : MethodId} {args : Array Value} {below : List Frame} {meth : Method} {c : Code} {G : wG} (C : CX p s m args meth c cX6_sum 5 (wsU yX6_sum cX6_sum 5 none) RX6 none G) {Rz : St} {kE : Nat → Int32 → St → Option St} {dd D : Nat} (hd0 : 10 ≤ dd) (hD : dd + 3 ≤ D) (hkE : ∀ {p1 : Nat} {v2 : Int32} {z : St} {Rz : St}, kd p1 = 2 → kE p1 v2 z = some Rz → Met l yX6_either (wsU yX6_either cX6_either 4 none) (rmd dd) (va_Pc [.ref (G.2.2 32), .ref (G.2.2 p1), .int v2] (Pre G z)) (va_Qv (fun u => u = Rz) (Pre G) (AW G)) 0 0 (AW G)) : ∀ (n : Nat) (p1 : Nat) (v2 : Int32) (v3 : Int32) (z : St) (hk1 : kd p1 = 2) (H : Heap) (locs : List Loc) (ls : Array Slot), WP G z H → va_S (AW G) s.heap H locs → lv_has ls 5 [(0, .ref (G.2.2 32)), (1, .ref (G.2.2 p1)), (2, .int v2), (3, .int v3)] → fn_X6_sum_8 kE  n p1 v2 v3 z = some Rz → W p l e (rmd D) s m args below meth c H locs 0 0 (QV below args s G Rz) (F0 m 8 ls []) := by
  obtain ⟨hx, hb, hml, hown, hts, hr, hlocks, hK, hG⟩ := id C
  intro n
  induction n with
  | zero => intro p1 v2 v3 z hk1 H locs ls hP hS hl h; cases h
  | succ n ih =>
    intro p1 v2 v3 z hk1 H locs ls hP hS hl h
    rw [fn_X6_sum_8] at h
    refine lv_iload_n hx hb dX6_sum_8 rfl (lv_at hl 3 rfl) ?_
    refine lv_sipush (v := 1600) hx hb dX6_sum_9 (by decide) ?_
    refine lv_icmp_ge (tgt := 74) hx hb dX6_sum_12 (by decide) (fun c1 => ?_) (fun c1 => ?_)
    · rw [if_pos c1] at h
      exact x_vret hx hb hr hlocks hK hP hS h dX6_sum_74
    · rw [if_neg c1] at h
      refine lv_aload_n hx hb dX6_sum_15 rfl (lv_at hl 0 rfl) ?_
      refine lv_bipush (v := 43) hx hb dX6_sum_16 (by decide) ?_
      obtain ⟨r3, z4, h2, h⟩ := bd_s h
      refine x_Vi (Rz := (r3, z4)) (As := [.int 43]) (rest := []) ⟨hx, hb, hml, hown, hts⟩ hK hP hS (kd_lt k_32 (by decide)) (cell_6 k_32) rfl (m_X6_isSign hG   h2) (cwV 1 hts (gV lw_841 lw_843 lw_14 lw_112 lw_844) rfl rfl rfl (by decide +kernel) (rmd_ok (by omega) (by decide))) rfl hl.1 rfl (Nat.le_of_ble_eq_true rfl) dX6_sum_18 ⟨Nat.le_refl _, Nat.le_refl _⟩ (fun H locs hP hS => ?_)
      refine lv_if_ne (tgt := 33) hx hb dX6_sum_21 (by decide) (fun c5 => ?_) (fun c5 => ?_)
      · rw [if_neg c5] at h
        exact pf_X6_sum_33 C hd0 hD hkE ih p1 v2 v3 z4 hk1 hP hS (lv_sub hl [0, 1, 2, 3] rfl) h
      · rw [if_pos c5] at h
        refine lv_aload_n hx hb dX6_sum_24 rfl (lv_at hl 0 rfl) ?_
        refine lv_bipush (v := 45) hx hb dX6_sum_25 (by decide) ?_
        obtain ⟨r7, z8, h6, h⟩ := bd_s h
        refine x_Vi (Rz := (r7, z8)) (As := [.int 45]) (rest := []) ⟨hx, hb, hml, hown, hts⟩ hK hP hS (kd_lt k_32 (by decide)) (cell_6 k_32) rfl (m_X6_isSign hG   h6) (cwV 1 hts (gV lw_841 lw_843 lw_14 lw_112 lw_844) rfl rfl rfl (by decide +kernel) (rmd_ok (by omega) (by decide))) rfl hl.1 rfl (Nat.le_of_ble_eq_true rfl) dX6_sum_27 ⟨Nat.le_refl _, Nat.le_refl _⟩ (fun H locs hP hS => ?_)
        refine lv_if_eq (tgt := 74) hx hb dX6_sum_30 (by decide) (fun c9 => ?_) (fun c9 => ?_)
        · rw [if_pos c9] at h
          exact x_vret hx hb hr hlocks hK hP hS h dX6_sum_74
        · rw [if_neg c9] at h
          exact pf_X6_sum_33 C hd0 hD hkE ih p1 v2 v3 z8 hk1 hP hS (lv_sub hl [0, 1, 2, 3] rfl) h
def fn_X6_sum (kE : Nat → Int32 → St → Option St) (p1 : Nat) (v2 : Int32) (z : St) : Option (St) := bv (fn_X6_term kE p1 v2 z) (fun z2 => fn_X6_sum_8 kE  fu p1 v2 0 z2)
set_option maxHeartbeats 4000000 in
set_option maxRecDepth 100000 in
theorem m_X6_sum {l : Launch} {G : wG} (hG : Ok G) {kE : Nat → Int32 → St → Option St} {dd D : Nat} (hd0 : 10 ≤ dd) (hD : dd + 3 ≤ D) (hkE : ∀ {p1 : Nat} {v2 : Int32} {z : St} {Rz : St}, kd p1 = 2 → kE p1 v2 z = some Rz → Met l yX6_either (wsU yX6_either cX6_either 4 none) (rmd dd) (va_Pc [.ref (G.2.2 32), .ref (G.2.2 p1), .int v2] (Pre G z)) (va_Qv (fun u => u = Rz) (Pre G) (AW G)) 0 0 (AW G)) {p1 : Nat} {v2 : Int32} {z : St} {Rz : St} (hk1 : kd p1 = 2) (h : fn_X6_sum kE p1 v2 z = some Rz) : Met l yX6_sum (wsU yX6_sum cX6_sum 5 none) (rmd D) (va_Pc [.ref (G.2.2 32), .ref (G.2.2 p1), .int v2] (Pre G z)) (va_Qv (fun u => u = Rz) (Pre G) (AW G)) 0 0 (AW G) := by
  refine Met.ofW (cc := cX6_sum) (maxL := 5) (ret := none) (by decide) rfl ?_
  intro p e s m args below meth c s₁ B hml hv
  obtain ⟨rfl, hP, hK⟩ := hv
  have C : CX p s m ([.ref (G.2.2 32), .ref (G.2.2 p1), .int v2] : List Value).toArray meth c cX6_sum 5 (wsU yX6_sum cX6_sum 5 none) RX6 none G := ⟨B.exec, B.bytes, hml, findClass_of_methodNamed B.named, atoms_spec (ws := (wsU yX6_sum cX6_sum 5 none)) B.pre, B.returns, B.notSynchronized, hK, hG⟩
  obtain ⟨hx, hb, -, hown, hts, hr, hlocks, -, -⟩ := id C
  have hS : va_S (AW G) s.heap s.heap [] := va_S.rf
  have hl := lv_entry [.ref (G.2.2 32), .ref (G.2.2 p1), .int v2] (n := 5) (Nat.le_of_ble_eq_true rfl)
  rw [lg_entry_eq]
  generalize (lg_sl [.ref (G.2.2 32), .ref (G.2.2 p1), .int v2] ++ List.replicate (5 - (lg_sl [.ref (G.2.2 32), .ref (G.2.2 p1), .int v2]).length) Slot.unset).toArray = ls at hl ⊢
  have hl : lv_has ls 5 [(0, .ref (G.2.2 32)), (1, .ref (G.2.2 p1)), (2, .int v2)] := hl
  unfold fn_X6_sum at h
  refine lv_aload_n hx hb dX6_sum_0 rfl (lv_at hl 0 rfl) ?_
  refine lv_aload_n hx hb dX6_sum_1 rfl (lv_at hl 1 rfl) ?_
  refine lv_iload_n hx hb dX6_sum_2 rfl (lv_at hl 2 rfl) ?_
  obtain ⟨z2, h1, h⟩ := bv_s h
  refine x_Vv (Rz := z2) (As := [.ref (G.2.2 p1), .int v2]) (rest := []) ⟨hx, hb, hml, hown, hts⟩ hK hP hS (kd_lt k_32 (by decide)) (cell_6 k_32) rfl (m_X6_term hG (D := D - 1) hd0 (by omega) hkE hk1 h1) (cwV 2 hts (gV lw_885 lw_887 lw_22 lw_112 lw_888) rfl rfl rfl (by decide +kernel) (rmd_ok (by omega) (by decide))) rfl hl.1 rfl (Nat.le_of_ble_eq_true rfl) dX6_sum_3 ⟨Nat.le_refl _, Nat.le_refl _⟩ (fun H locs hP hS => ?_)
  refine lv_iconst (v := 0) hx hb dX6_sum_6 (by decide) ?_
  refine lv_istore_n (lv' := [(3, .int 0), (0, .ref (G.2.2 32)), (1, .ref (G.2.2 p1)), (2, .int v2)]) hx hb dX6_sum_7 rfl hl (by decide) rfl (fun ls hl => ?_)
  exact pf_X6_sum_8 C hd0 hD hkE  fu p1 v2 0 z2 hk1 _ _ _ hP hS (lv_sub hl [1, 2, 3, 0] rfl) h
def fn_X6_relation_49 (kE : Nat → Int32 → St → Option St) (p1 : Nat) (v2 : Int32) (tv0 : Int32) (z : St) : Option (St) := (if tv0 = (-1) then some z else bv (fn_X6_advance   z) (fun z3 => bv (fn_X6_sum kE p1 v2 z3) (fun z5 => bv (fn_X2_add  p1 tv0 0 z5) (fun z7 => some z7))))
set_option maxHeartbeats 4000000 in
set_option maxRecDepth 100000 in
theorem pf_X6_relation_49 {p : Program} {l : Launch} {e : Env} {s : State} {m : MethodId} {args : Array Value} {below : List Frame} {meth : Method} {c : Code} {G : wG} (C : CX p s m args meth c cX6_relation 4 (wsU yX6_relation cX6_relation 4 none) RX6 none G) {Rz : St} {kE : Nat → Int32 → St → Option St} {dd D : Nat} (hd0 : 10 ≤ dd) (hD : dd + 4 ≤ D) (hkE : ∀ {p1 : Nat} {v2 : Int32} {z : St} {Rz : St}, kd p1 = 2 → kE p1 v2 z = some Rz → Met l yX6_either (wsU yX6_either cX6_either 4 none) (rmd dd) (va_Pc [.ref (G.2.2 32), .ref (G.2.2 p1), .int v2] (Pre G z)) (va_Qv (fun u => u = Rz) (Pre G) (AW G)) 0 0 (AW G)) (p1 : Nat) (v2 : Int32) (tv0 : Int32) (z : St) (hk1 : kd p1 = 2) {H : Heap} {locs : List Loc} {ls : Array Slot} (hP : WP G z H) (hS : va_S (AW G) s.heap H locs) (hl : lv_has ls 4 [(0, .ref (G.2.2 32)), (1, .ref (G.2.2 p1)), (2, .int v2)]) (h : fn_X6_relation_49 kE  p1 v2 tv0 z = some Rz) : W p l e (rmd D) s m args below meth c H locs 0 0 (QV below args s G Rz) (F0 m 49 ls [.int tv0]) := by
  obtain ⟨hx, hb, hml, hown, hts, hr, hlocks, hK, hG⟩ := id C
  unfold fn_X6_relation_49 at h
  refine lv_istore_n (lv' := [(3, .int tv0), (0, .ref (G.2.2 32)), (1, .ref (G.2.2 p1)), (2, .int v2)]) hx hb dX6_relation_49 rfl hl (by decide) rfl (fun ls hl => ?_)
  refine lv_iload_n hx hb dX6_relation_50 rfl (lv_at hl 0 rfl) ?_
  refine lv_iconst (v := (-1)) hx hb dX6_relation_51 (by decide) ?_
  refine lv_icmp_eq (tgt := 71) hx hb dX6_relation_52 (by decide) (fun c1 => ?_) (fun c1 => ?_)
  · rw [if_pos c1] at h
    exact x_vret hx hb hr hlocks hK hP hS h dX6_relation_71
  · rw [if_neg c1] at h
    refine lv_aload_n hx hb dX6_relation_55 rfl (lv_at hl 1 rfl) ?_
    obtain ⟨z3, h2, h⟩ := bv_s h
    refine x_Vv (Rz := z3) (As := []) (rest := []) ⟨hx, hb, hml, hown, hts⟩ hK hP hS (kd_lt k_32 (by decide)) (cell_6 k_32) rfl (m_X6_advance hG   h2) (cwV 0 hts (gV lw_777 lw_779 lw_1 lw_112 lw_780) rfl rfl rfl (by decide +kernel) (rmd_ok (by omega) (by decide))) rfl hl.1 rfl (Nat.le_of_ble_eq_true rfl) dX6_relation_56 ⟨Nat.le_refl _, Nat.le_refl _⟩ (fun H locs hP hS => ?_)
    refine lv_aload_n hx hb dX6_relation_59 rfl (lv_at hl 1 rfl) ?_
    refine lv_aload_n hx hb dX6_relation_60 rfl (lv_at hl 2 rfl) ?_
    refine lv_iload_n hx hb dX6_relation_61 rfl (lv_at hl 3 rfl) ?_
    obtain ⟨z5, h4, h⟩ := bv_s h
    refine x_Vv (Rz := z5) (As := [.ref (G.2.2 p1), .int v2]) (rest := []) ⟨hx, hb, hml, hown, hts⟩ hK hP hS (kd_lt k_32 (by decide)) (cell_6 k_32) rfl (m_X6_sum hG (D := D - 1) hd0 (by omega) hkE hk1 h4) (cwV 2 hts (gV lw_881 lw_883 lw_21 lw_112 lw_884) rfl rfl rfl (by decide +kernel) (rmd_ok (by omega) (by decide))) rfl hl.1 rfl (Nat.le_of_ble_eq_true rfl) dX6_relation_62 ⟨Nat.le_refl _, Nat.le_refl _⟩ (fun H locs hP hS => ?_)
    refine lv_aload_n hx hb dX6_relation_65 rfl (lv_at hl 2 rfl) ?_
    refine lv_iload_n hx hb dX6_relation_66 rfl (lv_at hl 0 rfl) ?_
    refine lv_iconst (v := 0) hx hb dX6_relation_67 (by decide) ?_
    obtain ⟨z7, h6, h⟩ := bv_s h
    refine x_Vv (Rz := z7) (As := [.int tv0, .int 0]) (rest := []) ⟨hx, hb, hml, hown, hts⟩ hK hP hS (kd_lt hk1 (by decide)) (cell_2 hk1) rfl (m_X2_add hG  hk1 h6) (cwV 2 hts (gV lw_901 lw_153 lw_154 lw_111 lw_155) rfl rfl rfl (by decide +kernel) (rmd_ok (by omega) (by decide))) rfl hl.1 rfl (Nat.le_of_ble_eq_true rfl) dX6_relation_68 ⟨Nat.le_refl _, Nat.le_refl _⟩ (fun H locs hP hS => ?_)
    exact x_vret hx hb hr hlocks hK hP hS h dX6_relation_71
def fn_X6_relation (kE : Nat → Int32 → St → Option St) (p1 : Nat) (v2 : Int32) (z : St) : Option (St) := bv (fn_X6_sum kE p1 v2 z) (fun z2 => bd (fn_X6_isSign  60 z2) (fun r4 z5 => (if r4 = 0 then bd (fn_X6_isSign  62 z5) (fun r8 z9 => (if r8 = 0 then bd (fn_X6_isSign  61 z9) (fun r12 z13 => (if r12 = 0 then fn_X6_relation_49 kE  p1 v2 (-1) z13 else fn_X6_relation_49 kE  p1 v2 12 z13)) else fn_X6_relation_49 kE  p1 v2 11 z9)) else fn_X6_relation_49 kE  p1 v2 10 z5)))
set_option maxHeartbeats 4000000 in
set_option maxRecDepth 100000 in
theorem m_X6_relation {l : Launch} {G : wG} (hG : Ok G) {kE : Nat → Int32 → St → Option St} {dd D : Nat} (hd0 : 10 ≤ dd) (hD : dd + 4 ≤ D) (hkE : ∀ {p1 : Nat} {v2 : Int32} {z : St} {Rz : St}, kd p1 = 2 → kE p1 v2 z = some Rz → Met l yX6_either (wsU yX6_either cX6_either 4 none) (rmd dd) (va_Pc [.ref (G.2.2 32), .ref (G.2.2 p1), .int v2] (Pre G z)) (va_Qv (fun u => u = Rz) (Pre G) (AW G)) 0 0 (AW G)) {p1 : Nat} {v2 : Int32} {z : St} {Rz : St} (hk1 : kd p1 = 2) (h : fn_X6_relation kE p1 v2 z = some Rz) : Met l yX6_relation (wsU yX6_relation cX6_relation 4 none) (rmd D) (va_Pc [.ref (G.2.2 32), .ref (G.2.2 p1), .int v2] (Pre G z)) (va_Qv (fun u => u = Rz) (Pre G) (AW G)) 0 0 (AW G) := by
  refine Met.ofW (cc := cX6_relation) (maxL := 4) (ret := none) (by decide) rfl ?_
  intro p e s m args below meth c s₁ B hml hv
  obtain ⟨rfl, hP, hK⟩ := hv
  have C : CX p s m ([.ref (G.2.2 32), .ref (G.2.2 p1), .int v2] : List Value).toArray meth c cX6_relation 4 (wsU yX6_relation cX6_relation 4 none) RX6 none G := ⟨B.exec, B.bytes, hml, findClass_of_methodNamed B.named, atoms_spec (ws := (wsU yX6_relation cX6_relation 4 none)) B.pre, B.returns, B.notSynchronized, hK, hG⟩
  obtain ⟨hx, hb, -, hown, hts, hr, hlocks, -, -⟩ := id C
  have hS : va_S (AW G) s.heap s.heap [] := va_S.rf
  have hl := lv_entry [.ref (G.2.2 32), .ref (G.2.2 p1), .int v2] (n := 4) (Nat.le_of_ble_eq_true rfl)
  rw [lg_entry_eq]
  generalize (lg_sl [.ref (G.2.2 32), .ref (G.2.2 p1), .int v2] ++ List.replicate (4 - (lg_sl [.ref (G.2.2 32), .ref (G.2.2 p1), .int v2]).length) Slot.unset).toArray = ls at hl ⊢
  have hl : lv_has ls 4 [(0, .ref (G.2.2 32)), (1, .ref (G.2.2 p1)), (2, .int v2)] := hl
  unfold fn_X6_relation at h
  refine lv_aload_n hx hb dX6_relation_0 rfl (lv_at hl 0 rfl) ?_
  refine lv_aload_n hx hb dX6_relation_1 rfl (lv_at hl 1 rfl) ?_
  refine lv_iload_n hx hb dX6_relation_2 rfl (lv_at hl 2 rfl) ?_
  obtain ⟨z2, h1, h⟩ := bv_s h
  refine x_Vv (Rz := z2) (As := [.ref (G.2.2 p1), .int v2]) (rest := []) ⟨hx, hb, hml, hown, hts⟩ hK hP hS (kd_lt k_32 (by decide)) (cell_6 k_32) rfl (m_X6_sum hG (D := D - 1) hd0 (by omega) hkE hk1 h1) (cwV 2 hts (gV lw_881 lw_883 lw_21 lw_112 lw_884) rfl rfl rfl (by decide +kernel) (rmd_ok (by omega) (by decide))) rfl hl.1 rfl (Nat.le_of_ble_eq_true rfl) dX6_relation_3 ⟨Nat.le_refl _, Nat.le_refl _⟩ (fun H locs hP hS => ?_)
  refine lv_aload_n hx hb dX6_relation_6 rfl (lv_at hl 0 rfl) ?_
  refine lv_bipush (v := 60) hx hb dX6_relation_7 (by decide) ?_
  obtain ⟨r4, z5, h3, h⟩ := bd_s h
  refine x_Vi (Rz := (r4, z5)) (As := [.int 60]) (rest := []) ⟨hx, hb, hml, hown, hts⟩ hK hP hS (kd_lt k_32 (by decide)) (cell_6 k_32) rfl (m_X6_isSign hG   h3) (cwV 1 hts (gV lw_841 lw_843 lw_14 lw_112 lw_844) rfl rfl rfl (by decide +kernel) (rmd_ok (by omega) (by decide))) rfl hl.1 rfl (Nat.le_of_ble_eq_true rfl) dX6_relation_9 ⟨Nat.le_refl _, Nat.le_refl _⟩ (fun H locs hP hS => ?_)
  refine lv_if_eq (tgt := 20) hx hb dX6_relation_12 (by decide) (fun c6 => ?_) (fun c6 => ?_)
  · rw [if_pos c6] at h
    refine lv_aload_n hx hb dX6_relation_20 rfl (lv_at hl 0 rfl) ?_
    refine lv_bipush (v := 62) hx hb dX6_relation_21 (by decide) ?_
    obtain ⟨r8, z9, h7, h⟩ := bd_s h
    refine x_Vi (Rz := (r8, z9)) (As := [.int 62]) (rest := []) ⟨hx, hb, hml, hown, hts⟩ hK hP hS (kd_lt k_32 (by decide)) (cell_6 k_32) rfl (m_X6_isSign hG   h7) (cwV 1 hts (gV lw_841 lw_843 lw_14 lw_112 lw_844) rfl rfl rfl (by decide +kernel) (rmd_ok (by omega) (by decide))) rfl hl.1 rfl (Nat.le_of_ble_eq_true rfl) dX6_relation_23 ⟨Nat.le_refl _, Nat.le_refl _⟩ (fun H locs hP hS => ?_)
    refine lv_if_eq (tgt := 34) hx hb dX6_relation_26 (by decide) (fun c10 => ?_) (fun c10 => ?_)
    · rw [if_pos c10] at h
      refine lv_aload_n hx hb dX6_relation_34 rfl (lv_at hl 0 rfl) ?_
      refine lv_bipush (v := 61) hx hb dX6_relation_35 (by decide) ?_
      obtain ⟨r12, z13, h11, h⟩ := bd_s h
      refine x_Vi (Rz := (r12, z13)) (As := [.int 61]) (rest := []) ⟨hx, hb, hml, hown, hts⟩ hK hP hS (kd_lt k_32 (by decide)) (cell_6 k_32) rfl (m_X6_isSign hG   h11) (cwV 1 hts (gV lw_841 lw_843 lw_14 lw_112 lw_844) rfl rfl rfl (by decide +kernel) (rmd_ok (by omega) (by decide))) rfl hl.1 rfl (Nat.le_of_ble_eq_true rfl) dX6_relation_37 ⟨Nat.le_refl _, Nat.le_refl _⟩ (fun H locs hP hS => ?_)
      refine lv_if_eq (tgt := 48) hx hb dX6_relation_40 (by decide) (fun c14 => ?_) (fun c14 => ?_)
      · rw [if_pos c14] at h
        refine lv_iconst (v := (-1)) hx hb dX6_relation_48 (by decide) ?_
        exact pf_X6_relation_49 C hd0 hD hkE  p1 v2 (-1) z13 hk1 hP hS (lv_sub hl [0, 1, 2] rfl) h
      · rw [if_neg c14] at h
        refine lv_bipush (v := 12) hx hb dX6_relation_43 (by decide) ?_
        refine lv_goto (tgt := 49) hx hb dX6_relation_45 (by decide) ?_
        exact pf_X6_relation_49 C hd0 hD hkE  p1 v2 12 z13 hk1 hP hS (lv_sub hl [0, 1, 2] rfl) h
    · rw [if_neg c10] at h
      refine lv_bipush (v := 11) hx hb dX6_relation_29 (by decide) ?_
      refine lv_goto (tgt := 49) hx hb dX6_relation_31 (by decide) ?_
      exact pf_X6_relation_49 C hd0 hD hkE  p1 v2 11 z9 hk1 hP hS (lv_sub hl [0, 1, 2] rfl) h
  · rw [if_neg c6] at h
    refine lv_bipush (v := 10) hx hb dX6_relation_15 (by decide) ?_
    refine lv_goto (tgt := 49) hx hb dX6_relation_17 (by decide) ?_
    exact pf_X6_relation_49 C hd0 hD hkE  p1 v2 10 z5 hk1 hP hS (lv_sub hl [0, 1, 2] rfl) h
def fn_X6_one (kE : Nat → Int32 → St → Option St) (kO : Nat → Int32 → St → Option St) (p1 : Nat) (v2 : Int32) (z : St) : Option (St) := bd (fn_X6_isKeyword  13 z) (fun r2 z3 => (if r2 = 0 then bv (fn_X6_relation kE p1 v2 z3) (fun z15 => some z15) else (if v2 ≤ 6 then bv (fn_X6_advance   z3) (fun z7 => bv (kO p1 (v2 + 1) z7) (fun z9 => bv (fn_X2_add  p1 7 0 z9) (fun z11 => some z11))) else bv (fn_X6_refuse   z3) (fun z13 => some z13))))
set_option maxHeartbeats 4000000 in
set_option maxRecDepth 100000 in
theorem m_X6_one {l : Launch} {G : wG} (hG : Ok G) {kE : Nat → Int32 → St → Option St} {kO : Nat → Int32 → St → Option St} {dd D : Nat} (hd0 : 10 ≤ dd) (hD : dd + 5 ≤ D) (hkE : ∀ {p1 : Nat} {v2 : Int32} {z : St} {Rz : St}, kd p1 = 2 → kE p1 v2 z = some Rz → Met l yX6_either (wsU yX6_either cX6_either 4 none) (rmd dd) (va_Pc [.ref (G.2.2 32), .ref (G.2.2 p1), .int v2] (Pre G z)) (va_Qv (fun u => u = Rz) (Pre G) (AW G)) 0 0 (AW G)) (hkO : ∀ {p1 : Nat} {v2 : Int32} {z : St} {Rz : St}, kd p1 = 2 → kO p1 v2 z = some Rz → Met l yX6_one (wsU yX6_one cX6_one 3 none) (rmd dd) (va_Pc [.ref (G.2.2 32), .ref (G.2.2 p1), .int v2] (Pre G z)) (va_Qv (fun u => u = Rz) (Pre G) (AW G)) 0 0 (AW G)) {p1 : Nat} {v2 : Int32} {z : St} {Rz : St} (hk1 : kd p1 = 2) (h : fn_X6_one kE kO p1 v2 z = some Rz) : Met l yX6_one (wsU yX6_one cX6_one 3 none) (rmd D) (va_Pc [.ref (G.2.2 32), .ref (G.2.2 p1), .int v2] (Pre G z)) (va_Qv (fun u => u = Rz) (Pre G) (AW G)) 0 0 (AW G) := by
  refine Met.ofW (cc := cX6_one) (maxL := 3) (ret := none) (by decide) rfl ?_
  intro p e s m args below meth c s₁ B hml hv
  obtain ⟨rfl, hP, hK⟩ := hv
  have C : CX p s m ([.ref (G.2.2 32), .ref (G.2.2 p1), .int v2] : List Value).toArray meth c cX6_one 3 (wsU yX6_one cX6_one 3 none) RX6 none G := ⟨B.exec, B.bytes, hml, findClass_of_methodNamed B.named, atoms_spec (ws := (wsU yX6_one cX6_one 3 none)) B.pre, B.returns, B.notSynchronized, hK, hG⟩
  obtain ⟨hx, hb, -, hown, hts, hr, hlocks, -, -⟩ := id C
  have hS : va_S (AW G) s.heap s.heap [] := va_S.rf
  have hl := lv_entry [.ref (G.2.2 32), .ref (G.2.2 p1), .int v2] (n := 3) (Nat.le_of_ble_eq_true rfl)
  rw [lg_entry_eq]
  generalize (lg_sl [.ref (G.2.2 32), .ref (G.2.2 p1), .int v2] ++ List.replicate (3 - (lg_sl [.ref (G.2.2 32), .ref (G.2.2 p1), .int v2]).length) Slot.unset).toArray = ls at hl ⊢
  have hl : lv_has ls 3 [(0, .ref (G.2.2 32)), (1, .ref (G.2.2 p1)), (2, .int v2)] := hl
  unfold fn_X6_one at h
  refine lv_aload_n hx hb dX6_one_0 rfl (lv_at hl 0 rfl) ?_
  refine lv_bipush (v := 13) hx hb dX6_one_1 (by decide) ?_
  obtain ⟨r2, z3, h1, h⟩ := bd_s h
  refine x_Vi (Rz := (r2, z3)) (As := [.int 13]) (rest := []) ⟨hx, hb, hml, hown, hts⟩ hK hP hS (kd_lt k_32 (by decide)) (cell_6 k_32) rfl (m_X6_isKeyword hG   h1) (cwV 1 hts (gV lw_833 lw_835 lw_12 lw_112 lw_836) rfl rfl rfl (by decide +kernel) (rmd_ok (by omega) (by decide))) rfl hl.1 rfl (Nat.le_of_ble_eq_true rfl) dX6_one_3 ⟨Nat.le_refl _, Nat.le_refl _⟩ (fun H locs hP hS => ?_)
  refine lv_if_ne (tgt := 16) hx hb dX6_one_6 (by decide) (fun c4 => ?_) (fun c4 => ?_)
  · rw [if_neg c4] at h
    refine lv_iload_n hx hb dX6_one_16 rfl (lv_at hl 2 rfl) ?_
    refine lv_bipush (v := 6) hx hb dX6_one_17 (by decide) ?_
    refine lv_icmp_le (tgt := 27) hx hb dX6_one_19 (by decide) (fun c5 => ?_) (fun c5 => ?_)
    · rw [if_pos c5] at h
      refine lv_aload_n hx hb dX6_one_27 rfl (lv_at hl 0 rfl) ?_
      obtain ⟨z7, h6, h⟩ := bv_s h
      refine x_Vv (Rz := z7) (As := []) (rest := []) ⟨hx, hb, hml, hown, hts⟩ hK hP hS (kd_lt k_32 (by decide)) (cell_6 k_32) rfl (m_X6_advance hG   h6) (cwV 0 hts (gV lw_777 lw_779 lw_1 lw_112 lw_780) rfl rfl rfl (by decide +kernel) (rmd_ok (by omega) (by decide))) rfl hl.1 rfl (Nat.le_of_ble_eq_true rfl) dX6_one_28 ⟨Nat.le_refl _, Nat.le_refl _⟩ (fun H locs hP hS => ?_)
      refine lv_aload_n hx hb dX6_one_31 rfl (lv_at hl 0 rfl) ?_
      refine lv_aload_n hx hb dX6_one_32 rfl (lv_at hl 1 rfl) ?_
      refine lv_iload_n hx hb dX6_one_33 rfl (lv_at hl 2 rfl) ?_
      refine lv_iconst (v := 1) hx hb dX6_one_34 (by decide) ?_
      refine lv_iadd hx hb dX6_one_35 ?_
      obtain ⟨z9, h8, h⟩ := bv_s h
      refine x_Vv (Rz := z9) (As := [.ref (G.2.2 p1), .int (v2 + 1)]) (rest := []) ⟨hx, hb, hml, hown, hts⟩ hK hP hS (kd_lt k_32 (by decide)) (cell_6 k_32) rfl (hkO hk1 h8) (cwV 2 hts (gV lw_873 lw_875 lw_19 lw_112 lw_876) rfl rfl rfl (by decide +kernel) (rmd_ok (by omega) (by decide))) rfl hl.1 rfl (Nat.le_of_ble_eq_true rfl) dX6_one_36 ⟨Nat.le_refl _, Nat.le_refl _⟩ (fun H locs hP hS => ?_)
      refine lv_aload_n hx hb dX6_one_39 rfl (lv_at hl 1 rfl) ?_
      refine lv_bipush (v := 7) hx hb dX6_one_40 (by decide) ?_
      refine lv_iconst (v := 0) hx hb dX6_one_42 (by decide) ?_
      obtain ⟨z11, h10, h⟩ := bv_s h
      refine x_Vv (Rz := z11) (As := [.int 7, .int 0]) (rest := []) ⟨hx, hb, hml, hown, hts⟩ hK hP hS (kd_lt hk1 (by decide)) (cell_2 hk1) rfl (m_X2_add hG  hk1 h10) (cwV 2 hts (gV lw_901 lw_153 lw_154 lw_111 lw_155) rfl rfl rfl (by decide +kernel) (rmd_ok (by omega) (by decide))) rfl hl.1 rfl (Nat.le_of_ble_eq_true rfl) dX6_one_43 ⟨Nat.le_refl _, Nat.le_refl _⟩ (fun H locs hP hS => ?_)
      exact x_vret hx hb hr hlocks hK hP hS h dX6_one_46
    · rw [if_neg c5] at h
      refine lv_aload_n hx hb dX6_one_22 rfl (lv_at hl 0 rfl) ?_
      obtain ⟨z13, h12, h⟩ := bv_s h
      refine x_Vv (Rz := z13) (As := []) (rest := []) ⟨hx, hb, hml, hown, hts⟩ hK hP hS (kd_lt k_32 (by decide)) (cell_6 k_32) rfl (m_X6_refuse hG   h12) (cwV 0 hts (gV lw_813 lw_815 lw_7 lw_112 lw_816) rfl rfl rfl (by decide +kernel) (rmd_ok (by omega) (by decide))) rfl hl.1 rfl (Nat.le_of_ble_eq_true rfl) dX6_one_23 ⟨Nat.le_refl _, Nat.le_refl _⟩ (fun H locs hP hS => ?_)
      exact x_vret hx hb hr hlocks hK hP hS h dX6_one_26
  · rw [if_pos c4] at h
    refine lv_aload_n hx hb dX6_one_9 rfl (lv_at hl 0 rfl) ?_
    refine lv_aload_n hx hb dX6_one_10 rfl (lv_at hl 1 rfl) ?_
    refine lv_iload_n hx hb dX6_one_11 rfl (lv_at hl 2 rfl) ?_
    obtain ⟨z15, h14, h⟩ := bv_s h
    refine x_Vv (Rz := z15) (As := [.ref (G.2.2 p1), .int v2]) (rest := []) ⟨hx, hb, hml, hown, hts⟩ hK hP hS (kd_lt k_32 (by decide)) (cell_6 k_32) rfl (m_X6_relation hG (D := D - 1) hd0 (by omega) hkE hk1 h14) (cwV 2 hts (gV lw_877 lw_879 lw_20 lw_112 lw_880) rfl rfl rfl (by decide +kernel) (rmd_ok (by omega) (by decide))) rfl hl.1 rfl (Nat.le_of_ble_eq_true rfl) dX6_one_12 ⟨Nat.le_refl _, Nat.le_refl _⟩ (fun H locs hP hS => ?_)
    exact x_vret hx hb hr hlocks hK hP hS h dX6_one_15
def fn_X6_both_8 (kE : Nat → Int32 → St → Option St) (kO : Nat → Int32 → St → Option St) : Nat → Nat → Int32 → Int32 → St → Option (St)
  | 0, _, _, _, _ => none
  | n + 1, p1, v2, v3, z => (if 1600 ≤ v3 then some z else bd (fn_X6_isKeyword  12 z) (fun r3 z4 => (if r3 = 0 then some z4 else bv (fn_X6_advance   z4) (fun z7 => bv (fn_X6_one kE kO p1 v2 z7) (fun z9 => bv (fn_X2_add  p1 9 0 z9) (fun z11 => fn_X6_both_8 kE kO  n p1 v2 (v3 + 1) z11))))))
set_option maxHeartbeats 4000000 in
set_option maxRecDepth 100000 in
theorem pf_X6_both_8 {p : Program} {l : Launch} {e : Env} {s : State} {m : MethodId} {args : Array Value} {below : List Frame} {meth : Method} {c : Code} {G : wG} (C : CX p s m args meth c cX6_both 4 (wsU yX6_both cX6_both 4 none) RX6 none G) {Rz : St} {kE : Nat → Int32 → St → Option St} {kO : Nat → Int32 → St → Option St} {dd D : Nat} (hd0 : 10 ≤ dd) (hD : dd + 6 ≤ D) (hkE : ∀ {p1 : Nat} {v2 : Int32} {z : St} {Rz : St}, kd p1 = 2 → kE p1 v2 z = some Rz → Met l yX6_either (wsU yX6_either cX6_either 4 none) (rmd dd) (va_Pc [.ref (G.2.2 32), .ref (G.2.2 p1), .int v2] (Pre G z)) (va_Qv (fun u => u = Rz) (Pre G) (AW G)) 0 0 (AW G)) (hkO : ∀ {p1 : Nat} {v2 : Int32} {z : St} {Rz : St}, kd p1 = 2 → kO p1 v2 z = some Rz → Met l yX6_one (wsU yX6_one cX6_one 3 none) (rmd dd) (va_Pc [.ref (G.2.2 32), .ref (G.2.2 p1), .int v2] (Pre G z)) (va_Qv (fun u => u = Rz) (Pre G) (AW G)) 0 0 (AW G)) : ∀ (n : Nat) (p1 : Nat) (v2 : Int32) (v3 : Int32) (z : St) (hk1 : kd p1 = 2) (H : Heap) (locs : List Loc) (ls : Array Slot), WP G z H → va_S (AW G) s.heap H locs → lv_has ls 4 [(0, .ref (G.2.2 32)), (1, .ref (G.2.2 p1)), (2, .int v2), (3, .int v3)] → fn_X6_both_8 kE kO  n p1 v2 v3 z = some Rz → W p l e (rmd D) s m args below meth c H locs 0 0 (QV below args s G Rz) (F0 m 8 ls []) := by
  obtain ⟨hx, hb, hml, hown, hts, hr, hlocks, hK, hG⟩ := id C
  intro n
  induction n with
  | zero => intro p1 v2 v3 z hk1 H locs ls hP hS hl h; cases h
  | succ n ih =>
    intro p1 v2 v3 z hk1 H locs ls hP hS hl h
    rw [fn_X6_both_8] at h
    refine lv_iload_n hx hb dX6_both_8 rfl (lv_at hl 3 rfl) ?_
    refine lv_sipush (v := 1600) hx hb dX6_both_9 (by decide) ?_
    refine lv_icmp_ge (tgt := 47) hx hb dX6_both_12 (by decide) (fun c1 => ?_) (fun c1 => ?_)
    · rw [if_pos c1] at h
      exact x_vret hx hb hr hlocks hK hP hS h dX6_both_47
    · rw [if_neg c1] at h
      refine lv_aload_n hx hb dX6_both_15 rfl (lv_at hl 0 rfl) ?_
      refine lv_bipush (v := 12) hx hb dX6_both_16 (by decide) ?_
      obtain ⟨r3, z4, h2, h⟩ := bd_s h
      refine x_Vi (Rz := (r3, z4)) (As := [.int 12]) (rest := []) ⟨hx, hb, hml, hown, hts⟩ hK hP hS (kd_lt k_32 (by decide)) (cell_6 k_32) rfl (m_X6_isKeyword hG   h2) (cwV 1 hts (gV lw_833 lw_835 lw_12 lw_112 lw_836) rfl rfl rfl (by decide +kernel) (rmd_ok (by omega) (by decide))) rfl hl.1 rfl (Nat.le_of_ble_eq_true rfl) dX6_both_18 ⟨Nat.le_refl _, Nat.le_refl _⟩ (fun H locs hP hS => ?_)
      refine lv_if_eq (tgt := 47) hx hb dX6_both_21 (by decide) (fun c5 => ?_) (fun c5 => ?_)
      · rw [if_pos c5] at h
        exact x_vret hx hb hr hlocks hK hP hS h dX6_both_47
      · rw [if_neg c5] at h
        refine lv_aload_n hx hb dX6_both_24 rfl (lv_at hl 0 rfl) ?_
        obtain ⟨z7, h6, h⟩ := bv_s h
        refine x_Vv (Rz := z7) (As := []) (rest := []) ⟨hx, hb, hml, hown, hts⟩ hK hP hS (kd_lt k_32 (by decide)) (cell_6 k_32) rfl (m_X6_advance hG   h6) (cwV 0 hts (gV lw_777 lw_779 lw_1 lw_112 lw_780) rfl rfl rfl (by decide +kernel) (rmd_ok (by omega) (by decide))) rfl hl.1 rfl (Nat.le_of_ble_eq_true rfl) dX6_both_25 ⟨Nat.le_refl _, Nat.le_refl _⟩ (fun H locs hP hS => ?_)
        refine lv_aload_n hx hb dX6_both_28 rfl (lv_at hl 0 rfl) ?_
        refine lv_aload_n hx hb dX6_both_29 rfl (lv_at hl 1 rfl) ?_
        refine lv_iload_n hx hb dX6_both_30 rfl (lv_at hl 2 rfl) ?_
        obtain ⟨z9, h8, h⟩ := bv_s h
        refine x_Vv (Rz := z9) (As := [.ref (G.2.2 p1), .int v2]) (rest := []) ⟨hx, hb, hml, hown, hts⟩ hK hP hS (kd_lt k_32 (by decide)) (cell_6 k_32) rfl (m_X6_one hG (D := D - 1) hd0 (by omega) hkE hkO hk1 h8) (cwV 2 hts (gV lw_873 lw_875 lw_19 lw_112 lw_876) rfl rfl rfl (by decide +kernel) (rmd_ok (by omega) (by decide))) rfl hl.1 rfl (Nat.le_of_ble_eq_true rfl) dX6_both_31 ⟨Nat.le_refl _, Nat.le_refl _⟩ (fun H locs hP hS => ?_)
        refine lv_aload_n hx hb dX6_both_34 rfl (lv_at hl 1 rfl) ?_
        refine lv_bipush (v := 9) hx hb dX6_both_35 (by decide) ?_
        refine lv_iconst (v := 0) hx hb dX6_both_37 (by decide) ?_
        obtain ⟨z11, h10, h⟩ := bv_s h
        refine x_Vv (Rz := z11) (As := [.int 9, .int 0]) (rest := []) ⟨hx, hb, hml, hown, hts⟩ hK hP hS (kd_lt hk1 (by decide)) (cell_2 hk1) rfl (m_X2_add hG  hk1 h10) (cwV 2 hts (gV lw_901 lw_153 lw_154 lw_111 lw_155) rfl rfl rfl (by decide +kernel) (rmd_ok (by omega) (by decide))) rfl hl.1 rfl (Nat.le_of_ble_eq_true rfl) dX6_both_38 ⟨Nat.le_refl _, Nat.le_refl _⟩ (fun H locs hP hS => ?_)
        refine lv_iinc (v := (v3 + 1)) (lv' := [(3, .int (v3 + 1)), (0, .ref (G.2.2 32)), (1, .ref (G.2.2 p1)), (2, .int v2)]) hx hb dX6_both_41 hl (k := 3) rfl rfl (by decide) rfl (fun ls hl => ?_)
        refine lv_goto (tgt := 8) hx hb dX6_both_44 (by decide) ?_
        exact ih p1 v2 (v3 + 1) z11 hk1 _ _ _ hP hS (lv_sub hl [1, 2, 3, 0] rfl) h
def fn_X6_both (kE : Nat → Int32 → St → Option St) (kO : Nat → Int32 → St → Option St) (p1 : Nat) (v2 : Int32) (z : St) : Option (St) := bv (fn_X6_one kE kO p1 v2 z) (fun z2 => fn_X6_both_8 kE kO  fu p1 v2 0 z2)
set_option maxHeartbeats 4000000 in
set_option maxRecDepth 100000 in
theorem m_X6_both {l : Launch} {G : wG} (hG : Ok G) {kE : Nat → Int32 → St → Option St} {kO : Nat → Int32 → St → Option St} {dd D : Nat} (hd0 : 10 ≤ dd) (hD : dd + 6 ≤ D) (hkE : ∀ {p1 : Nat} {v2 : Int32} {z : St} {Rz : St}, kd p1 = 2 → kE p1 v2 z = some Rz → Met l yX6_either (wsU yX6_either cX6_either 4 none) (rmd dd) (va_Pc [.ref (G.2.2 32), .ref (G.2.2 p1), .int v2] (Pre G z)) (va_Qv (fun u => u = Rz) (Pre G) (AW G)) 0 0 (AW G)) (hkO : ∀ {p1 : Nat} {v2 : Int32} {z : St} {Rz : St}, kd p1 = 2 → kO p1 v2 z = some Rz → Met l yX6_one (wsU yX6_one cX6_one 3 none) (rmd dd) (va_Pc [.ref (G.2.2 32), .ref (G.2.2 p1), .int v2] (Pre G z)) (va_Qv (fun u => u = Rz) (Pre G) (AW G)) 0 0 (AW G)) {p1 : Nat} {v2 : Int32} {z : St} {Rz : St} (hk1 : kd p1 = 2) (h : fn_X6_both kE kO p1 v2 z = some Rz) : Met l yX6_both (wsU yX6_both cX6_both 4 none) (rmd D) (va_Pc [.ref (G.2.2 32), .ref (G.2.2 p1), .int v2] (Pre G z)) (va_Qv (fun u => u = Rz) (Pre G) (AW G)) 0 0 (AW G) := by
  refine Met.ofW (cc := cX6_both) (maxL := 4) (ret := none) (by decide) rfl ?_
  intro p e s m args below meth c s₁ B hml hv
  obtain ⟨rfl, hP, hK⟩ := hv
  have C : CX p s m ([.ref (G.2.2 32), .ref (G.2.2 p1), .int v2] : List Value).toArray meth c cX6_both 4 (wsU yX6_both cX6_both 4 none) RX6 none G := ⟨B.exec, B.bytes, hml, findClass_of_methodNamed B.named, atoms_spec (ws := (wsU yX6_both cX6_both 4 none)) B.pre, B.returns, B.notSynchronized, hK, hG⟩
  obtain ⟨hx, hb, -, hown, hts, hr, hlocks, -, -⟩ := id C
  have hS : va_S (AW G) s.heap s.heap [] := va_S.rf
  have hl := lv_entry [.ref (G.2.2 32), .ref (G.2.2 p1), .int v2] (n := 4) (Nat.le_of_ble_eq_true rfl)
  rw [lg_entry_eq]
  generalize (lg_sl [.ref (G.2.2 32), .ref (G.2.2 p1), .int v2] ++ List.replicate (4 - (lg_sl [.ref (G.2.2 32), .ref (G.2.2 p1), .int v2]).length) Slot.unset).toArray = ls at hl ⊢
  have hl : lv_has ls 4 [(0, .ref (G.2.2 32)), (1, .ref (G.2.2 p1)), (2, .int v2)] := hl
  unfold fn_X6_both at h
  refine lv_aload_n hx hb dX6_both_0 rfl (lv_at hl 0 rfl) ?_
  refine lv_aload_n hx hb dX6_both_1 rfl (lv_at hl 1 rfl) ?_
  refine lv_iload_n hx hb dX6_both_2 rfl (lv_at hl 2 rfl) ?_
  obtain ⟨z2, h1, h⟩ := bv_s h
  refine x_Vv (Rz := z2) (As := [.ref (G.2.2 p1), .int v2]) (rest := []) ⟨hx, hb, hml, hown, hts⟩ hK hP hS (kd_lt k_32 (by decide)) (cell_6 k_32) rfl (m_X6_one hG (D := D - 1) hd0 (by omega) hkE hkO hk1 h1) (cwV 2 hts (gV lw_873 lw_875 lw_19 lw_112 lw_876) rfl rfl rfl (by decide +kernel) (rmd_ok (by omega) (by decide))) rfl hl.1 rfl (Nat.le_of_ble_eq_true rfl) dX6_both_3 ⟨Nat.le_refl _, Nat.le_refl _⟩ (fun H locs hP hS => ?_)
  refine lv_iconst (v := 0) hx hb dX6_both_6 (by decide) ?_
  refine lv_istore_n (lv' := [(3, .int 0), (0, .ref (G.2.2 32)), (1, .ref (G.2.2 p1)), (2, .int v2)]) hx hb dX6_both_7 rfl hl (by decide) rfl (fun ls hl => ?_)
  exact pf_X6_both_8 C hd0 hD hkE hkO  fu p1 v2 0 z2 hk1 _ _ _ hP hS (lv_sub hl [1, 2, 3, 0] rfl) h
def fn_X6_either_8 (kE : Nat → Int32 → St → Option St) (kO : Nat → Int32 → St → Option St) : Nat → Nat → Int32 → Int32 → St → Option (St)
  | 0, _, _, _, _ => none
  | n + 1, p1, v2, v3, z => (if 1600 ≤ v3 then some z else bd (fn_X6_isKeyword  11 z) (fun r3 z4 => (if r3 = 0 then some z4 else bv (fn_X6_advance   z4) (fun z7 => bv (fn_X6_both kE kO p1 v2 z7) (fun z9 => bv (fn_X2_add  p1 8 0 z9) (fun z11 => fn_X6_either_8 kE kO  n p1 v2 (v3 + 1) z11))))))
set_option maxHeartbeats 4000000 in
set_option maxRecDepth 100000 in
theorem pf_X6_either_8 {p : Program} {l : Launch} {e : Env} {s : State} {m : MethodId} {args : Array Value} {below : List Frame} {meth : Method} {c : Code} {G : wG} (C : CX p s m args meth c cX6_either 4 (wsU yX6_either cX6_either 4 none) RX6 none G) {Rz : St} {kE : Nat → Int32 → St → Option St} {kO : Nat → Int32 → St → Option St} {dd D : Nat} (hd0 : 10 ≤ dd) (hD : dd + 7 ≤ D) (hkE : ∀ {p1 : Nat} {v2 : Int32} {z : St} {Rz : St}, kd p1 = 2 → kE p1 v2 z = some Rz → Met l yX6_either (wsU yX6_either cX6_either 4 none) (rmd dd) (va_Pc [.ref (G.2.2 32), .ref (G.2.2 p1), .int v2] (Pre G z)) (va_Qv (fun u => u = Rz) (Pre G) (AW G)) 0 0 (AW G)) (hkO : ∀ {p1 : Nat} {v2 : Int32} {z : St} {Rz : St}, kd p1 = 2 → kO p1 v2 z = some Rz → Met l yX6_one (wsU yX6_one cX6_one 3 none) (rmd dd) (va_Pc [.ref (G.2.2 32), .ref (G.2.2 p1), .int v2] (Pre G z)) (va_Qv (fun u => u = Rz) (Pre G) (AW G)) 0 0 (AW G)) : ∀ (n : Nat) (p1 : Nat) (v2 : Int32) (v3 : Int32) (z : St) (hk1 : kd p1 = 2) (H : Heap) (locs : List Loc) (ls : Array Slot), WP G z H → va_S (AW G) s.heap H locs → lv_has ls 4 [(0, .ref (G.2.2 32)), (1, .ref (G.2.2 p1)), (2, .int v2), (3, .int v3)] → fn_X6_either_8 kE kO  n p1 v2 v3 z = some Rz → W p l e (rmd D) s m args below meth c H locs 0 0 (QV below args s G Rz) (F0 m 8 ls []) := by
  obtain ⟨hx, hb, hml, hown, hts, hr, hlocks, hK, hG⟩ := id C
  intro n
  induction n with
  | zero => intro p1 v2 v3 z hk1 H locs ls hP hS hl h; cases h
  | succ n ih =>
    intro p1 v2 v3 z hk1 H locs ls hP hS hl h
    rw [fn_X6_either_8] at h
    refine lv_iload_n hx hb dX6_either_8 rfl (lv_at hl 3 rfl) ?_
    refine lv_sipush (v := 1600) hx hb dX6_either_9 (by decide) ?_
    refine lv_icmp_ge (tgt := 47) hx hb dX6_either_12 (by decide) (fun c1 => ?_) (fun c1 => ?_)
    · rw [if_pos c1] at h
      exact x_vret hx hb hr hlocks hK hP hS h dX6_either_47
    · rw [if_neg c1] at h
      refine lv_aload_n hx hb dX6_either_15 rfl (lv_at hl 0 rfl) ?_
      refine lv_bipush (v := 11) hx hb dX6_either_16 (by decide) ?_
      obtain ⟨r3, z4, h2, h⟩ := bd_s h
      refine x_Vi (Rz := (r3, z4)) (As := [.int 11]) (rest := []) ⟨hx, hb, hml, hown, hts⟩ hK hP hS (kd_lt k_32 (by decide)) (cell_6 k_32) rfl (m_X6_isKeyword hG   h2) (cwV 1 hts (gV lw_833 lw_835 lw_12 lw_112 lw_836) rfl rfl rfl (by decide +kernel) (rmd_ok (by omega) (by decide))) rfl hl.1 rfl (Nat.le_of_ble_eq_true rfl) dX6_either_18 ⟨Nat.le_refl _, Nat.le_refl _⟩ (fun H locs hP hS => ?_)
      refine lv_if_eq (tgt := 47) hx hb dX6_either_21 (by decide) (fun c5 => ?_) (fun c5 => ?_)
      · rw [if_pos c5] at h
        exact x_vret hx hb hr hlocks hK hP hS h dX6_either_47
      · rw [if_neg c5] at h
        refine lv_aload_n hx hb dX6_either_24 rfl (lv_at hl 0 rfl) ?_
        obtain ⟨z7, h6, h⟩ := bv_s h
        refine x_Vv (Rz := z7) (As := []) (rest := []) ⟨hx, hb, hml, hown, hts⟩ hK hP hS (kd_lt k_32 (by decide)) (cell_6 k_32) rfl (m_X6_advance hG   h6) (cwV 0 hts (gV lw_777 lw_779 lw_1 lw_112 lw_780) rfl rfl rfl (by decide +kernel) (rmd_ok (by omega) (by decide))) rfl hl.1 rfl (Nat.le_of_ble_eq_true rfl) dX6_either_25 ⟨Nat.le_refl _, Nat.le_refl _⟩ (fun H locs hP hS => ?_)
        refine lv_aload_n hx hb dX6_either_28 rfl (lv_at hl 0 rfl) ?_
        refine lv_aload_n hx hb dX6_either_29 rfl (lv_at hl 1 rfl) ?_
        refine lv_iload_n hx hb dX6_either_30 rfl (lv_at hl 2 rfl) ?_
        obtain ⟨z9, h8, h⟩ := bv_s h
        refine x_Vv (Rz := z9) (As := [.ref (G.2.2 p1), .int v2]) (rest := []) ⟨hx, hb, hml, hown, hts⟩ hK hP hS (kd_lt k_32 (by decide)) (cell_6 k_32) rfl (m_X6_both hG (D := D - 1) hd0 (by omega) hkE hkO hk1 h8) (cwV 2 hts (gV lw_869 lw_871 lw_18 lw_112 lw_872) rfl rfl rfl (by decide +kernel) (rmd_ok (by omega) (by decide))) rfl hl.1 rfl (Nat.le_of_ble_eq_true rfl) dX6_either_31 ⟨Nat.le_refl _, Nat.le_refl _⟩ (fun H locs hP hS => ?_)
        refine lv_aload_n hx hb dX6_either_34 rfl (lv_at hl 1 rfl) ?_
        refine lv_bipush (v := 8) hx hb dX6_either_35 (by decide) ?_
        refine lv_iconst (v := 0) hx hb dX6_either_37 (by decide) ?_
        obtain ⟨z11, h10, h⟩ := bv_s h
        refine x_Vv (Rz := z11) (As := [.int 8, .int 0]) (rest := []) ⟨hx, hb, hml, hown, hts⟩ hK hP hS (kd_lt hk1 (by decide)) (cell_2 hk1) rfl (m_X2_add hG  hk1 h10) (cwV 2 hts (gV lw_901 lw_153 lw_154 lw_111 lw_155) rfl rfl rfl (by decide +kernel) (rmd_ok (by omega) (by decide))) rfl hl.1 rfl (Nat.le_of_ble_eq_true rfl) dX6_either_38 ⟨Nat.le_refl _, Nat.le_refl _⟩ (fun H locs hP hS => ?_)
        refine lv_iinc (v := (v3 + 1)) (lv' := [(3, .int (v3 + 1)), (0, .ref (G.2.2 32)), (1, .ref (G.2.2 p1)), (2, .int v2)]) hx hb dX6_either_41 hl (k := 3) rfl rfl (by decide) rfl (fun ls hl => ?_)
        refine lv_goto (tgt := 8) hx hb dX6_either_44 (by decide) ?_
        exact ih p1 v2 (v3 + 1) z11 hk1 _ _ _ hP hS (lv_sub hl [1, 2, 3, 0] rfl) h
def fn_X6_either (kE : Nat → Int32 → St → Option St) (kO : Nat → Int32 → St → Option St) (p1 : Nat) (v2 : Int32) (z : St) : Option (St) := bv (fn_X6_both kE kO p1 v2 z) (fun z2 => fn_X6_either_8 kE kO  fu p1 v2 0 z2)
set_option maxHeartbeats 4000000 in
set_option maxRecDepth 100000 in
theorem m_X6_either {l : Launch} {G : wG} (hG : Ok G) {kE : Nat → Int32 → St → Option St} {kO : Nat → Int32 → St → Option St} {dd D : Nat} (hd0 : 10 ≤ dd) (hD : dd + 7 ≤ D) (hkE : ∀ {p1 : Nat} {v2 : Int32} {z : St} {Rz : St}, kd p1 = 2 → kE p1 v2 z = some Rz → Met l yX6_either (wsU yX6_either cX6_either 4 none) (rmd dd) (va_Pc [.ref (G.2.2 32), .ref (G.2.2 p1), .int v2] (Pre G z)) (va_Qv (fun u => u = Rz) (Pre G) (AW G)) 0 0 (AW G)) (hkO : ∀ {p1 : Nat} {v2 : Int32} {z : St} {Rz : St}, kd p1 = 2 → kO p1 v2 z = some Rz → Met l yX6_one (wsU yX6_one cX6_one 3 none) (rmd dd) (va_Pc [.ref (G.2.2 32), .ref (G.2.2 p1), .int v2] (Pre G z)) (va_Qv (fun u => u = Rz) (Pre G) (AW G)) 0 0 (AW G)) {p1 : Nat} {v2 : Int32} {z : St} {Rz : St} (hk1 : kd p1 = 2) (h : fn_X6_either kE kO p1 v2 z = some Rz) : Met l yX6_either (wsU yX6_either cX6_either 4 none) (rmd D) (va_Pc [.ref (G.2.2 32), .ref (G.2.2 p1), .int v2] (Pre G z)) (va_Qv (fun u => u = Rz) (Pre G) (AW G)) 0 0 (AW G) := by
  refine Met.ofW (cc := cX6_either) (maxL := 4) (ret := none) (by decide) rfl ?_
  intro p e s m args below meth c s₁ B hml hv
  obtain ⟨rfl, hP, hK⟩ := hv
  have C : CX p s m ([.ref (G.2.2 32), .ref (G.2.2 p1), .int v2] : List Value).toArray meth c cX6_either 4 (wsU yX6_either cX6_either 4 none) RX6 none G := ⟨B.exec, B.bytes, hml, findClass_of_methodNamed B.named, atoms_spec (ws := (wsU yX6_either cX6_either 4 none)) B.pre, B.returns, B.notSynchronized, hK, hG⟩
  obtain ⟨hx, hb, -, hown, hts, hr, hlocks, -, -⟩ := id C
  have hS : va_S (AW G) s.heap s.heap [] := va_S.rf
  have hl := lv_entry [.ref (G.2.2 32), .ref (G.2.2 p1), .int v2] (n := 4) (Nat.le_of_ble_eq_true rfl)
  rw [lg_entry_eq]
  generalize (lg_sl [.ref (G.2.2 32), .ref (G.2.2 p1), .int v2] ++ List.replicate (4 - (lg_sl [.ref (G.2.2 32), .ref (G.2.2 p1), .int v2]).length) Slot.unset).toArray = ls at hl ⊢
  have hl : lv_has ls 4 [(0, .ref (G.2.2 32)), (1, .ref (G.2.2 p1)), (2, .int v2)] := hl
  unfold fn_X6_either at h
  refine lv_aload_n hx hb dX6_either_0 rfl (lv_at hl 0 rfl) ?_
  refine lv_aload_n hx hb dX6_either_1 rfl (lv_at hl 1 rfl) ?_
  refine lv_iload_n hx hb dX6_either_2 rfl (lv_at hl 2 rfl) ?_
  obtain ⟨z2, h1, h⟩ := bv_s h
  refine x_Vv (Rz := z2) (As := [.ref (G.2.2 p1), .int v2]) (rest := []) ⟨hx, hb, hml, hown, hts⟩ hK hP hS (kd_lt k_32 (by decide)) (cell_6 k_32) rfl (m_X6_both hG (D := D - 1) hd0 (by omega) hkE hkO hk1 h1) (cwV 2 hts (gV lw_869 lw_871 lw_18 lw_112 lw_872) rfl rfl rfl (by decide +kernel) (rmd_ok (by omega) (by decide))) rfl hl.1 rfl (Nat.le_of_ble_eq_true rfl) dX6_either_3 ⟨Nat.le_refl _, Nat.le_refl _⟩ (fun H locs hP hS => ?_)
  refine lv_iconst (v := 0) hx hb dX6_either_6 (by decide) ?_
  refine lv_istore_n (lv' := [(3, .int 0), (0, .ref (G.2.2 32)), (1, .ref (G.2.2 p1)), (2, .int v2)]) hx hb dX6_either_7 rfl hl (by decide) rfl (fun ls hl => ?_)
  exact pf_X6_either_8 C hd0 hD hkE hkO  fu p1 v2 0 z2 hk1 _ _ _ hP hS (lv_sub hl [1, 2, 3, 0] rfl) h
