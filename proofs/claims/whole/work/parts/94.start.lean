theorem start_G {s : State} {b : Nat} (hts : ∀ w ∈ lw_tbl, w.before #[Value.ref b] s = true) : ∃ G : wG, Gb G ∧ G.2.2 0 = s.heap.size ∧ WK G s ∧ va_AO "ThreeTiers$Board" s ∧ va_AO "ThreeTiers$Slab" s := by
  obtain ⟨c0, i0, h0⟩ := u_known (C := RX0) (T := TX0) (N := 11) (n := 11) hts (fun w h => LW_tbl (inW_X0 w h)) (hts (.instantiable RX0 11) (List.mem_of_getElem? (i := 480) (by decide +kernel)))
  obtain ⟨c1, i1, h1⟩ := u_known (C := RX1) (T := TX1) (N := 6) (n := 6) hts (fun w h => LW_tbl (inW_X1 w h)) (hts (.instantiable RX1 6) (List.mem_of_getElem? (i := 363) (by decide +kernel)))
  obtain ⟨c2, i2, h2⟩ := u_known (C := RX2) (T := TX2) (N := 5) (n := 5) hts (fun w h => LW_tbl (inW_X2 w h)) (hts (.instantiable RX2 5) (List.mem_of_getElem? (i := 143) (by decide +kernel)))
  obtain ⟨c3, i3, h3⟩ := u_known (C := RX3) (T := TX3) (N := 4) (n := 4) hts (fun w h => LW_tbl (inW_X3 w h)) (hts (.instantiable RX3 4) (List.mem_of_getElem? (i := 622) (by decide +kernel)))
  obtain ⟨c4, i4, h4⟩ := u_known (C := RX4) (T := TX4) (N := 15) (n := 15) hts (fun w h => LW_tbl (inW_X4 w h)) (hts (.instantiable RX4 15) (List.mem_of_getElem? (i := 645) (by decide +kernel)))
  obtain ⟨c5, i5, h5⟩ := u_known (C := RX5) (T := TX5) (N := 16) (n := 16) hts (fun w h => LW_tbl (inW_X5 w h)) (hts (.instantiable RX5 16) (List.mem_of_getElem? (i := 560) (by decide +kernel)))
  obtain ⟨c6, i6, h6⟩ := u_known (C := RX6) (T := TX6) (N := 13) (n := 13) hts (fun w h => LW_tbl (inW_X6 w h)) (hts (.instantiable RX6 13) (List.mem_of_getElem? (i := 262) (by decide +kernel)))
  obtain ⟨c7, i7, h7⟩ := u_known (C := RX7) (T := TX7) (N := 16) (n := 16) hts (fun w h => LW_tbl (inW_X7 w h)) (hts (.instantiable RX7 16) (List.mem_of_getElem? (i := 137) (by decide +kernel)))
  obtain ⟨c8, i8, h8⟩ := u_known (C := RX8) (T := TX8) (N := 9) (n := 9) hts (fun w h => LW_tbl (inW_X8 w h)) (hts (.instantiable RX8 9) (List.mem_of_getElem? (i := 522) (by decide +kernel)))
  obtain ⟨c9, i9, h9⟩ := u_known (C := RX9) (T := TX9) (N := 7) (n := 7) hts (fun w h => LW_tbl (inW_X9 w h)) (hts (.instantiable RX9 7) (List.mem_of_getElem? (i := 370) (by decide +kernel)))
  obtain ⟨c10, i10, h10⟩ := u_known (C := RX10) (T := TX10) (N := 7) (n := 7) hts (fun w h => LW_tbl (inW_X10 w h)) (hts (.instantiable RX10 7) (List.mem_of_getElem? (i := 449) (by decide +kernel)))
  obtain ⟨c11, i11, h11⟩ := u_known (C := RX11) (T := TX11) (N := 15) (n := 15) hts (fun w h => LW_tbl (inW_X11 w h)) (hts (.instantiable RX11 15) (List.mem_of_getElem? (i := 129) (by decide +kernel)))
  obtain ⟨c12, i12, h12⟩ := u_known (C := RX12) (T := TX12) (N := 75) (n := 75) hts (fun w h => LW_tbl (inW_X12 w h)) (hts (.instantiable RX12 75) (List.mem_of_getElem? (i := 1429) (by decide +kernel)))
  obtain ⟨a13, k13, m13, e13, f13, g13⟩ := Cond.arrayClass_spec (args := #[Value.ref b]) (first := s) (o := none) (s := s) (idx := []) (hts (.arrayClass .byte) (List.mem_of_getElem? (i := 174) (by decide +kernel)))
  obtain ⟨a14, k14, m14, e14, f14, g14⟩ := Cond.arrayClass_spec (args := #[Value.ref b]) (first := s) (o := none) (s := s) (idx := []) (hts (.arrayClass .int) (List.mem_of_getElem? (i := 176) (by decide +kernel)))
  obtain ⟨a15, k15, m15, e15, f15, g15⟩ := Cond.arrayClass_spec (args := #[Value.ref b]) (first := s) (o := none) (s := s) (idx := []) (hts (.arrayClass .long) (List.mem_of_getElem? (i := 175) (by decide +kernel)))
  obtain ⟨a16, k16, m16, e16, f16, g16⟩ := Cond.arrayClass_spec (args := #[Value.ref b]) (first := s) (o := none) (s := s) (idx := []) (hts (.arrayClass .boolean) (List.mem_of_getElem? (i := 702) (by decide +kernel)))
  have ao17 : va_AO "ThreeTiers$Board" s := va_AO.of (hts (.arrayOver (.object "ThreeTiers$Board")) (List.mem_of_getElem? (i := 447) (by decide +kernel)))
  obtain ⟨m17, a17, k17, e17, -, f17, g17, q17⟩ := Cond.arrayOver_spec ao17
  have ao18 : va_AO "ThreeTiers$Slab" s := va_AO.of (hts (.arrayOver (.object "ThreeTiers$Slab")) (List.mem_of_getElem? (i := 369) (by decide +kernel)))
  obtain ⟨m18, a18, k18, e18, -, f18, g18, q18⟩ := Cond.arrayOver_spec ao18
  refine ⟨((fun k => match k with | 0 => c0 | 1 => c1 | 2 => c2 | 3 => c3 | 4 => c4 | 5 => c5 | 6 => c6 | 7 => c7 | 8 => c8 | 9 => c9 | 10 => c10 | 11 => c11 | _ => c12, fun k => match k with | 0 => i0 | 1 => i1 | 2 => i2 | 3 => i3 | 4 => i4 | 5 => i5 | 6 => i6 | 7 => i7 | 8 => i8 | 9 => i9 | 10 => i10 | 11 => i11 | _ => i12), (fun k => match k with | 13 => a13 | 14 => a14 | 15 => a15 | 16 => a16 | 17 => a17 | _ => a18), fun a => s.heap.size + a), fun a => rfl, rfl, ⟨?_, ?_⟩, ao17, ao18⟩
  · intro k q hq
    match k, hq with
    | 0, hq => cases hq; exact h0
    | 1, hq => cases hq; exact h1
    | 2, hq => cases hq; exact h2
    | 3, hq => cases hq; exact h3
    | 4, hq => cases hq; exact h4
    | 5, hq => cases hq; exact h5
    | 6, hq => cases hq; exact h6
    | 7, hq => cases hq; exact h7
    | 8, hq => cases hq; exact h8
    | 9, hq => cases hq; exact h9
    | 10, hq => cases hq; exact h10
    | 11, hq => cases hq; exact h11
    | 12, hq => cases hq; exact h12
    | k + 13, hq => simp [vwCl] at hq
  · intro k q hq
    match k, hq with
    | 0, hq => cases hq; exact ⟨fun n z => ⟨fun _ h => (by cases h), k13, f13, m13, g13⟩, e13⟩
    | 1, hq => cases hq; exact ⟨fun n z => ⟨fun _ h => (by cases h), k14, f14, m14, g14⟩, e14⟩
    | 2, hq => cases hq; exact ⟨fun n z => ⟨fun _ h => (by cases h), k15, f15, m15, g15⟩, e15⟩
    | 3, hq => cases hq; exact ⟨fun n z => ⟨fun _ h => (by cases h), k16, f16, m16, g16⟩, e16⟩
    | 4, hq => cases hq; exact ⟨fun n z => ⟨fun _ h => (by cases h), k17, f17, m17, g17⟩, k17, m17, f17, g17, e17, q17⟩
    | 5, hq => cases hq; exact ⟨fun n z => ⟨fun _ h => (by cases h), k18, f18, m18, g18⟩, k18, m18, f18, g18, e18, q18⟩
    | k + 6, hq => simp [tyl] at hq
theorem el99 : ∀ j, j < 99 → Cond.eq (.elem (.field (.string RX6 23) "java/lang/String" "value" "[B") (.int (Int32.ofNat j))) (.int (kB.getD j 0)) ∈ flatC (Jvm.Cond.and given_1 narrow_1) := by decide +kernel
theorem start_J {G : wG} {s : State} {b : Nat} (hG0 : G.2.2 0 = s.heap.size) (hts : ∀ w ∈ lw_tbl, w.before #[Value.ref b] s = true) (hgv : (Jvm.Cond.and given_1 narrow_1).before #[Value.ref b] s = true) : ∃ S : JSt, JF G S s := by
  have hA : ∀ a : Nat, a < s.heap.size → ¬ AB G a := fun a h q => by
    have q : G.2.2 0 ≤ a := q
    omega
  have hf := flat_of_before _ hgv
  obtain ⟨adK, adV, hV, hT⟩ := vk_Sof (args := #[Value.ref b]) (s := s) (N := 1) (tm := fun _ => .string RX6 23) (len := [99]) (byt := [kB]) (A := AB G)
    (fun i hi => by obtain rfl : i = 0 := by omega
                    decide)
    (fun i hi => hf (Cond.exactly (.string RX6 23) "java/lang/String") (by decide +kernel))
    (fun i hi => hf (Cond.eq (.field (.string RX6 23) "java/lang/String" "coder" "B") (.int 0)) (by decide +kernel))
    (fun i hi => hf (Cond.arrayOf (.field (.string RX6 23) "java/lang/String" "value" "[B") .byte) (by decide +kernel))
    (fun i hi => by obtain rfl : i = 0 := by omega
                    exact hf (Cond.eq (.length (.field (.string RX6 23) "java/lang/String" "value" "[B")) (.int 99)) (by decide +kernel))
    (fun i hi j hj => by obtain rfl : i = 0 := by omega
                         exact hf _ (el99 j hj))
    (fun i j hi hj hij => absurd (by omega) hij) hA
  have hZ : va_Z "java/lang/String" "COMPACT_STRINGS" "Z" (.int 1) (AB G) s s.heap := va_Zof (hts (.laysStatic "java/lang/String" "COMPACT_STRINGS" "Z") (List.mem_of_getElem? (i := 277) (by decide +kernel))) (hts (.initialized "java/lang/String") (List.mem_of_getElem? (i := 113) (by decide +kernel))) (va_eqi (hf (Cond.eq (.static "java/lang/String" "COMPACT_STRINGS" "Z") (.int 1)) (by decide +kernel))) hA
  have hV1 : vk_S 1 [99] [kB] (fun _ => adK 0) (fun _ => adV 0) (AB G) s s.heap := by
    refine ⟨fun i hi => ?_, fun i j hi hj _ => by omega⟩
    obtain rfl : i = 0 := by omega
    exact hV.1 0 hi
  have hR : vk_R RX6 23 kT (adK 0) s := vk_R.of (hts (.stringRef RX6 23 kT) (List.mem_of_getElem? (i := 267) (by decide +kernel))) (hT 0 Nat.zero_lt_one)
  have hN : va_Nw (.methodLinkNest RX11 77 yX3_init "ThreeTiers") s := va_Nw.of rfl (hts (.methodLinkNest RX11 77 yX3_init "ThreeTiers") (List.mem_of_getElem? (i := 623) (by decide +kernel)))
  have hQ := va_Zqof (A := AB G) (hts (.laysStatic "jdk/internal/util/Preconditions" "SIOOBE_FORMATTER" "Ljava/util/function/BiFunction;") (List.mem_of_getElem? (i := 293) (by decide +kernel))) (hts (.initialized "jdk/internal/util/Preconditions") (List.mem_of_getElem? (i := 115) (by decide +kernel))) (hf (Cond.isRef (.static "jdk/internal/util/Preconditions" "SIOOBE_FORMATTER" "Ljava/util/function/BiFunction;")) (by decide +kernel)) hA
  rcases hQ with h | ⟨t, h⟩
  · exact ⟨(adK 0, adV 0, none), ⟨hV1, hZ, h⟩, hR, hN⟩
  · exact ⟨(adK 0, adV 0, some t), ⟨hV1, hZ, h⟩, hR, hN⟩
set_option maxHeartbeats 4000000 in
set_option maxRecDepth 100000 in
theorem whole_start {p : Program} {e : Env} {s : State} {m : MethodId} {below : List Frame} {meth : Method} {c : Code} (l : Launch) (hflags : l.flags = flags0) {b L : Nat} {xs : Nat → Int32} (hL : L ≤ 3072) (C0 : lw_At p s m meth c b L xs) : W p l e room_1 s m #[Value.ref b] below meth c s.heap [] 0 0 (lw_Z below #[Value.ref b] s) (entryFrame m ([Value.ref b] : List Value).toArray 4) := by
  obtain ⟨hx, hb, hr, hml, hown, hts, hX, hbl, hlocks, hgv⟩ := id C0
  have hown : s.vm.findClass RL = some m.cls := hown
  obtain ⟨G, hG, hG0, hK, hAO⟩ := start_G hts
  obtain ⟨S, hJ⟩ := start_J hG0 hts hgv
  have hS : va_S (AB G) s.heap s.heap [] := va_S.rf
  have hP : WC G (0, z00.2) s.heap := ⟨fun k q h => by
    have h : ([] : va_W)[k]? = some q := h
    simp at h, hG0.symm, fun a k _ => ⟨rfl, rfl, rfl⟩⟩
  have hl := lv_entry ([.ref b]) (n := 4) (Nat.le_of_ble_eq_true rfl)
  rw [lg_entry_eq]
  generalize (lg_sl ([.ref b]) ++ List.replicate (4 - (lg_sl ([.ref b])).length) Slot.unset).toArray = ls at hl ⊢
  have hl : lv_has ls 4 [(0, .ref b)] := hl
  refine zn_11 (z := (0, z00.2)) hx hb hts (fun w h => LW_tbl (inW_X11 w h)) hown hK hG hP hS (by decide) (hts (.classLink RL 7 RX11) (List.mem_of_getElem? (i := 128) (by decide +kernel))) (hts (.instantiable RX11 15) (List.mem_of_getElem? (i := 129) (by decide +kernel))) (hts (.initialized RX11) (List.mem_of_getElem? (i := 109) (by decide +kernel))) (Nat.le_of_ble_eq_true rfl) (Nat.le_of_ble_eq_true rfl) dL_law_0 (fun H hP hS => ?_)
  have hP : WC G z00 H := hP
  refine W.eq (g2 := F0 m 3 ls [.ref (G.2.2 0)]) rfl ?_
  refine lv_dup hx hb dL_law_3 rfl ?_
  refine x_CIX (Rz := zB) (S := S) (q := 0) (As := []) (rest := [.ref (G.2.2 0)]) ⟨hx, hb, hml, hown, hts⟩ ⟨hK, hAO⟩ hJ hP hS (mC_X11_init hG zB_e) (cwI 0 hts (gU (fun _ h => LW_tbl h) (inLW 132 (by decide +kernel) (by decide +kernel))) rfl rfl rfl (hts (.initialized RX11) (List.mem_of_getElem? (i := 109) (by decide +kernel))) (hts (.methodLink RL 9 yX11_init) (List.mem_of_getElem? (i := 130) (by decide +kernel))) (hts (.instanceMethod yX11_init) (List.mem_of_getElem? (i := 131) (by decide +kernel))) rfl (by decide +kernel) ⟨Nat.le_of_ble_eq_true rfl, Nat.le_of_ble_eq_true rfl⟩) rfl hl.1 rfl (Nat.le_of_ble_eq_true rfl) dL_law_4 ⟨Nat.le_of_ble_eq_true rfl, Nat.le_of_ble_eq_true rfl⟩ (fun H locs hP hS => ?_)
  refine lv_astore_n (lv' := [(1, .ref (G.2.2 0)), (0, .ref b)]) hx hb dL_law_7 rfl hl (by decide) rfl (fun ls hl => ?_)
  refine zn_12 (z := zB) hx hb hts (fun w h => LW_tbl (inW_X12 w h)) hown hK hG hP hS (by rw [zB_n]; decide) (hts (.classLink RL 10 RX12) (List.mem_of_getElem? (i := 1428) (by decide +kernel))) (hts (.instantiable RX12 75) (List.mem_of_getElem? (i := 1429) (by decide +kernel))) (hts (.initialized RX12) (List.mem_of_getElem? (i := 125) (by decide +kernel))) (Nat.le_of_ble_eq_true rfl) (Nat.le_of_ble_eq_true rfl) dL_law_8 (fun H hP hS => ?_)
  refine W.eq (g2 := F0 m 11 ls [.ref (G.2.2 172)]) (by rw [zB_n]) ?_
  refine lv_dup hx hb dL_law_11 rfl ?_
  refine x_CI (Rz := zE) (q := 172) (z := cN zB) (As := []) (rest := [.ref (G.2.2 172)]) ⟨hx, hb, hml, hown, hts⟩ ⟨hK, hAO⟩ hP hS (mC_X12_init hG zE_e) (cwI 0 hts (gU (fun _ h => LW_tbl h) (inLW 1432 (by decide +kernel) (by decide +kernel))) rfl rfl rfl (hts (.initialized RX12) (List.mem_of_getElem? (i := 125) (by decide +kernel))) (hts (.methodLink RL 12 yX12_init) (List.mem_of_getElem? (i := 1430) (by decide +kernel))) (hts (.instanceMethod yX12_init) (List.mem_of_getElem? (i := 1431) (by decide +kernel))) rfl (by decide +kernel) ⟨Nat.le_of_ble_eq_true rfl, Nat.le_of_ble_eq_true rfl⟩) rfl hl.1 rfl (Nat.le_of_ble_eq_true rfl) dL_law_12 ⟨Nat.le_of_ble_eq_true rfl, Nat.le_of_ble_eq_true rfl⟩ (fun H locs hP hS => ?_)
  refine lv_astore_n (lv' := [(2, .ref (G.2.2 172)), (1, .ref (G.2.2 0)), (0, .ref b)]) hx hb dL_law_15 rfl hl (by decide) rfl (fun ls hl => ?_)
  refine lv_iconst (v := 0) hx hb dL_law_16 (by decide) ?_
  refine lv_istore_n (lv' := [(3, .int 0), (2, .ref (G.2.2 172)), (1, .ref (G.2.2 0)), (0, .ref b)]) hx hb dL_law_17 rfl hl (by decide) rfl (fun ls hl => ?_)
  refine W.widen (k := 600000) (n := 7302250) (Nat.le_of_ble_eq_true rfl) (Nat.le_of_ble_eq_true rfl) ?_
  obtain ⟨z', hz⟩ := fold_all (xs := xs) hL fu 0 zE.2.1 (Nat.zero_le _) (by show L < 0 + 6 * 1000000; omega) ⟨_, _, _, _, RD_start⟩
  rw [show iI ((0 : Nat) : Int) = 0 from by decide] at hz
  have hS2 : va_S (fun q : Nat => s.heap.size ≤ q) s.heap H locs := by
    unfold AB at hS
    rw [hG0] at hS
    exact hS
  have hOk : Ok G := fun a d _ _ h => by
    rw [hG a, hG d] at h
    omega
  have hAW : ∀ q, AW G q → s.heap.size ≤ q := fun q h => by
    obtain ⟨a, -, rfl⟩ := h
    rw [hG a, hG0]
    omega
  exact pf_L_law_18 (Rz := (1, z')) ⟨C0, hOk, hK, hAW⟩ rfl fu 0 zE.2.1 H locs ls (wc_wp hP) hS2 (lv_sub hl [3, 2, 1, 0] rfl) hz
