set_option maxRecDepth 20000 in
theorem ggX5_findOrder_X5_prepare : GoodIn wsX5_findOrder wsX5_prepare := goodIn_r _ [11, 4, 3, 12, 13, 14, 15, 16, 17, 18, 5, 19, 20, 21, 22, 23, 24, 25, 26, 27, 28, 29, 30, 31, 32, 33, 34, 35, 36, 37, 38, 39, 40, 41, 42, 43, 44, 45, 46, 47, 48, 49, 50, 51, 52, 53, 54, 55, 56, 57, 58, 59, 60, 61, 62, 63, 64, 65, 66, 67, 68, 69, 70, 71, 72, 73, 74, 75, 76, 77, 78, 79, 80, 81, 82, 83, 84, 85, 86, 87, 88, 89, 90, 91, 92, 93, 110, 111, 112, 113, 114, 115, 116, 117, 118, 119, 120, 121, 122, 123, 124, 125, 126, 127, 128, 129, 130, 131, 132, 133, 134, 135, 136, 137, 138, 139, 140, 141, 142, 143, 144, 145, 146, 147, 148, 149, 150, 151, 152, 153, 154, 155, 156, 157, 158, 159, 160, 161, 162, 163, 164, 165, 166] (by decide +kernel) (by decide +kernel)
set_option maxRecDepth 20000 in
theorem gX5_findOrder_X5_prepare : GoodIn wsX5_findOrder (wsV RX5 108 RX5 yX5_prepare wsX5_prepare) := goodIn_app (goodIn_of _ (by decide +kernel)) ggX5_findOrder_X5_prepare
set_option maxRecDepth 20000 in
theorem ggX5_findOrder_X5_tryOrders : GoodIn wsX5_findOrder wsX5_tryOrders := goodIn_r _ [97, 1, 2, 3, 98, 12, 13, 17, 99, 100, 101, 102, 103, 104, 105, 10, 106, 14, 16, 107, 108, 109, 94, 95, 96, 110, 111, 112, 113, 114, 115, 116, 117, 118, 119, 120, 121, 122, 123, 124, 125, 126, 127, 128, 129, 130, 131, 132, 133, 134, 135, 136, 137, 138, 139, 140, 141, 142, 143, 144, 145, 146, 147] (by decide +kernel) (by decide +kernel)
set_option maxRecDepth 20000 in
theorem gX5_findOrder_X5_tryOrders : GoodIn wsX5_findOrder (wsV RX5 131 RX5 yX5_tryOrders wsX5_tryOrders) := goodIn_app (goodIn_of _ (by decide +kernel)) ggX5_findOrder_X5_tryOrders
theorem dX5_findOrder_0 : decode cX5_findOrder 0 = .ok (.aload_n 0, 1) := by decide +kernel
theorem dX5_findOrder_1 : decode cX5_findOrder 1 = .ok (.invokevirtual 108, 3) := by decide +kernel
theorem dX5_findOrder_4 : decode cX5_findOrder 4 = .ok (.aload_n 0, 1) := by decide +kernel
theorem dX5_findOrder_5 : decode cX5_findOrder 5 = .ok (.iconst 0, 1) := by decide +kernel
theorem dX5_findOrder_6 : decode cX5_findOrder 6 = .ok (.putfield 123, 3) := by decide +kernel
theorem dX5_findOrder_9 : decode cX5_findOrder 9 = .ok (.aload_n 0, 1) := by decide +kernel
theorem dX5_findOrder_10 : decode cX5_findOrder 10 = .ok (.iconst 0, 1) := by decide +kernel
theorem dX5_findOrder_11 : decode cX5_findOrder 11 = .ok (.putfield 127, 3) := by decide +kernel
theorem dX5_findOrder_14 : decode cX5_findOrder 14 = .ok (.aload_n 0, 1) := by decide +kernel
theorem dX5_findOrder_15 : decode cX5_findOrder 15 = .ok (.getfield 87, 3) := by decide +kernel
theorem dX5_findOrder_18 : decode cX5_findOrder 18 = .ok (.ifCond .le 19, 3) := by decide +kernel
theorem dX5_findOrder_21 : decode cX5_findOrder 21 = .ok (.aload_n 0, 1) := by decide +kernel
theorem dX5_findOrder_22 : decode cX5_findOrder 22 = .ok (.aload_n 1, 1) := by decide +kernel
theorem dX5_findOrder_23 : decode cX5_findOrder 23 = .ok (.iconst 0, 1) := by decide +kernel
theorem dX5_findOrder_24 : decode cX5_findOrder 24 = .ok (.aload_n 0, 1) := by decide +kernel
theorem dX5_findOrder_25 : decode cX5_findOrder 25 = .ok (.getfield 84, 3) := by decide +kernel
theorem dX5_findOrder_28 : decode cX5_findOrder 28 = .ok (.aload_n 0, 1) := by decide +kernel
theorem dX5_findOrder_29 : decode cX5_findOrder 29 = .ok (.getfield 105, 3) := by decide +kernel
theorem dX5_findOrder_32 : decode cX5_findOrder 32 = .ok (.ldc 130, 2) := by decide +kernel
theorem dX5_findOrder_34 : decode cX5_findOrder 34 = .ok (.invokevirtual 131, 3) := by decide +kernel
theorem dX5_findOrder_37 : decode cX5_findOrder 37 = .ok (.aload_n 0, 1) := by decide +kernel
theorem dX5_findOrder_38 : decode cX5_findOrder 38 = .ok (.getfield 87, 3) := by decide +kernel
theorem dX5_findOrder_41 : decode cX5_findOrder 41 = .ok (.ireturn, 1) := by decide +kernel
theorem in_X5_findOrder_X5 : ∀ w ∈ wsX50, w ∈ wsX5_findOrder := fun _ h => (List.mem_cons_of_mem _ (List.mem_append_left _ (List.mem_append_left _ (List.mem_append_left _ (List.mem_append_left _ (List.mem_append_left _ (List.mem_append_right _ h)))))))
def fn_X5_findOrder (p1 : Nat) (z : St) : Option (Int32 × St) := bv (fn_X5_prepare   z) (fun z2 => nm (sI z2 156 10 0) (fun z3 => nm (sI z3 156 11 0) (fun z4 => (if (z4.1 156 8) ≤ 0 then some ((z4.1 156 8), z4) else bv ((recT 9) p1 0 (z4.1 156 7) (z4.1 156 9) 2147483647 z4) (fun z7 => some ((z7.1 156 8), z7))))))
set_option maxHeartbeats 4000000 in
set_option maxRecDepth 100000 in
theorem m_X5_findOrder {l : Launch} {G : wG} (hG : Ok G) {p1 : Nat} {z : St} {Rz : Int32 × St} (hk1 : kd p1 = 14) (h : fn_X5_findOrder  p1 z = some Rz) : Met l yX5_findOrder wsX5_findOrder (rmd 29) (va_Pc [.ref (G.2.2 156), .ref (G.2.2 p1)] (Pre G z)) (va_Qi (fun r u => (r, u) = Rz) (Pre G) (AW G)) 0 0 (AW G) := by
  refine Met.ofW (cc := cX5_findOrder) (maxL := 2) (ret := (some .int)) (by decide) rfl ?_
  intro p e s m args below meth c s₁ B hml hv
  obtain ⟨rfl, hP, hK⟩ := hv
  have C : CX p s m ([.ref (G.2.2 156), .ref (G.2.2 p1)] : List Value).toArray meth c cX5_findOrder 2 wsX5_findOrder RX5 (some .int) G := ⟨B.exec, B.bytes, hml, findClass_of_methodNamed B.named, atoms_spec (ws := wsX5_findOrder) B.pre, B.returns, B.notSynchronized, hK, hG⟩
  obtain ⟨hx, hb, -, hown, hts, hr, hlocks, -, -⟩ := id C
  have hS : va_S (AW G) s.heap s.heap [] := va_S.rf
  have hl := lv_entry [.ref (G.2.2 156), .ref (G.2.2 p1)] (n := 2) (Nat.le_of_ble_eq_true rfl)
  rw [lg_entry_eq]
  generalize (lg_sl [.ref (G.2.2 156), .ref (G.2.2 p1)] ++ List.replicate (2 - (lg_sl [.ref (G.2.2 156), .ref (G.2.2 p1)]).length) Slot.unset).toArray = ls at hl ⊢
  have hl : lv_has ls 2 [(0, .ref (G.2.2 156)), (1, .ref (G.2.2 p1))] := hl
  unfold fn_X5_findOrder at h
  refine lv_aload_n hx hb dX5_findOrder_0 rfl (lv_at hl 0 rfl) ?_
  obtain ⟨z2, h1, h⟩ := bv_s h
  refine x_Vv (Rz := z2) (As := []) (rest := []) ⟨hx, hb, hml, hown, hts⟩ hK hP hS (kd_lt k_156 (by decide)) (cell_5 k_156) rfl (m_X5_prepare hG   h1) (cwV 0 hts gX5_findOrder_X5_prepare rfl rfl rfl (by decide +kernel) (rmd_ok (by decide) (by decide))) rfl hl.1 rfl (Nat.le_of_ble_eq_true rfl) dX5_findOrder_1 ⟨Nat.le_refl _, Nat.le_refl _⟩ (fun H locs hP hS => ?_)
  refine lv_aload_n hx hb dX5_findOrder_4 rfl (lv_at hl 0 rfl) ?_
  refine lv_iconst (v := 0) hx hb dX5_findOrder_5 (by decide) ?_
  obtain ⟨z3, e_z3, h⟩ := nm_s h
  refine pu_5_10 hx hb hts in_X5_findOrder_X5 hown hK hG hP hS k_156 (hts _ (List.mem_of_getElem? (i := 1) rfl)) rfl dX5_findOrder_6 (fun H locs hP hS => ?_)
  rw [← e_z3] at hP
  refine lv_aload_n hx hb dX5_findOrder_9 rfl (lv_at hl 0 rfl) ?_
  refine lv_iconst (v := 0) hx hb dX5_findOrder_10 (by decide) ?_
  obtain ⟨z4, e_z4, h⟩ := nm_s h
  refine pu_5_11 hx hb hts in_X5_findOrder_X5 hown hK hG hP hS k_156 (hts _ (List.mem_of_getElem? (i := 2) rfl)) dX5_findOrder_11 (fun H locs hP hS => ?_)
  rw [← e_z4] at hP
  refine lv_aload_n hx hb dX5_findOrder_14 rfl (lv_at hl 0 rfl) ?_
  refine ge_5_8 hx hb hts in_X5_findOrder_X5 hown hK hP k_156 (hts _ (List.mem_of_getElem? (i := 3) rfl)) dX5_findOrder_15 ?_
  refine lv_if_le (tgt := 37) hx hb dX5_findOrder_18 (by decide) (fun c5 => ?_) (fun c5 => ?_)
  · rw [if_pos c5] at h
    refine lv_aload_n hx hb dX5_findOrder_37 rfl (lv_at hl 0 rfl) ?_
    refine ge_5_8 hx hb hts in_X5_findOrder_X5 hown hK hP k_156 (hts _ (List.mem_of_getElem? (i := 3) rfl)) dX5_findOrder_38 ?_
    exact x_iret hx hb hr hlocks hK hP hS h dX5_findOrder_41
  · rw [if_neg c5] at h
    refine lv_aload_n hx hb dX5_findOrder_21 rfl (lv_at hl 0 rfl) ?_
    refine lv_aload_n hx hb dX5_findOrder_22 rfl (lv_at hl 1 rfl) ?_
    refine lv_iconst (v := 0) hx hb dX5_findOrder_23 (by decide) ?_
    refine lv_aload_n hx hb dX5_findOrder_24 rfl (lv_at hl 0 rfl) ?_
    refine ge_5_7 hx hb hts in_X5_findOrder_X5 hown hK hP k_156 (hts _ (List.mem_of_getElem? (i := 4) rfl)) dX5_findOrder_25 ?_
    refine lv_aload_n hx hb dX5_findOrder_28 rfl (lv_at hl 0 rfl) ?_
    refine ge_5_9 hx hb hts in_X5_findOrder_X5 hown hK hP k_156 (hts _ (List.mem_of_getElem? (i := 5) rfl)) dX5_findOrder_29 ?_
    refine lv_ldc (v := 2147483647) hx hb hown (hts _ (List.mem_of_getElem? (i := 6) rfl)) dX5_findOrder_32 ?_
    obtain ⟨z7, h6, h⟩ := bv_s h
    refine x_Vv (Rz := z7) (As := [.ref (G.2.2 p1), .int 0, .int (z4.1 156 7), .int (z4.1 156 9), .int 2147483647]) (rest := []) ⟨hx, hb, hml, hown, hts⟩ hK hP hS (kd_lt k_156 (by decide)) (cell_5 k_156) rfl (m_recT hG hk1 h6) (cwV 5 hts gX5_findOrder_X5_tryOrders rfl rfl rfl (by decide +kernel) (rmd_ok (by decide) (by decide))) rfl hl.1 rfl (Nat.le_of_ble_eq_true rfl) dX5_findOrder_34 ⟨Nat.le_refl _, Nat.le_refl _⟩ (fun H locs hP hS => ?_)
    refine lv_aload_n hx hb dX5_findOrder_37 rfl (lv_at hl 0 rfl) ?_
    refine ge_5_8 hx hb hts in_X5_findOrder_X5 hown hK hP k_156 (hts _ (List.mem_of_getElem? (i := 3) rfl)) dX5_findOrder_38 ?_
    exact x_iret hx hb hr hlocks hK hP hS h dX5_findOrder_41
