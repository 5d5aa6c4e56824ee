/-! THE CLAIM OUT OF ONE WALK OF THE LAW'S BODY. Your part is whole_start (and what it stands on); all else here is the same for every law, but numbers. -/
def R_law : String := "ThreeTiersLaw"
def lw_P (b : Addr) (xs : List Int32) (args : Array Value) (s : State) : Prop := args = #[.ref b] ∧ s.IntsAt b xs ∧ xs.length ≤ 3072 ∧ (Jvm.Cond.and given_1 narrow_1).before args s = true
def lw_Q (_ : Array Value) (s : State) (o : Outcome) (t : State) : Prop := o = .returned (some (.int 1)) ∧ Framed s o t [] 600000 7302250
def lw_Z (below : List Frame) (a : Array Value) (s : State) : State → Prop := fun t => ∃ o, t.status = .running ∧ Ended t below o ∧ lw_Q a s o t
/-- the law's own end, with 1 on the stack, nothing written that was there before, its room as the claim has it -/
theorem lw_ret {p : Program} {l : Launch} {e : Env} {s : State} {m : MethodId} {below : List Frame} {meth : Method} {c : Code} {b : Nat} (hx : p.tables.exec = Jvm.exec) (hb : c.code = code) (hr : meth.sig.returnType = ret) (hlocks : meth.locks = false) {pc : Nat} {H : Heap} {ls : Array Slot} (hdg : decode code pc = .ok (.ireturn, 1)) : W p l e room_1 s m #[Value.ref b] below meth c H [] 600000 7302250 (lw_Z below #[Value.ref b] s) (F0 m pc ls [.int 1]) := by
  intro T hT X
  obtain ⟨fs, hret, hrun, hended, hW, hframe⟩ := X.leave (v := some (.int 1)) (hlocks := hlocks) (fun h => by rw [hr] at h; cases h)
  have hmeth' : T.vm.method? m = some meth := X.method'
  refine ⟨T.setFrames fs, ?_, .returned (some (.int 1)), hrun, hended, rfl, ⟨_, rfl⟩, hW, hframe⟩
  jvm_step X.here [X.here.top, hx, hb, hdg, hmeth', hr, ret, narrow_b1]
  (try refine ⟨rfl, ?_⟩); (try refine ⟨rfl, ?_⟩)
  first | (intro acts; rw [hret _ acts rfl rfl rfl]) | rw [hret _ _ rfl rfl rfl]
  exact Steps.refl _
/-- what holds at the law's entry: the machine, the code, the tables' words (any of lw_tbl by 'hts w (by decide +kernel)'), the script of L ints xs at the cell b, what the Statement gives of the start (any of its parts by flat_of_before) -/
def lw_At (p : Program) (s : State) (m : MethodId) (meth : Method) (c : Code) (b L : Nat) (xs : Nat → Int32) : Prop :=
  p.tables.exec = Jvm.exec ∧ c.code = code ∧ meth.sig.returnType = ret ∧ c.maxLocals = 4 ∧ s.vm.findClass R_law = some m.cls ∧ (∀ w ∈ lw_tbl, w.before #[Value.ref b] s = true) ∧ va_X b L xs s s.heap ∧ b < s.heap.size ∧ meth.locks = false ∧ (Jvm.Cond.and given_1 narrow_1).before #[Value.ref b] s = true
def CL (p : Program) (s : State) (m : MethodId) (meth : Method) (c : Code) (b L : Nat) (xs : Nat → Int32) (G : wG) : Prop := lw_At p s m meth c b L xs ∧ Ok G ∧ WK G s ∧ ∀ q, AW G q → s.heap.size ≤ q
section YROWS
variable {p : Program} {l : Launch} {e : Env} {R : Room} {s : State} {m : MethodId} {args : Array Value} {below : List Frame} {meth : Method} {c : Code} {H : Heap} {locs : List Loc} {cells slots : Nat} {Q : State → Prop}
variable {cc : ByteArray} {pc : Nat} {ls : Array Slot} {rest st : List Value} {H0 : Heap} {G : wG} {σ : St} {A0 : Nat → Prop}
variable {y : MethodName} {ws : List Cond} {rm : Room} {nL n index maxL q ci N : Nat} {own C : String} {Ts : List Cond} {bytes : ByteArray} {ret : Option FieldType} {As : List Value} {fs : List Value} {T : u_T}
theorem y_Vi {Rz : Int32 × St} (S : CallFix p m c cc nL s args Ts own) (hK : WK G s) (hP : WP G σ H) (hS : va_S A0 H0 H locs) (hAW : ∀ q, AW G q → A0 q) (hq : q < NP) (hc : cell G σ q = .inr (ci, fs)) (hcl : vwCl[ci]? = some (C, T, N))
    (hM : Met l y ws rm (va_Pc (.ref (G.2.2 q) :: As) (Pre G σ)) (va_Qi (fun r u => (r, u) = Rz) (Pre G) (AW G)) 0 0 (AW G)) (cw : CallW R s args own C index y bytes maxL ret ws rm 0 0 n) (hn : As.length = n) (hsize : ls.size = nL) (hst : st = As.reverse ++ .ref (G.2.2 q) :: rest) (hW : (rest.map fun v => v.category).sum ≤ 8) (hd : decode cc pc = .ok (.invokevirtual index, 3)) (hf : cells ≤ R.cells ∧ slots ≤ R.slots)
    (kk : ∀ (H1 : Heap) (locs1 : List Loc), WP G Rz.2 H1 → va_S A0 H0 H1 locs1 → W p l e R s m args below meth c H1 locs1 cells slots Q (F0 m (pc + 3) ls (.int Rz.1 :: rest))) : W p l e R s m args below meth c H locs cells slots Q (F0 m pc ls st) :=
  va_calli (va_runV S hM cw ⟨pre_blind, va_recv hK hP hcl (by rw [wl_at hq, hc]), fun U hU hW => ⟨rfl, by rw [hU]; exact hP, va_K.moved hW.alike hK⟩⟩ rfl hn hsize hst (lv_room hW) hd hf) hS (fun q _ h => hAW q h) (fun q h => hAW q h) (fun r u t H1 locs1 ht hvm hw hB _ _ hS1 => by
    subst hw
    exact kk H1 locs1 (by rw [← ht]; exact hB.1) hS1)
end YROWS
def fn_L_law_1522 (xs : Nat → Int32) (Ln : Nat) (k18 : Int32 → St → Option (Int32 × St)) (v3 : Int32) (z : St) : Option (Int32 × St) := k18 (v3 + 6) z
set_option maxHeartbeats 4000000 in
set_option maxRecDepth 100000 in
theorem pf_L_law_1522 {p : Program} {l : Launch} {e : Env} {s : State} {m : MethodId} {below : List Frame} {meth : Method} {c : Code} {G : wG} {b Ln : Nat} {xs : Nat → Int32} (C : CL p s m meth c b Ln xs G) {Rz : Int32 × St} (hR : Rz.1 = 1) {k18 : Int32 → St → Option (Int32 × St)} (hk_18 : ∀ (v3 : Int32) (z : St) (H : Heap) (locs : List Loc) (ls : Array Slot), WP G z H → va_S (fun q : Nat => s.heap.size ≤ q) s.heap H locs → lv_has ls 4 [(0, .ref b), (1, .ref (G.2.2 0)), (2, .ref (G.2.2 172)), (3, .int v3)] → k18 v3 z = some Rz → W p l e room_1 s m #[Value.ref b] below meth c H locs 600000 7302250 (lw_Z below #[Value.ref b] s) (F0 m 18 ls [])) (v3 : Int32) (z : St) {H : Heap} {locs : List Loc} {ls : Array Slot} (hP : WP G z H) (hS : va_S (fun q : Nat => s.heap.size ≤ q) s.heap H locs) (hl : lv_has ls 4 [(0, .ref b), (1, .ref (G.2.2 0)), (2, .ref (G.2.2 172)), (3, .int v3)]) (h : fn_L_law_1522 xs Ln k18 v3 z = some Rz) : W p l e room_1 s m #[Value.ref b] below meth c H locs 600000 7302250 (lw_Z below #[Value.ref b] s) (F0 m 1522 ls []) := by
  obtain ⟨⟨hx, hb, hr, hml, hown, hts, hX, hbl, hlocks, -⟩, hG, hK, hAW⟩ := id C
  have hbA : ¬ (fun q : Nat => s.heap.size ≤ q) b := Nat.not_le.mpr hbl
  unfold fn_L_law_1522 at h
  refine lv_iinc (v := (v3 + 6)) (lv' := [(3, .int (v3 + 6)), (0, .ref b), (1, .ref (G.2.2 0)), (2, .ref (G.2.2 172))]) hx hb dL_law_1522 hl (k := 3) rfl rfl (by decide) rfl (fun ls hl => ?_)
  refine lv_goto (tgt := 18) hx hb dL_law_1525 (by decide) ?_
  exact hk_18 (v3 + 6) z  _ _ _ hP hS (lv_sub hl [1, 2, 3, 0] rfl) h
def fn_L_law_1310 (xs : Nat → Int32) (Ln : Nat) (k18 : Int32 → St → Option (Int32 × St)) (v3 : Int32) (tv0 : Int32) (tv2 : Int32) (tv3 : Int32) (z : St) : Option (Int32 × St) := bd (fn_X12_rimmed  tv2 tv3 z) (fun r2 z3 => (if tv0 = r2 then fn_L_law_1522 xs Ln k18 v3 z3 else some (0, z3)))
set_option maxHeartbeats 4000000 in
set_option maxRecDepth 100000 in
theorem pf_L_law_1310 {p : Program} {l : Launch} {e : Env} {s : State} {m : MethodId} {below : List Frame} {meth : Method} {c : Code} {G : wG} {b Ln : Nat} {xs : Nat → Int32} (C : CL p s m meth c b Ln xs G) {Rz : Int32 × St} (hR : Rz.1 = 1) {k18 : Int32 → St → Option (Int32 × St)} (hk_18 : ∀ (v3 : Int32) (z : St) (H : Heap) (locs : List Loc) (ls : Array Slot), WP G z H → va_S (fun q : Nat => s.heap.size ≤ q) s.heap H locs → lv_has ls 4 [(0, .ref b), (1, .ref (G.2.2 0)), (2, .ref (G.2.2 172)), (3, .int v3)] → k18 v3 z = some Rz → W p l e room_1 s m #[Value.ref b] below meth c H locs 600000 7302250 (lw_Z below #[Value.ref b] s) (F0 m 18 ls [])) (v3 : Int32) (tv0 : Int32) (tv2 : Int32) (tv3 : Int32) (z : St) {H : Heap} {locs : List Loc} {ls : Array Slot} (hP : WP G z H) (hS : va_S (fun q : Nat => s.heap.size ≤ q) s.heap H locs) (hl : lv_has ls 4 [(0, .ref b), (1, .ref (G.2.2 0)), (2, .ref (G.2.2 172)), (3, .int v3)]) (h : fn_L_law_1310 xs Ln k18 v3 tv0 tv2 tv3 z = some Rz) : W p l e room_1 s m #[Value.ref b] below meth c H locs 600000 7302250 (lw_Z below #[Value.ref b] s) (F0 m 1310 ls [.int tv3, .int tv2, .ref (G.2.2 172), .int tv0]) := by
  obtain ⟨⟨hx, hb, hr, hml, hown, hts, hX, hbl, hlocks, -⟩, hG, hK, hAW⟩ := id C
  have hbA : ¬ (fun q : Nat => s.heap.size ≤ q) b := Nat.not_le.mpr hbl
  unfold fn_L_law_1310 at h
  obtain ⟨r2, z3, h1, h⟩ := bd_s h
  refine y_Vi (Rz := (r2, z3)) (As := [.int tv2, .int tv3]) (rest := [.int tv0]) ⟨hx, hb, hml, hown, hts⟩ hK hP hS hAW (kd_lt k_172 (by decide)) (cell_12 k_172) rfl (m_X12_rimmed hG   h1) (cwV 2 hts (gVb (fun _ h => LW_tbl h) lw_2092 lw_2093 lw_2094 lw_125 lw_2095) rfl rfl rfl (by decide +kernel) ⟨Nat.le_of_ble_eq_true rfl, Nat.le_of_ble_eq_true rfl⟩) rfl hl.1 rfl (Nat.le_of_ble_eq_true rfl) dL_law_1310 ⟨Nat.le_refl _, Nat.le_refl _⟩ (fun H locs hP hS => ?_)
  refine lv_icmp_eq (tgt := 1522) hx hb dL_law_1313 (by decide) (fun c4 => ?_) (fun c4 => ?_)
  · rw [if_pos c4] at h
    exact pf_L_law_1522 C hR hk_18 v3 z3  hP hS (lv_sub hl [0, 1, 2, 3] rfl) h
  · rw [if_neg c4] at h
    refine lv_iconst (v := 0) hx hb dL_law_1316 (by decide) ?_
    exact absurd ((congrArg Prod.fst (Option.some.inj h)).trans hR) (show ¬ (0 : Int32) = 1 by decide)
def fn_L_law_1288 (xs : Nat → Int32) (Ln : Nat) (k18 : Int32 → St → Option (Int32 × St)) (v3 : Int32) (tv1 : Int32) (tv2 : Int32) (z : St) : Option (Int32 × St) := bd (fn_X11_rimmed  tv1 tv2 z) (fun r2 z3 => gd (ix (v3 + 1) Ln) (gd (ix (v3 + 2) Ln) ((if (xs (Int32.toNatClampNeg (v3 + 2))) = 0 then fn_L_law_1310 xs Ln k18 v3 r2 (xs (Int32.toNatClampNeg (v3 + 1))) 0 z3 else fn_L_law_1310 xs Ln k18 v3 r2 (xs (Int32.toNatClampNeg (v3 + 1))) 1 z3))))
set_option maxHeartbeats 4000000 in
set_option maxRecDepth 100000 in
theorem pf_L_law_1288 {p : Program} {l : Launch} {e : Env} {s : State} {m : MethodId} {below : List Frame} {meth : Method} {c : Code} {G : wG} {b Ln : Nat} {xs : Nat → Int32} (C : CL p s m meth c b Ln xs G) {Rz : Int32 × St} (hR : Rz.1 = 1) {k18 : Int32 → St → Option (Int32 × St)} (hk_18 : ∀ (v3 : Int32) (z : St) (H : Heap) (locs : List Loc) (ls : Array Slot), WP G z H → va_S (fun q : Nat => s.heap.size ≤ q) s.heap H locs → lv_has ls 4 [(0, .ref b), (1, .ref (G.2.2 0)), (2, .ref (G.2.2 172)), (3, .int v3)] → k18 v3 z = some Rz → W p l e room_1 s m #[Value.ref b] below meth c H locs 600000 7302250 (lw_Z below #[Value.ref b] s) (F0 m 18 ls [])) (v3 : Int32) (tv1 : Int32) (tv2 : Int32) (z : St) {H : Heap} {locs : List Loc} {ls : Array Slot} (hP : WP G z H) (hS : va_S (fun q : Nat => s.heap.size ≤ q) s.heap H locs) (hl : lv_has ls 4 [(0, .ref b), (1, .ref (G.2.2 0)), (2, .ref (G.2.2 172)), (3, .int v3)]) (h : fn_L_law_1288 xs Ln k18 v3 tv1 tv2 z = some Rz) : W p l e room_1 s m #[Value.ref b] below meth c H locs 600000 7302250 (lw_Z below #[Value.ref b] s) (F0 m 1288 ls [.int tv2, .int tv1, .ref (G.2.2 0)]) := by
  obtain ⟨⟨hx, hb, hr, hml, hown, hts, hX, hbl, hlocks, -⟩, hG, hK, hAW⟩ := id C
  have hbA : ¬ (fun q : Nat => s.heap.size ≤ q) b := Nat.not_le.mpr hbl
  unfold fn_L_law_1288 at h
  obtain ⟨r2, z3, h1, h⟩ := bd_s h
  refine y_Vi (Rz := (r2, z3)) (As := [.int tv1, .int tv2]) (rest := []) ⟨hx, hb, hml, hown, hts⟩ hK hP hS hAW (kd_lt k_0 (by decide)) (cell_11 k_0) rfl (m_X11_rimmed hG   h1) (cwV 2 hts (gVb (fun _ h => LW_tbl h) lw_1352 lw_1353 lw_1354 lw_109 lw_1355) rfl rfl rfl (by decide +kernel) ⟨Nat.le_of_ble_eq_true rfl, Nat.le_of_ble_eq_true rfl⟩) rfl hl.1 rfl (Nat.le_of_ble_eq_true rfl) dL_law_1288 ⟨Nat.le_refl _, Nat.le_refl _⟩ (fun H locs hP hS => ?_)
  refine lv_aload_n hx hb dL_law_1291 rfl (lv_at hl 2 rfl) ?_
  refine lv_aload_n hx hb dL_law_1292 rfl (lv_at hl 0 rfl) ?_
  refine lv_iload_n hx hb dL_law_1293 rfl (lv_at hl 3 rfl) ?_
  refine lv_iconst (v := 1) hx hb dL_law_1294 (by decide) ?_
  refine lv_iadd hx hb dL_law_1295 ?_
  obtain ⟨g4, h⟩ := gd_s h
  refine va_sld hx hb hX hbl hbA hS (ix_in g4) dL_law_1296 ?_
  refine lv_aload_n hx hb dL_law_1297 rfl (lv_at hl 0 rfl) ?_
  refine lv_iload_n hx hb dL_law_1298 rfl (lv_at hl 3 rfl) ?_
  refine lv_iconst (v := 2) hx hb dL_law_1299 (by decide) ?_
  refine lv_iadd hx hb dL_law_1300 ?_
  obtain ⟨g5, h⟩ := gd_s h
  refine va_sld hx hb hX hbl hbA hS (ix_in g5) dL_law_1301 ?_
  refine lv_if_eq (tgt := 1309) hx hb dL_law_1302 (by decide) (fun c6 => ?_) (fun c6 => ?_)
  · rw [if_pos c6] at h
    refine lv_iconst (v := 0) hx hb dL_law_1309 (by decide) ?_
    exact pf_L_law_1310 C hR hk_18 v3 r2 (xs (Int32.toNatClampNeg (v3 + 1))) 0 z3  hP hS (lv_sub hl [0, 1, 2, 3] rfl) h
  · rw [if_neg c6] at h
    refine lv_iconst (v := 1) hx hb dL_law_1305 (by decide) ?_
    refine lv_goto (tgt := 1310) hx hb dL_law_1306 (by decide) ?_
    exact pf_L_law_1310 C hR hk_18 v3 r2 (xs (Int32.toNatClampNeg (v3 + 1))) 1 z3  hP hS (lv_sub hl [0, 1, 2, 3] rfl) h
def fn_L_law_1261 (xs : Nat → Int32) (Ln : Nat) (k18 : Int32 → St → Option (Int32 × St)) (v3 : Int32) (tv0 : Int32) (tv2 : Int32) (tv3 : Int32) (z : St) : Option (Int32 × St) := bd (fn_X12_sized  tv2 tv3 z) (fun r2 z3 => (if tv0 = r2 then fn_L_law_1522 xs Ln k18 v3 z3 else some (0, z3)))
set_option maxHeartbeats 4000000 in
set_option maxRecDepth 100000 in
theorem pf_L_law_1261 {p : Program} {l : Launch} {e : Env} {s : State} {m : MethodId} {below : List Frame} {meth : Method} {c : Code} {G : wG} {b Ln : Nat} {xs : Nat → Int32} (C : CL p s m meth c b Ln xs G) {Rz : Int32 × St} (hR : Rz.1 = 1) {k18 : Int32 → St → Option (Int32 × St)} (hk_18 : ∀ (v3 : Int32) (z : St) (H : Heap) (locs : List Loc) (ls : Array Slot), WP G z H → va_S (fun q : Nat => s.heap.size ≤ q) s.heap H locs → lv_has ls 4 [(0, .ref b), (1, .ref (G.2.2 0)), (2, .ref (G.2.2 172)), (3, .int v3)] → k18 v3 z = some Rz → W p l e room_1 s m #[Value.ref b] below meth c H locs 600000 7302250 (lw_Z below #[Value.ref b] s) (F0 m 18 ls [])) (v3 : Int32) (tv0 : Int32) (tv2 : Int32) (tv3 : Int32) (z : St) {H : Heap} {locs : List Loc} {ls : Array Slot} (hP : WP G z H) (hS : va_S (fun q : Nat => s.heap.size ≤ q) s.heap H locs) (hl : lv_has ls 4 [(0, .ref b), (1, .ref (G.2.2 0)), (2, .ref (G.2.2 172)), (3, .int v3)]) (h : fn_L_law_1261 xs Ln k18 v3 tv0 tv2 tv3 z = some Rz) : W p l e room_1 s m #[Value.ref b] below meth c H locs 600000 7302250 (lw_Z below #[Value.ref b] s) (F0 m 1261 ls [.int tv3, .int tv2, .ref (G.2.2 172), .int tv0]) := by
  obtain ⟨⟨hx, hb, hr, hml, hown, hts, hX, hbl, hlocks, -⟩, hG, hK, hAW⟩ := id C
  have hbA : ¬ (fun q : Nat => s.heap.size ≤ q) b := Nat.not_le.mpr hbl
  unfold fn_L_law_1261 at h
  obtain ⟨r2, z3, h1, h⟩ := bd_s h
  refine y_Vi (Rz := (r2, z3)) (As := [.int tv2, .int tv3]) (rest := [.int tv0]) ⟨hx, hb, hml, hown, hts⟩ hK hP hS hAW (kd_lt k_172 (by decide)) (cell_12 k_172) rfl (m_X12_sized hG   h1) (cwV 2 hts (gVb (fun _ h => LW_tbl h) lw_2084 lw_2085 lw_2086 lw_125 lw_2087) rfl rfl rfl (by decide +kernel) ⟨Nat.le_of_ble_eq_true rfl, Nat.le_of_ble_eq_true rfl⟩) rfl hl.1 rfl (Nat.le_of_ble_eq_true rfl) dL_law_1261 ⟨Nat.le_refl _, Nat.le_refl _⟩ (fun H locs hP hS => ?_)
  refine lv_icmp_eq (tgt := 1522) hx hb dL_law_1264 (by decide) (fun c4 => ?_) (fun c4 => ?_)
  · rw [if_pos c4] at h
    exact pf_L_law_1522 C hR hk_18 v3 z3  hP hS (lv_sub hl [0, 1, 2, 3] rfl) h
  · rw [if_neg c4] at h
    refine lv_iconst (v := 0) hx hb dL_law_1267 (by decide) ?_
    exact absurd ((congrArg Prod.fst (Option.some.inj h)).trans hR) (show ¬ (0 : Int32) = 1 by decide)
def fn_L_law_1239 (xs : Nat → Int32) (Ln : Nat) (k18 : Int32 → St → Option (Int32 × St)) (v3 : Int32) (tv1 : Int32) (tv2 : Int32) (z : St) : Option (Int32 × St) := bd (fn_X11_sized  tv1 tv2 z) (fun r2 z3 => gd (ix (v3 + 1) Ln) (gd (ix (v3 + 2) Ln) ((if (xs (Int32.toNatClampNeg (v3 + 2))) = 0 then fn_L_law_1261 xs Ln k18 v3 r2 (xs (Int32.toNatClampNeg (v3 + 1))) 0 z3 else fn_L_law_1261 xs Ln k18 v3 r2 (xs (Int32.toNatClampNeg (v3 + 1))) 1 z3))))
set_option maxHeartbeats 4000000 in
set_option maxRecDepth 100000 in
theorem pf_L_law_1239 {p : Program} {l : Launch} {e : Env} {s : State} {m : MethodId} {below : List Frame} {meth : Method} {c : Code} {G : wG} {b Ln : Nat} {xs : Nat → Int32} (C : CL p s m meth c b Ln xs G) {Rz : Int32 × St} (hR : Rz.1 = 1) {k18 : Int32 → St → Option (Int32 × St)} (hk_18 : ∀ (v3 : Int32) (z : St) (H : Heap) (locs : List Loc) (ls : Array Slot), WP G z H → va_S (fun q : Nat => s.heap.size ≤ q) s.heap H locs → lv_has ls 4 [(0, .ref b), (1, .ref (G.2.2 0)), (2, .ref (G.2.2 172)), (3, .int v3)] → k18 v3 z = some Rz → W p l e room_1 s m #[Value.ref b] below meth c H locs 600000 7302250 (lw_Z below #[Value.ref b] s) (F0 m 18 ls [])) (v3 : Int32) (tv1 : Int32) (tv2 : Int32) (z : St) {H : Heap} {locs : List Loc} {ls : Array Slot} (hP : WP G z H) (hS : va_S (fun q : Nat => s.heap.size ≤ q) s.heap H locs) (hl : lv_has ls 4 [(0, .ref b), (1, .ref (G.2.2 0)), (2, .ref (G.2.2 172)), (3, .int v3)]) (h : fn_L_law_1239 xs Ln k18 v3 tv1 tv2 z = some Rz) : W p l e room_1 s m #[Value.ref b] below meth c H locs 600000 7302250 (lw_Z below #[Value.ref b] s) (F0 m 1239 ls [.int tv2, .int tv1, .ref (G.2.2 0)]) := by
  obtain ⟨⟨hx, hb, hr, hml, hown, hts, hX, hbl, hlocks, -⟩, hG, hK, hAW⟩ := id C
  have hbA : ¬ (fun q : Nat => s.heap.size ≤ q) b := Nat.not_le.mpr hbl
  unfold fn_L_law_1239 at h
  obtain ⟨r2, z3, h1, h⟩ := bd_s h
  refine y_Vi (Rz := (r2, z3)) (As := [.int tv1, .int tv2]) (rest := []) ⟨hx, hb, hml, hown, hts⟩ hK hP hS hAW (kd_lt k_0 (by decide)) (cell_11 k_0) rfl (m_X11_sized hG   h1) (cwV 2 hts (gVb (fun _ h => LW_tbl h) lw_1344 lw_1345 lw_1346 lw_109 lw_1347) rfl rfl rfl (by decide +kernel) ⟨Nat.le_of_ble_eq_true rfl, Nat.le_of_ble_eq_true rfl⟩) rfl hl.1 rfl (Nat.le_of_ble_eq_true rfl) dL_law_1239 ⟨Nat.le_refl _, Nat.le_refl _⟩ (fun H locs hP hS => ?_)
  refine lv_aload_n hx hb dL_law_1242 rfl (lv_at hl 2 rfl) ?_
  refine lv_aload_n hx hb dL_law_1243 rfl (lv_at hl 0 rfl) ?_
  refine lv_iload_n hx hb dL_law_1244 rfl (lv_at hl 3 rfl) ?_
  refine lv_iconst (v := 1) hx hb dL_law_1245 (by decide) ?_
  refine lv_iadd hx hb dL_law_1246 ?_
  obtain ⟨g4, h⟩ := gd_s h
  refine va_sld hx hb hX hbl hbA hS (ix_in g4) dL_law_1247 ?_
  refine lv_aload_n hx hb dL_law_1248 rfl (lv_at hl 0 rfl) ?_
  refine lv_iload_n hx hb dL_law_1249 rfl (lv_at hl 3 rfl) ?_
  refine lv_iconst (v := 2) hx hb dL_law_1250 (by decide) ?_
  refine lv_iadd hx hb dL_law_1251 ?_
  obtain ⟨g5, h⟩ := gd_s h
  refine va_sld hx hb hX hbl hbA hS (ix_in g5) dL_law_1252 ?_
  refine lv_if_eq (tgt := 1260) hx hb dL_law_1253 (by decide) (fun c6 => ?_) (fun c6 => ?_)
  · rw [if_pos c6] at h
    refine lv_iconst (v := 0) hx hb dL_law_1260 (by decide) ?_
    exact pf_L_law_1261 C hR hk_18 v3 r2 (xs (Int32.toNatClampNeg (v3 + 1))) 0 z3  hP hS (lv_sub hl [0, 1, 2, 3] rfl) h
  · rw [if_neg c6] at h
    refine lv_iconst (v := 1) hx hb dL_law_1256 (by decide) ?_
    refine lv_goto (tgt := 1261) hx hb dL_law_1257 (by decide) ?_
    exact pf_L_law_1261 C hR hk_18 v3 r2 (xs (Int32.toNatClampNeg (v3 + 1))) 1 z3  hP hS (lv_sub hl [0, 1, 2, 3] rfl) h
def fn_L_law_18 (xs : Nat → Int32) (Ln : Nat) : Nat → Int32 → St → Option (Int32 × St)
  | 0, _, _ => none
  | n + 1, v3, z => (if ((Int32.ofNat Ln) - 6) < v3 then some (1, z) else gd (ix v3 Ln) ((if ((xs (Int32.toNatClampNeg v3)) &&& 63) = 0 then gd (ix (v3 + 1) Ln) (gd (ix (v3 + 2) Ln) (gd (ix (v3 + 3) Ln) (gd (ix (v3 + 4) Ln) (gd (ix (v3 + 5) Ln) (bd (fn_X11_feed  (xs (Int32.toNatClampNeg (v3 + 1))) (xs (Int32.toNatClampNeg (v3 + 2))) (xs (Int32.toNatClampNeg (v3 + 3))) (xs (Int32.toNatClampNeg (v3 + 4))) (xs (Int32.toNatClampNeg (v3 + 5))) z) (fun r10 z11 => gd (ix (v3 + 1) Ln) (gd (ix (v3 + 2) Ln) (gd (ix (v3 + 3) Ln) (gd (ix (v3 + 4) Ln) (gd (ix (v3 + 5) Ln) (bd (fn_X12_feed  (xs (Int32.toNatClampNeg (v3 + 1))) (xs (Int32.toNatClampNeg (v3 + 2))) (xs (Int32.toNatClampNeg (v3 + 3))) (xs (Int32.toNatClampNeg (v3 + 4))) (xs (Int32.toNatClampNeg (v3 + 5))) z11) (fun r18 z19 => (if r10 = r18 then fn_L_law_1522 xs Ln (fn_L_law_18 xs Ln  n) v3 z19 else some (0, z19)))))))))))))) else (if ((xs (Int32.toNatClampNeg v3)) &&& 63) = 1 then gd (ix (v3 + 1) Ln) (bd (fn_X11_end  (xs (Int32.toNatClampNeg (v3 + 1))) z) (fun r24 z25 => gd (ix (v3 + 1) Ln) (bd (fn_X12_end  (xs (Int32.toNatClampNeg (v3 + 1))) z25) (fun r28 z29 => (if r24 = r28 then fn_L_law_1522 xs Ln (fn_L_law_18 xs Ln  n) v3 z29 else some (0, z29)))))) else (if ((xs (Int32.toNatClampNeg v3)) &&& 63) = 2 then bd (fn_X11_cake   z) (fun r33 z34 => bd (fn_X12_cake   z34) (fun r36 z37 => (if r33 = r36 then fn_L_law_1522 xs Ln (fn_L_law_18 xs Ln  n) v3 z37 else some (0, z37)))) else (if ((xs (Int32.toNatClampNeg v3)) &&& 63) = 3 then gd (ix (v3 + 1) Ln) (bd (fn_X11_fault  (xs (Int32.toNatClampNeg (v3 + 1))) z) (fun r42 z43 => gd (ix (v3 + 1) Ln) (bd (fn_X12_fault  (xs (Int32.toNatClampNeg (v3 + 1))) z43) (fun r46 z47 => (if r42 = r46 then fn_L_law_1522 xs Ln (fn_L_law_18 xs Ln  n) v3 z47 else some (0, z47)))))) else (if ((xs (Int32.toNatClampNeg v3)) &&& 63) = 4 then gd (ix (v3 + 1) Ln) (gd (ix (v3 + 2) Ln) (bd (fn_X11_piece  (xs (Int32.toNatClampNeg (v3 + 1))) (xs (Int32.toNatClampNeg (v3 + 2))) z) (fun r53 z54 => gd (ix (v3 + 1) Ln) (gd (ix (v3 + 2) Ln) (bd (fn_X12_piece  (xs (Int32.toNatClampNeg (v3 + 1))) (xs (Int32.toNatClampNeg (v3 + 2))) z54) (fun r58 z59 => (if r53 = r58 then fn_L_law_1522 xs Ln (fn_L_law_18 xs Ln  n) v3 z59 else some (0, z59)))))))) else (if ((xs (Int32.toNatClampNeg v3)) &&& 63) = 5 then gd (ix (v3 + 1) Ln) (gd (ix (v3 + 2) Ln) (bd (fn_X11_guest  (xs (Int32.toNatClampNeg (v3 + 1))) (xs (Int32.toNatClampNeg (v3 + 2))) z) (fun r65 z66 => gd (ix (v3 + 1) Ln) (gd (ix (v3 + 2) Ln) (bd (fn_X12_guest  (xs (Int32.toNatClampNeg (v3 + 1))) (xs (Int32.toNatClampNeg (v3 + 2))) z66) (fun r70 z71 => (if r65 = r70 then fn_L_law_1522 xs Ln (fn_L_law_18 xs Ln  n) v3 z71 else some (0, z71)))))))) else (if ((xs (Int32.toNatClampNeg v3)) &&& 63) = 6 then gd (ix (v3 + 1) Ln) (gd (ix (v3 + 2) Ln) (bd (fn_X11_worth  (xs (Int32.toNatClampNeg (v3 + 1))) (xs (Int32.toNatClampNeg (v3 + 2))) z) (fun r77 z78 => gd (ix (v3 + 1) Ln) (gd (ix (v3 + 2) Ln) (bd (fn_X12_worth  (xs (Int32.toNatClampNeg (v3 + 1))) (xs (Int32.toNatClampNeg (v3 + 2))) z78) (fun r82 z83 => (if r77 = r82 then fn_L_law_1522 xs Ln (fn_L_law_18 xs Ln  n) v3 z83 else some (0, z83)))))))) else (if ((xs (Int32.toNatClampNeg v3)) &&& 63) = 7 then gd (ix (v3 + 1) Ln) (gd (ix (v3 + 2) Ln) (gd (ix (v3 + 3) Ln) (bd (fn_X11_slip  (xs (Int32.toNatClampNeg (v3 + 1))) (xs (Int32.toNatClampNeg (v3 + 2))) (xs (Int32.toNatClampNeg (v3 + 3))) z) (fun r90 z91 => gd (ix (v3 + 1) Ln) (gd (ix (v3 + 2) Ln) (gd (ix (v3 + 3) Ln) (bd (fn_X12_slip  (xs (Int32.toNatClampNeg (v3 + 1))) (xs (Int32.toNatClampNeg (v3 + 2))) (xs (Int32.toNatClampNeg (v3 + 3))) z91) (fun r96 z97 => (if r90 = r96 then fn_L_law_1522 xs Ln (fn_L_law_18 xs Ln  n) v3 z97 else some (0, z97)))))))))) else (if ((xs (Int32.toNatClampNeg v3)) &&& 63) = 8 then gd (ix (v3 + 1) Ln) (gd (ix (v3 + 2) Ln) (gd (ix (v3 + 3) Ln) (bd (fn_X11_cut  (xs (Int32.toNatClampNeg (v3 + 1))) (xs (Int32.toNatClampNeg (v3 + 2))) (xs (Int32.toNatClampNeg (v3 + 3))) z) (fun r104 z105 => gd (ix (v3 + 1) Ln) (gd (ix (v3 + 2) Ln) (gd (ix (v3 + 3) Ln) (bd (fn_X12_cut  (xs (Int32.toNatClampNeg (v3 + 1))) (xs (Int32.toNatClampNeg (v3 + 2))) (xs (Int32.toNatClampNeg (v3 + 3))) z105) (fun r110 z111 => (if r104 = r110 then fn_L_law_1522 xs Ln (fn_L_law_18 xs Ln  n) v3 z111 else some (0, z111)))))))))) else (if ((xs (Int32.toNatClampNeg v3)) &&& 63) = 9 then gd (ix (v3 + 1) Ln) (gd (ix (v3 + 2) Ln) (bd (fn_X11_give  (xs (Int32.toNatClampNeg (v3 + 1))) (xs (Int32.toNatClampNeg (v3 + 2))) z) (fun r117 z118 => gd (ix (v3 + 1) Ln) (gd (ix (v3 + 2) Ln) (bd (fn_X12_give  (xs (Int32.toNatClampNeg (v3 + 1))) (xs (Int32.toNatClampNeg (v3 + 2))) z118) (fun r122 z123 => (if r117 = r122 then fn_L_law_1522 xs Ln (fn_L_law_18 xs Ln  n) v3 z123 else some (0, z123)))))))) else (if ((xs (Int32.toNatClampNeg v3)) &&& 63) = 10 then gd (ix (v3 + 1) Ln) (bd (fn_X11_back  (xs (Int32.toNatClampNeg (v3 + 1))) z) (fun r128 z129 => gd (ix (v3 + 1) Ln) (bd (fn_X12_back  (xs (Int32.toNatClampNeg (v3 + 1))) z129) (fun r132 z133 => (if r128 = r132 then fn_L_law_1522 xs Ln (fn_L_law_18 xs Ln  n) v3 z133 else some (0, z133)))))) else (if ((xs (Int32.toNatClampNeg v3)) &&& 63) = 11 then gd (ix (v3 + 1) Ln) (gd (ix (v3 + 2) Ln) (bd (fn_X11_exchange  (xs (Int32.toNatClampNeg (v3 + 1))) (xs (Int32.toNatClampNeg (v3 + 2))) z) (fun r139 z140 => gd (ix (v3 + 1) Ln) (gd (ix (v3 + 2) Ln) (bd (fn_X12_exchange  (xs (Int32.toNatClampNeg (v3 + 1))) (xs (Int32.toNatClampNeg (v3 + 2))) z140) (fun r144 z145 => (if r139 = r144 then fn_L_law_1522 xs Ln (fn_L_law_18 xs Ln  n) v3 z145 else some (0, z145)))))))) else (if ((xs (Int32.toNatClampNeg v3)) &&& 63) = 12 then bd (fn_X11_undo   z) (fun r149 z150 => bd (fn_X12_undo   z150) (fun r152 z153 => (if r149 = r152 then fn_L_law_1522 xs Ln (fn_L_law_18 xs Ln  n) v3 z153 else some (0, z153)))) else (if ((xs (Int32.toNatClampNeg v3)) &&& 63) = 13 then bd (fn_X11_redo   z) (fun r157 z158 => bd (fn_X12_redo   z158) (fun r160 z161 => (if r157 = r160 then fn_L_law_1522 xs Ln (fn_L_law_18 xs Ln  n) v3 z161 else some (0, z161)))) else (if ((xs (Int32.toNatClampNeg v3)) &&& 63) = 14 then gd (ix (v3 + 1) Ln) (bd (fn_X11_feeds  (xs (Int32.toNatClampNeg (v3 + 1))) z) (fun r166 z167 => gd (ix (v3 + 1) Ln) (bd (fn_X12_feeds  (xs (Int32.toNatClampNeg (v3 + 1))) z167) (fun r170 z171 => (if r166 = r170 then fn_L_law_1522 xs Ln (fn_L_law_18 xs Ln  n) v3 z171 else some (0, z171)))))) else (if ((xs (Int32.toNatClampNeg v3)) &&& 63) = 15 then bd (fn_X11_served   z) (fun r175 z176 => bd (fn_X12_served   z176) (fun r178 z179 => (if r175 = r178 then fn_L_law_1522 xs Ln (fn_L_law_18 xs Ln  n) v3 z179 else some (0, z179)))) else (if ((xs (Int32.toNatClampNeg v3)) &&& 63) = 16 then gd (ix (v3 + 1) Ln) (bd (fn_X11_next  (xs (Int32.toNatClampNeg (v3 + 1))) z) (fun r184 z185 => gd (ix (v3 + 1) Ln) (bd (fn_X12_next  (xs (Int32.toNatClampNeg (v3 + 1))) z185) (fun r188 z189 => (if r184 = r188 then fn_L_law_1522 xs Ln (fn_L_law_18 xs Ln  n) v3 z189 else some (0, z189)))))) else (if ((xs (Int32.toNatClampNeg v3)) &&& 63) = 17 then gd (ix (v3 + 1) Ln) (bd (fn_X11_envies  (xs (Int32.toNatClampNeg (v3 + 1))) z) (fun r194 z195 => gd (ix (v3 + 1) Ln) (bd (fn_X12_envies  (xs (Int32.toNatClampNeg (v3 + 1))) z195) (fun r198 z199 => (if r194 = r198 then fn_L_law_1522 xs Ln (fn_L_law_18 xs Ln  n) v3 z199 else some (0, z199)))))) else (if ((xs (Int32.toNatClampNeg v3)) &&& 63) = 18 then bd (fn_X11_quarrel   z) (fun r203 z204 => bd (fn_X12_quarrel   z204) (fun r206 z207 => (if r203 = r206 then fn_L_law_1522 xs Ln (fn_L_law_18 xs Ln  n) v3 z207 else some (0, z207)))) else (if ((xs (Int32.toNatClampNeg v3)) &&& 63) = 19 then gd (ix (v3 + 1) Ln) (bd (fn_X11_calm  (xs (Int32.toNatClampNeg (v3 + 1))) z) (fun r212 z213 => gd (ix (v3 + 1) Ln) (bd (fn_X12_calm  (xs (Int32.toNatClampNeg (v3 + 1))) z213) (fun r216 z217 => (if r212 = r216 then fn_L_law_1522 xs Ln (fn_L_law_18 xs Ln  n) v3 z217 else some (0, z217)))))) else (if ((xs (Int32.toNatClampNeg v3)) &&& 63) = 20 then gd (ix (v3 + 1) Ln) (gd (ix (v3 + 2) Ln) (gd (ix (v3 + 3) Ln) (gd (ix (v3 + 4) Ln) (bd (fn_X11_halve  (xs (Int32.toNatClampNeg (v3 + 1))) (xs (Int32.toNatClampNeg (v3 + 2))) (xs (Int32.toNatClampNeg (v3 + 3))) (xs (Int32.toNatClampNeg (v3 + 4))) z) (fun r225 z226 => gd (ix (v3 + 1) Ln) (gd (ix (v3 + 2) Ln) (gd (ix (v3 + 3) Ln) (gd (ix (v3 + 4) Ln) (bd (fn_X12_halve  (xs (Int32.toNatClampNeg (v3 + 1))) (xs (Int32.toNatClampNeg (v3 + 2))) (xs (Int32.toNatClampNeg (v3 + 3))) (xs (Int32.toNatClampNeg (v3 + 4))) z226) (fun r232 z233 => (if r225 = r232 then fn_L_law_1522 xs Ln (fn_L_law_18 xs Ln  n) v3 z233 else some (0, z233)))))))))))) else (if ((xs (Int32.toNatClampNeg v3)) &&& 63) = 21 then gd (ix (v3 + 1) Ln) (gd (ix (v3 + 2) Ln) (gd (ix (v3 + 3) Ln) (bd (fn_X11_share  (xs (Int32.toNatClampNeg (v3 + 1))) (xs (Int32.toNatClampNeg (v3 + 2))) (xs (Int32.toNatClampNeg (v3 + 3))) z) (fun r240 z241 => gd (ix (v3 + 1) Ln) (gd (ix (v3 + 2) Ln) (gd (ix (v3 + 3) Ln) (bd (fn_X12_share  (xs (Int32.toNatClampNeg (v3 + 1))) (xs (Int32.toNatClampNeg (v3 + 2))) (xs (Int32.toNatClampNeg (v3 + 3))) z241) (fun r246 z247 => (if r240 = r246 then fn_L_law_1522 xs Ln (fn_L_law_18 xs Ln  n) v3 z247 else some (0, z247)))))))))) else (if ((xs (Int32.toNatClampNeg v3)) &&& 63) = 22 then bd (fn_X11_picks   z) (fun r251 z252 => bd (fn_X12_picks   z252) (fun r254 z255 => (if r251 = r254 then fn_L_law_1522 xs Ln (fn_L_law_18 xs Ln  n) v3 z255 else some (0, z255)))) else (if ((xs (Int32.toNatClampNeg v3)) &&& 63) = 23 then bd (fn_X11_order   z) (fun r259 z260 => bd (fn_X12_order   z260) (fun r262 z263 => (if r259 = r262 then fn_L_law_1522 xs Ln (fn_L_law_18 xs Ln  n) v3 z263 else some (0, z263)))) else (if ((xs (Int32.toNatClampNeg v3)) &&& 63) = 24 then gd (ix (v3 + 1) Ln) (gd (ix (v3 + 2) Ln) (gd (ix (v3 + 3) Ln) (bd (fn_X11_grid  (xs (Int32.toNatClampNeg (v3 + 1))) (xs (Int32.toNatClampNeg (v3 + 2))) (xs (Int32.toNatClampNeg (v3 + 3))) z) (fun r270 z271 => gd (ix (v3 + 1) Ln) (gd (ix (v3 + 2) Ln) (gd (ix (v3 + 3) Ln) (bd (fn_X12_grid  (xs (Int32.toNatClampNeg (v3 + 1))) (xs (Int32.toNatClampNeg (v3 + 2))) (xs (Int32.toNatClampNeg (v3 + 3))) z271) (fun r276 z277 => (if r270 = r276 then fn_L_law_1522 xs Ln (fn_L_law_18 xs Ln  n) v3 z277 else some (0, z277)))))))))) else (if ((xs (Int32.toNatClampNeg v3)) &&& 63) = 25 then gd (ix (v3 + 1) Ln) (gd (ix (v3 + 2) Ln) (bd (fn_X11_ways  (xs (Int32.toNatClampNeg (v3 + 1))) (xs (Int32.toNatClampNeg (v3 + 2))) z) (fun r283 z284 => gd (ix (v3 + 1) Ln) (gd (ix (v3 + 2) Ln) (bd (fn_X12_ways  (xs (Int32.toNatClampNeg (v3 + 1))) (xs (Int32.toNatClampNeg (v3 + 2))) z284) (fun r288 z289 => (if r283 = r288 then fn_L_law_1522 xs Ln (fn_L_law_18 xs Ln  n) v3 z289 else some (0, z289)))))))) else (if ((xs (Int32.toNatClampNeg v3)) &&& 63) = 26 then gd (ix (v3 + 1) Ln) (gd (ix (v3 + 2) Ln) (bd (fn_X11_most  (xs (Int32.toNatClampNeg (v3 + 1))) (xs (Int32.toNatClampNeg (v3 + 2))) z) (fun r295 z296 => gd (ix (v3 + 1) Ln) (gd (ix (v3 + 2) Ln) (bd (fn_X12_most  (xs (Int32.toNatClampNeg (v3 + 1))) (xs (Int32.toNatClampNeg (v3 + 2))) z296) (fun r300 z301 => (if r295 = r300 then fn_L_law_1522 xs Ln (fn_L_law_18 xs Ln  n) v3 z301 else some (0, z301)))))))) else (if ((xs (Int32.toNatClampNeg v3)) &&& 63) = 27 then gd (ix (v3 + 1) Ln) (bd (fn_X11_room  (xs (Int32.toNatClampNeg (v3 + 1))) z) (fun r306 z307 => gd (ix (v3 + 1) Ln) (bd (fn_X12_room  (xs (Int32.toNatClampNeg (v3 + 1))) z307) (fun r310 z311 => (if r306 = r310 then fn_L_law_1522 xs Ln (fn_L_law_18 xs Ln  n) v3 z311 else some (0, z311)))))) else (if ((xs (Int32.toNatClampNeg v3)) &&& 63) = 28 then gd (ix (v3 + 1) Ln) (bd (fn_X11_best  (xs (Int32.toNatClampNeg (v3 + 1))) z) (fun r316 z317 => gd (ix (v3 + 1) Ln) (bd (fn_X12_best  (xs (Int32.toNatClampNeg (v3 + 1))) z317) (fun r320 z321 => (if r316 = r320 then fn_L_law_1522 xs Ln (fn_L_law_18 xs Ln  n) v3 z321 else some (0, z321)))))) else (if ((xs (Int32.toNatClampNeg v3)) &&& 63) = 29 then gd (ix (v3 + 1) Ln) (gd (ix (v3 + 2) Ln) (gd (ix (v3 + 3) Ln) (bd (fn_X11_where  (xs (Int32.toNatClampNeg (v3 + 1))) (xs (Int32.toNatClampNeg (v3 + 2))) (xs (Int32.toNatClampNeg (v3 + 3))) z) (fun r328 z329 => gd (ix (v3 + 1) Ln) (gd (ix (v3 + 2) Ln) (gd (ix (v3 + 3) Ln) (bd (fn_X12_where  (xs (Int32.toNatClampNeg (v3 + 1))) (xs (Int32.toNatClampNeg (v3 + 2))) (xs (Int32.toNatClampNeg (v3 + 3))) z329) (fun r334 z335 => (if r328 = r334 then fn_L_law_1522 xs Ln (fn_L_law_18 xs Ln  n) v3 z335 else some (0, z335)))))))))) else (if ((xs (Int32.toNatClampNeg v3)) &&& 63) = 30 then bd (fn_X11_hungry   z) (fun r339 z340 => bd (fn_X12_hungry   z340) (fun r342 z343 => (if r339 = r342 then fn_L_law_1522 xs Ln (fn_L_law_18 xs Ln  n) v3 z343 else some (0, z343)))) else (if ((xs (Int32.toNatClampNeg v3)) &&& 63) = 31 then gd (ix (v3 + 1) Ln) (bd (fn_X11_law  (xs (Int32.toNatClampNeg (v3 + 1))) z) (fun r348 z349 => gd (ix (v3 + 1) Ln) (bd (fn_X12_law  (xs (Int32.toNatClampNeg (v3 + 1))) z349) (fun r352 z353 => (if r348 = r352 then fn_L_law_1522 xs Ln (fn_L_law_18 xs Ln  n) v3 z353 else some (0, z353)))))) else (if ((xs (Int32.toNatClampNeg v3)) &&& 63) = 32 then bd (fn_X11_left   z) (fun r357 z358 => bd (fn_X12_left   z358) (fun r360 z361 => (if r357 = r360 then fn_L_law_1522 xs Ln (fn_L_law_18 xs Ln  n) v3 z361 else some (0, z361)))) else (if ((xs (Int32.toNatClampNeg v3)) &&& 63) = 33 then gd (ix (v3 + 1) Ln) (bd (fn_X11_iced  (xs (Int32.toNatClampNeg (v3 + 1))) z) (fun r366 z367 => gd (ix (v3 + 1) Ln) (bd (fn_X12_iced  (xs (Int32.toNatClampNeg (v3 + 1))) z367) (fun r370 z371 => (if r366 = r370 then fn_L_law_1522 xs Ln (fn_L_law_18 xs Ln  n) v3 z371 else some (0, z371)))))) else (if ((xs (Int32.toNatClampNeg v3)) &&& 63) = 34 then gd (ix (v3 + 1) Ln) (gd (ix (v3 + 2) Ln) (bd (fn_X11_come  (xs (Int32.toNatClampNeg (v3 + 1))) (xs (Int32.toNatClampNeg (v3 + 2))) z) (fun r377 z378 => gd (ix (v3 + 1) Ln) (gd (ix (v3 + 2) Ln) (bd (fn_X12_come  (xs (Int32.toNatClampNeg (v3 + 1))) (xs (Int32.toNatClampNeg (v3 + 2))) z378) (fun r382 z383 => (if r377 = r382 then fn_L_law_1522 xs Ln (fn_L_law_18 xs Ln  n) v3 z383 else some (0, z383)))))))) else (if ((xs (Int32.toNatClampNeg v3)) &&& 63) = 35 then gd (ix (v3 + 1) Ln) (bd (fn_X11_lies  (xs (Int32.toNatClampNeg (v3 + 1))) z) (fun r388 z389 => gd (ix (v3 + 1) Ln) (bd (fn_X12_lies  (xs (Int32.toNatClampNeg (v3 + 1))) z389) (fun r392 z393 => (if r388 = r392 then fn_L_law_1522 xs Ln (fn_L_law_18 xs Ln  n) v3 z393 else some (0, z393)))))) else (if ((xs (Int32.toNatClampNeg v3)) &&& 63) = 36 then gd (ix (v3 + 1) Ln) (gd (ix (v3 + 2) Ln) ((if (xs (Int32.toNatClampNeg (v3 + 2))) = 0 then fn_L_law_1239 xs Ln (fn_L_law_18 xs Ln  n) v3 (xs (Int32.toNatClampNeg (v3 + 1))) 0 z else fn_L_law_1239 xs Ln (fn_L_law_18 xs Ln  n) v3 (xs (Int32.toNatClampNeg (v3 + 1))) 1 z))) else (if ((xs (Int32.toNatClampNeg v3)) &&& 63) = 37 then gd (ix (v3 + 1) Ln) (gd (ix (v3 + 2) Ln) ((if (xs (Int32.toNatClampNeg (v3 + 2))) = 0 then fn_L_law_1288 xs Ln (fn_L_law_18 xs Ln  n) v3 (xs (Int32.toNatClampNeg (v3 + 1))) 0 z else fn_L_law_1288 xs Ln (fn_L_law_18 xs Ln  n) v3 (xs (Int32.toNatClampNeg (v3 + 1))) 1 z))) else (if ((xs (Int32.toNatClampNeg v3)) &&& 63) = 38 then gd (ix (v3 + 1) Ln) (bd (fn_X11_untell  (xs (Int32.toNatClampNeg (v3 + 1))) z) (fun r406 z407 => gd (ix (v3 + 1) Ln) (bd (fn_X12_untell  (xs (Int32.toNatClampNeg (v3 + 1))) z407) (fun r410 z411 => (if r406 = r410 then fn_L_law_1522 xs Ln (fn_L_law_18 xs Ln  n) v3 z411 else some (0, z411)))))) else (if ((xs (Int32.toNatClampNeg v3)) &&& 63) = 39 then gd (ix (v3 + 1) Ln) (bd (fn_X11_later  (xs (Int32.toNatClampNeg (v3 + 1))) z) (fun r416 z417 => gd (ix (v3 + 1) Ln) (bd (fn_X12_later  (xs (Int32.toNatClampNeg (v3 + 1))) z417) (fun r420 z421 => (if r416 = r420 then fn_L_law_1522 xs Ln (fn_L_law_18 xs Ln  n) v3 z421 else some (0, z421)))))) else (if ((xs (Int32.toNatClampNeg v3)) &&& 63) = 40 then gd (ix (v3 + 1) Ln) (bd (fn_X11_fits  (xs (Int32.toNatClampNeg (v3 + 1))) z) (fun r426 z427 => gd (ix (v3 + 1) Ln) (bd (fn_X12_fits  (xs (Int32.toNatClampNeg (v3 + 1))) z427) (fun r430 z431 => (if r426 = r430 then fn_L_law_1522 xs Ln (fn_L_law_18 xs Ln  n) v3 z431 else some (0, z431)))))) else (if ((xs (Int32.toNatClampNeg v3)) &&& 63) = 41 then gd (ix (v3 + 1) Ln) (gd (ix (v3 + 2) Ln) (bd (fn_X11_sure  (xs (Int32.toNatClampNeg (v3 + 1))) (xs (Int32.toNatClampNeg (v3 + 2))) z) (fun r437 z438 => gd (ix (v3 + 1) Ln) (gd (ix (v3 + 2) Ln) (bd (fn_X12_sure  (xs (Int32.toNatClampNeg (v3 + 1))) (xs (Int32.toNatClampNeg (v3 + 2))) z438) (fun r442 z443 => (if r437 = r442 then fn_L_law_1522 xs Ln (fn_L_law_18 xs Ln  n) v3 z443 else some (0, z443)))))))) else (if ((xs (Int32.toNatClampNeg v3)) &&& 63) = 42 then gd (ix (v3 + 1) Ln) (gd (ix (v3 + 2) Ln) (bd (fn_X11_ask  (xs (Int32.toNatClampNeg (v3 + 1))) (xs (Int32.toNatClampNeg (v3 + 2))) z) (fun r449 z450 => gd (ix (v3 + 1) Ln) (gd (ix (v3 + 2) Ln) (bd (fn_X12_ask  (xs (Int32.toNatClampNeg (v3 + 1))) (xs (Int32.toNatClampNeg (v3 + 2))) z450) (fun r454 z455 => (if r449 = r454 then fn_L_law_1522 xs Ln (fn_L_law_18 xs Ln  n) v3 z455 else some (0, z455)))))))) else (if ((xs (Int32.toNatClampNeg v3)) &&& 63) = 43 then gd (ix (v3 + 1) Ln) (bd (fn_X11_image  (xs (Int32.toNatClampNeg (v3 + 1))) z) (fun r460 z461 => gd (ix (v3 + 1) Ln) (bd (fn_X12_image  (xs (Int32.toNatClampNeg (v3 + 1))) z461) (fun r464 z465 => (if r460 = r464 then fn_L_law_1522 xs Ln (fn_L_law_18 xs Ln  n) v3 z465 else some (0, z465)))))) else (if ((xs (Int32.toNatClampNeg v3)) &&& 63) = 44 then gd (ix (v3 + 1) Ln) (bd (fn_X11_restore  (xs (Int32.toNatClampNeg (v3 + 1))) z) (fun r470 z471 => gd (ix (v3 + 1) Ln) (bd (fn_X12_restore  (xs (Int32.toNatClampNeg (v3 + 1))) z471) (fun r474 z475 => (if r470 = r474 then fn_L_law_1522 xs Ln (fn_L_law_18 xs Ln  n) v3 z475 else some (0, z475)))))) else (if ((xs (Int32.toNatClampNeg v3)) &&& 63) = 45 then gd (ix (v3 + 1) Ln) (bd (fn_X11_about  (xs (Int32.toNatClampNeg (v3 + 1))) z) (fun r480 z481 => gd (ix (v3 + 1) Ln) (bd (fn_X12_about  (xs (Int32.toNatClampNeg (v3 + 1))) z481) (fun r484 z485 => (if r480 = r484 then fn_L_law_1522 xs Ln (fn_L_law_18 xs Ln  n) v3 z485 else some (0, z485)))))) else (fn_L_law_1522 xs Ln (fn_L_law_18 xs Ln  n) v3 z)))))))))))))))))))))))))))))))))))))))))))))))))
set_option maxHeartbeats 16000000 in
set_option maxRecDepth 100000 in
theorem pf_L_law_18 {p : Program} {l : Launch} {e : Env} {s : State} {m : MethodId} {below : List Frame} {meth : Method} {c : Code} {G : wG} {b Ln : Nat} {xs : Nat → Int32} (C : CL p s m meth c b Ln xs G) {Rz : Int32 × St} (hR : Rz.1 = 1) : ∀ (n : Nat) (v3 : Int32) (z : St) (H : Heap) (locs : List Loc) (ls : Array Slot), WP G z H → va_S (fun q : Nat => s.heap.size ≤ q) s.heap H locs → lv_has ls 4 [(0, .ref b), (1, .ref (G.2.2 0)), (2, .ref (G.2.2 172)), (3, .int v3)] → fn_L_law_18 xs Ln  n v3 z = some Rz → W p l e room_1 s m #[Value.ref b] below meth c H locs 600000 7302250 (lw_Z below #[Value.ref b] s) (F0 m 18 ls []) := by
  obtain ⟨⟨hx, hb, hr, hml, hown, hts, hX, hbl, hlocks, -⟩, hG, hK, hAW⟩ := id C
  have hbA : ¬ (fun q : Nat => s.heap.size ≤ q) b := Nat.not_le.mpr hbl
  intro n
  induction n with
  | zero => intro v3 z H locs ls hP hS hl h; cases h
  | succ n ih =>
    intro v3 z H locs ls hP hS hl h
    rw [fn_L_law_18] at h
    refine lv_iload_n hx hb dL_law_18 rfl (lv_at hl 3 rfl) ?_
    refine lv_aload_n hx hb dL_law_19 rfl (lv_at hl 0 rfl) ?_
    refine va_slen hx hb hX hbl hbA hS dL_law_20 ?_
    refine lv_bipush (v := 6) hx hb dL_law_21 (by decide) ?_
    refine lv_isub hx hb dL_law_23 ?_
    refine lv_icmp_gt (tgt := 1528) hx hb dL_law_24 (by decide) (fun c1 => ?_) (fun c1 => ?_)
    · rw [if_pos c1] at h
      refine lv_iconst (v := 1) hx hb dL_law_1528 (by decide) ?_
      refine va_forget (fun q hq => hS.2.2 q hq) ?_
      exact lw_ret hx hb hr hlocks dL_law_1529
    · rw [if_neg c1] at h
      refine lv_aload_n hx hb dL_law_27 rfl (lv_at hl 0 rfl) ?_
      refine lv_iload_n hx hb dL_law_28 rfl (lv_at hl 3 rfl) ?_
      obtain ⟨g2, h⟩ := gd_s h
      refine va_sld hx hb hX hbl hbA hS (ix_in g2) dL_law_29 ?_
      refine lv_bipush (v := 63) hx hb dL_law_30 (by decide) ?_
      refine lv_iand hx hb dL_law_32 ?_
      by_cases c3 : ((xs (Int32.toNatClampNeg v3)) &&& 63) = 0
      · rw [if_pos c3] at h
        refine lv_tableIn (off := 199) (tgt := 232) hx hb dL_law_33 (by rw [c3]; decide) (by rw [c3]; decide) (by rw [c3]; rfl) (by decide) ?_
        refine lv_aload_n hx hb dL_law_232 rfl (lv_at hl 1 rfl) ?_
        refine lv_aload_n hx hb dL_law_233 rfl (lv_at hl 0 rfl) ?_
        refine lv_iload_n hx hb dL_law_234 rfl (lv_at hl 3 rfl) ?_
        refine lv_iconst (v := 1) hx hb dL_law_235 (by decide) ?_
        refine lv_iadd hx hb dL_law_236 ?_
        obtain ⟨g4, h⟩ := gd_s h
        refine va_sld hx hb hX hbl hbA hS (ix_in g4) dL_law_237 ?_
        refine lv_aload_n hx hb dL_law_238 rfl (lv_at hl 0 rfl) ?_
        refine lv_iload_n hx hb dL_law_239 rfl (lv_at hl 3 rfl) ?_
        refine lv_iconst (v := 2) hx hb dL_law_240 (by decide) ?_
        refine lv_iadd hx hb dL_law_241 ?_
        obtain ⟨g5, h⟩ := gd_s h
        refine va_sld hx hb hX hbl hbA hS (ix_in g5) dL_law_242 ?_
        refine lv_aload_n hx hb dL_law_243 rfl (lv_at hl 0 rfl) ?_
        refine lv_iload_n hx hb dL_law_244 rfl (lv_at hl 3 rfl) ?_
        refine lv_iconst (v := 3) hx hb dL_law_245 (by decide) ?_
        refine lv_iadd hx hb dL_law_246 ?_
        obtain ⟨g6, h⟩ := gd_s h
        refine va_sld hx hb hX hbl hbA hS (ix_in g6) dL_law_247 ?_
        refine lv_aload_n hx hb dL_law_248 rfl (lv_at hl 0 rfl) ?_
        refine lv_iload_n hx hb dL_law_249 rfl (lv_at hl 3 rfl) ?_
        refine lv_iconst (v := 4) hx hb dL_law_250 (by decide) ?_
        refine lv_iadd hx hb dL_law_251 ?_
        obtain ⟨g7, h⟩ := gd_s h
        refine va_sld hx hb hX hbl hbA hS (ix_in g7) dL_law_252 ?_
        refine lv_aload_n hx hb dL_law_253 rfl (lv_at hl 0 rfl) ?_
        refine lv_iload_n hx hb dL_law_254 rfl (lv_at hl 3 rfl) ?_
        refine lv_iconst (v := 5) hx hb dL_law_255 (by decide) ?_
        refine lv_iadd hx hb dL_law_256 ?_
        obtain ⟨g8, h⟩ := gd_s h
        refine va_sld hx hb hX hbl hbA hS (ix_in g8) dL_law_257 ?_
        obtain ⟨r10, z11, h9, h⟩ := bd_s h
        refine y_Vi (Rz := (r10, z11)) (As := [.int (xs (Int32.toNatClampNeg (v3 + 1))), .int (xs (Int32.toNatClampNeg (v3 + 2))), .int (xs (Int32.toNatClampNeg (v3 + 3))), .int (xs (Int32.toNatClampNeg (v3 + 4))), .int (xs (Int32.toNatClampNeg (v3 + 5)))]) (rest := []) ⟨hx, hb, hml, hown, hts⟩ hK hP hS hAW (kd_lt k_0 (by decide)) (cell_11 k_0) rfl (m_X11_feed hG   h9) (cwV 5 hts (gVb (fun _ h => LW_tbl h) lw_749 lw_750 lw_751 lw_109 lw_752) rfl rfl rfl (by decide +kernel) ⟨Nat.le_of_ble_eq_true rfl, Nat.le_of_ble_eq_true rfl⟩) rfl hl.1 rfl (Nat.le_of_ble_eq_true rfl) dL_law_258 ⟨Nat.le_refl _, Nat.le_refl _⟩ (fun H locs hP hS => ?_)
        refine lv_aload_n hx hb dL_law_261 rfl (lv_at hl 2 rfl) ?_
        refine lv_aload_n hx hb dL_law_262 rfl (lv_at hl 0 rfl) ?_
        refine lv_iload_n hx hb dL_law_263 rfl (lv_at hl 3 rfl) ?_
        refine lv_iconst (v := 1) hx hb dL_law_264 (by decide) ?_
        refine lv_iadd hx hb dL_law_265 ?_
        obtain ⟨g12, h⟩ := gd_s h
        refine va_sld hx hb hX hbl hbA hS (ix_in g12) dL_law_266 ?_
        refine lv_aload_n hx hb dL_law_267 rfl (lv_at hl 0 rfl) ?_
        refine lv_iload_n hx hb dL_law_268 rfl (lv_at hl 3 rfl) ?_
        refine lv_iconst (v := 2) hx hb dL_law_269 (by decide) ?_
        refine lv_iadd hx hb dL_law_270 ?_
        obtain ⟨g13, h⟩ := gd_s h
        refine va_sld hx hb hX hbl hbA hS (ix_in g13) dL_law_271 ?_
        refine lv_aload_n hx hb dL_law_272 rfl (lv_at hl 0 rfl) ?_
        refine lv_iload_n hx hb dL_law_273 rfl (lv_at hl 3 rfl) ?_
        refine lv_iconst (v := 3) hx hb dL_law_274 (by decide) ?_
        refine lv_iadd hx hb dL_law_275 ?_
        obtain ⟨g14, h⟩ := gd_s h
        refine va_sld hx hb hX hbl hbA hS (ix_in g14) dL_law_276 ?_
        refine lv_aload_n hx hb dL_law_277 rfl (lv_at hl 0 rfl) ?_
        refine lv_iload_n hx hb dL_law_278 rfl (lv_at hl 3 rfl) ?_
        refine lv_iconst (v := 4) hx hb dL_law_279 (by decide) ?_
        refine lv_iadd hx hb dL_law_280 ?_
        obtain ⟨g15, h⟩ := gd_s h
        refine va_sld hx hb hX hbl hbA hS (ix_in g15) dL_law_281 ?_
        refine lv_aload_n hx hb dL_law_282 rfl (lv_at hl 0 rfl) ?_
        refine lv_iload_n hx hb dL_law_283 rfl (lv_at hl 3 rfl) ?_
        refine lv_iconst (v := 5) hx hb dL_law_284 (by decide) ?_
        refine lv_iadd hx hb dL_law_285 ?_
        obtain ⟨g16, h⟩ := gd_s h
        refine va_sld hx hb hX hbl hbA hS (ix_in g16) dL_law_286 ?_
        obtain ⟨r18, z19, h17, h⟩ := bd_s h
        refine y_Vi (Rz := (r18, z19)) (As := [.int (xs (Int32.toNatClampNeg (v3 + 1))), .int (xs (Int32.toNatClampNeg (v3 + 2))), .int (xs (Int32.toNatClampNeg (v3 + 3))), .int (xs (Int32.toNatClampNeg (v3 + 4))), .int (xs (Int32.toNatClampNeg (v3 + 5)))]) (rest := [.int r10]) ⟨hx, hb, hml, hown, hts⟩ hK hP hS hAW (kd_lt k_172 (by decide)) (cell_12 k_172) rfl (m_X12_feed hG   h17) (cwV 5 hts (gVb (fun _ h => LW_tbl h) lw_1660 lw_1661 lw_1662 lw_125 lw_1663) rfl rfl rfl (by decide +kernel) ⟨Nat.le_of_ble_eq_true rfl, Nat.le_of_ble_eq_true rfl⟩) rfl hl.1 rfl (Nat.le_of_ble_eq_true rfl) dL_law_287 ⟨Nat.le_refl _, Nat.le_refl _⟩ (fun H locs hP hS => ?_)
        refine lv_icmp_eq (tgt := 1522) hx hb dL_law_290 (by decide) (fun c20 => ?_) (fun c20 => ?_)
        · rw [if_pos c20] at h
          exact pf_L_law_1522 C hR ih v3 z19  hP hS (lv_sub hl [0, 1, 2, 3] rfl) h
        · rw [if_neg c20] at h
          refine lv_iconst (v := 0) hx hb dL_law_293 (by decide) ?_
          exact absurd ((congrArg Prod.fst (Option.some.inj h)).trans hR) (show ¬ (0 : Int32) = 1 by decide)
      rw [if_neg c3] at h
      by_cases c21 : ((xs (Int32.toNatClampNeg v3)) &&& 63) = 1
      · rw [if_pos c21] at h
        refine lv_tableIn (off := 262) (tgt := 295) hx hb dL_law_33 (by rw [c21]; decide) (by rw [c21]; decide) (by rw [c21]; rfl) (by decide) ?_
        refine lv_aload_n hx hb dL_law_295 rfl (lv_at hl 1 rfl) ?_
        refine lv_aload_n hx hb dL_law_296 rfl (lv_at hl 0 rfl) ?_
        refine lv_iload_n hx hb dL_law_297 rfl (lv_at hl 3 rfl) ?_
        refine lv_iconst (v := 1) hx hb dL_law_298 (by decide) ?_
        refine lv_iadd hx hb dL_law_299 ?_
        obtain ⟨g22, h⟩ := gd_s h
        refine va_sld hx hb hX hbl hbA hS (ix_in g22) dL_law_300 ?_
        obtain ⟨r24, z25, h23, h⟩ := bd_s h
        refine y_Vi (Rz := (r24, z25)) (As := [.int (xs (Int32.toNatClampNeg (v3 + 1)))]) (rest := []) ⟨hx, hb, hml, hown, hts⟩ hK hP hS hAW (kd_lt k_0 (by decide)) (cell_11 k_0) rfl (m_X11_end hG   h23) (cwV 1 hts (gVb (fun _ h => LW_tbl h) lw_757 lw_758 lw_759 lw_109 lw_760) rfl rfl rfl (by decide +kernel) ⟨Nat.le_of_ble_eq_true rfl, Nat.le_of_ble_eq_true rfl⟩) rfl hl.1 rfl (Nat.le_of_ble_eq_true rfl) dL_law_301 ⟨Nat.le_refl _, Nat.le_refl _⟩ (fun H locs hP hS => ?_)
        refine lv_aload_n hx hb dL_law_304 rfl (lv_at hl 2 rfl) ?_
        refine lv_aload_n hx hb dL_law_305 rfl (lv_at hl 0 rfl) ?_
        refine lv_iload_n hx hb dL_law_306 rfl (lv_at hl 3 rfl) ?_
        refine lv_iconst (v := 1) hx hb dL_law_307 (by decide) ?_
        refine lv_iadd hx hb dL_law_308 ?_
        obtain ⟨g26, h⟩ := gd_s h
        refine va_sld hx hb hX hbl hbA hS (ix_in g26) dL_law_309 ?_
        obtain ⟨r28, z29, h27, h⟩ := bd_s h
        refine y_Vi (Rz := (r28, z29)) (As := [.int (xs (Int32.toNatClampNeg (v3 + 1)))]) (rest := [.int r24]) ⟨hx, hb, hml, hown, hts⟩ hK hP hS hAW (kd_lt k_172 (by decide)) (cell_12 k_172) rfl (m_X12_end hG   h27) (cwV 1 hts (gVb (fun _ h => LW_tbl h) lw_1668 lw_1669 lw_1670 lw_125 lw_1671) rfl rfl rfl (by decide +kernel) ⟨Nat.le_of_ble_eq_true rfl, Nat.le_of_ble_eq_true rfl⟩) rfl hl.1 rfl (Nat.le_of_ble_eq_true rfl) dL_law_310 ⟨Nat.le_refl _, Nat.le_refl _⟩ (fun H locs hP hS => ?_)
        refine lv_icmp_eq (tgt := 1522) hx hb dL_law_313 (by decide) (fun c30 => ?_) (fun c30 => ?_)
        · rw [if_pos c30] at h
          exact pf_L_law_1522 C hR ih v3 z29  hP hS (lv_sub hl [0, 1, 2, 3] rfl) h
        · rw [if_neg c30] at h
          refine lv_iconst (v := 0) hx hb dL_law_316 (by decide) ?_
          exact absurd ((congrArg Prod.fst (Option.some.inj h)).trans hR) (show ¬ (0 : Int32) = 1 by decide)
      rw [if_neg c21] at h
      by_cases c31 : ((xs (Int32.toNatClampNeg v3)) &&& 63) = 2
      · rw [if_pos c31] at h
        refine lv_tableIn (off := 285) (tgt := 318) hx hb dL_law_33 (by rw [c31]; decide) (by rw [c31]; decide) (by rw [c31]; rfl) (by decide) ?_
        refine lv_aload_n hx hb dL_law_318 rfl (lv_at hl 1 rfl) ?_
        obtain ⟨r33, z34, h32, h⟩ := bd_s h
        refine y_Vi (Rz := (r33, z34)) (As := []) (rest := []) ⟨hx, hb, hml, hown, hts⟩ hK hP hS hAW (kd_lt k_0 (by decide)) (cell_11 k_0) rfl (m_X11_cake hG   h32) (cwV 0 hts (gVb (fun _ h => LW_tbl h) lw_761 lw_762 lw_763 lw_109 lw_764) rfl rfl rfl (by decide +kernel) ⟨Nat.le_of_ble_eq_true rfl, Nat.le_of_ble_eq_true rfl⟩) rfl hl.1 rfl (Nat.le_of_ble_eq_true rfl) dL_law_319 ⟨Nat.le_refl _, Nat.le_refl _⟩ (fun H locs hP hS => ?_)
        refine lv_aload_n hx hb dL_law_322 rfl (lv_at hl 2 rfl) ?_
        obtain ⟨r36, z37, h35, h⟩ := bd_s h
        refine y_Vi (Rz := (r36, z37)) (As := []) (rest := [.int r33]) ⟨hx, hb, hml, hown, hts⟩ hK hP hS hAW (kd_lt k_172 (by decide)) (cell_12 k_172) rfl (m_X12_cake hG   h35) (cwV 0 hts (gVb (fun _ h => LW_tbl h) lw_1672 lw_1673 lw_1674 lw_125 lw_1675) rfl rfl rfl (by decide +kernel) ⟨Nat.le_of_ble_eq_true rfl, Nat.le_of_ble_eq_true rfl⟩) rfl hl.1 rfl (Nat.le_of_ble_eq_true rfl) dL_law_323 ⟨Nat.le_refl _, Nat.le_refl _⟩ (fun H locs hP hS => ?_)
        refine lv_icmp_eq (tgt := 1522) hx hb dL_law_326 (by decide) (fun c38 => ?_) (fun c38 => ?_)
        · rw [if_pos c38] at h
          exact pf_L_law_1522 C hR ih v3 z37  hP hS (lv_sub hl [0, 1, 2, 3] rfl) h
        · rw [if_neg c38] at h
          refine lv_iconst (v := 0) hx hb dL_law_329 (by decide) ?_
          exact absurd ((congrArg Prod.fst (Option.some.inj h)).trans hR) (show ¬ (0 : Int32) = 1 by decide)
      rw [if_neg c31] at h
      by_cases c39 : ((xs (Int32.toNatClampNeg v3)) &&& 63) = 3
      · rw [if_pos c39] at h
        refine lv_tableIn (off := 298) (tgt := 331) hx hb dL_law_33 (by rw [c39]; decide) (by rw [c39]; decide) (by rw [c39]; rfl) (by decide) ?_
        refine lv_aload_n hx hb dL_law_331 rfl (lv_at hl 1 rfl) ?_
        refine lv_aload_n hx hb dL_law_332 rfl (lv_at hl 0 rfl) ?_
        refine lv_iload_n hx hb dL_law_333 rfl (lv_at hl 3 rfl) ?_
        refine lv_iconst (v := 1) hx hb dL_law_334 (by decide) ?_
        refine lv_iadd hx hb dL_law_335 ?_
        obtain ⟨g40, h⟩ := gd_s h
        refine va_sld hx hb hX hbl hbA hS (ix_in g40) dL_law_336 ?_
        obtain ⟨r42, z43, h41, h⟩ := bd_s h
        refine y_Vi (Rz := (r42, z43)) (As := [.int (xs (Int32.toNatClampNeg (v3 + 1)))]) (rest := []) ⟨hx, hb, hml, hown, hts⟩ hK hP hS hAW (kd_lt k_0 (by decide)) (cell_11 k_0) rfl (m_X11_fault hG   h41) (cwV 1 hts (gVb (fun _ h => LW_tbl h) lw_934 lw_935 lw_936 lw_109 lw_937) rfl rfl rfl (by decide +kernel) ⟨Nat.le_of_ble_eq_true rfl, Nat.le_of_ble_eq_true rfl⟩) rfl hl.1 rfl (Nat.le_of_ble_eq_true rfl) dL_law_337 ⟨Nat.le_refl _, Nat.le_refl _⟩ (fun H locs hP hS => ?_)
        refine lv_aload_n hx hb dL_law_340 rfl (lv_at hl 2 rfl) ?_
        refine lv_aload_n hx hb dL_law_341 rfl (lv_at hl 0 rfl) ?_
        refine lv_iload_n hx hb dL_law_342 rfl (lv_at hl 3 rfl) ?_
        refine lv_iconst (v := 1) hx hb dL_law_343 (by decide) ?_
        refine lv_iadd hx hb dL_law_344 ?_
        obtain ⟨g44, h⟩ := gd_s h
        refine va_sld hx hb hX hbl hbA hS (ix_in g44) dL_law_345 ?_
        obtain ⟨r46, z47, h45, h⟩ := bd_s h
        refine y_Vi (Rz := (r46, z47)) (As := [.int (xs (Int32.toNatClampNeg (v3 + 1)))]) (rest := [.int r42]) ⟨hx, hb, hml, hown, hts⟩ hK hP hS hAW (kd_lt k_172 (by decide)) (cell_12 k_172) rfl (m_X12_fault hG   h45) (cwV 1 hts (gVb (fun _ h => LW_tbl h) lw_1815 lw_1816 lw_1817 lw_125 lw_1818) rfl rfl rfl (by decide +kernel) ⟨Nat.le_of_ble_eq_true rfl, Nat.le_of_ble_eq_true rfl⟩) rfl hl.1 rfl (Nat.le_of_ble_eq_true rfl) dL_law_346 ⟨Nat.le_refl _, Nat.le_refl _⟩ (fun H locs hP hS => ?_)
        refine lv_icmp_eq (tgt := 1522) hx hb dL_law_349 (by decide) (fun c48 => ?_) (fun c48 => ?_)
        · rw [if_pos c48] at h
          exact pf_L_law_1522 C hR ih v3 z47  hP hS (lv_sub hl [0, 1, 2, 3] rfl) h
        · rw [if_neg c48] at h
          refine lv_iconst (v := 0) hx hb dL_law_352 (by decide) ?_
          exact absurd ((congrArg Prod.fst (Option.some.inj h)).trans hR) (show ¬ (0 : Int32) = 1 by decide)
      rw [if_neg c39] at h
      by_cases c49 : ((xs (Int32.toNatClampNeg v3)) &&& 63) = 4
      · rw [if_pos c49] at h
        refine lv_tableIn (off := 321) (tgt := 354) hx hb dL_law_33 (by rw [c49]; decide) (by rw [c49]; decide) (by rw [c49]; rfl) (by decide) ?_
        refine lv_aload_n hx hb dL_law_354 rfl (lv_at hl 1 rfl) ?_
        refine lv_aload_n hx hb dL_law_355 rfl (lv_at hl 0 rfl) ?_
        refine lv_iload_n hx hb dL_law_356 rfl (lv_at hl 3 rfl) ?_
        refine lv_iconst (v := 1) hx hb dL_law_357 (by decide) ?_
        refine lv_iadd hx hb dL_law_358 ?_
        obtain ⟨g50, h⟩ := gd_s h
        refine va_sld hx hb hX hbl hbA hS (ix_in g50) dL_law_359 ?_
        refine lv_aload_n hx hb dL_law_360 rfl (lv_at hl 0 rfl) ?_
        refine lv_iload_n hx hb dL_law_361 rfl (lv_at hl 3 rfl) ?_
        refine lv_iconst (v := 2) hx hb dL_law_362 (by decide) ?_
        refine lv_iadd hx hb dL_law_363 ?_
        obtain ⟨g51, h⟩ := gd_s h
        refine va_sld hx hb hX hbl hbA hS (ix_in g51) dL_law_364 ?_
        obtain ⟨r53, z54, h52, h⟩ := bd_s h
        refine y_Vi (Rz := (r53, z54)) (As := [.int (xs (Int32.toNatClampNeg (v3 + 1))), .int (xs (Int32.toNatClampNeg (v3 + 2)))]) (rest := []) ⟨hx, hb, hml, hown, hts⟩ hK hP hS hAW (kd_lt k_0 (by decide)) (cell_11 k_0) rfl (m_X11_piece hG   h52) (cwV 2 hts (gVb (fun _ h => LW_tbl h) lw_938 lw_939 lw_940 lw_109 lw_941) rfl rfl rfl (by decide +kernel) ⟨Nat.le_of_ble_eq_true rfl, Nat.le_of_ble_eq_true rfl⟩) rfl hl.1 rfl (Nat.le_of_ble_eq_true rfl) dL_law_365 ⟨Nat.le_refl _, Nat.le_refl _⟩ (fun H locs hP hS => ?_)
        refine lv_aload_n hx hb dL_law_368 rfl (lv_at hl 2 rfl) ?_
        refine lv_aload_n hx hb dL_law_369 rfl (lv_at hl 0 rfl) ?_
        refine lv_iload_n hx hb dL_law_370 rfl (lv_at hl 3 rfl) ?_
        refine lv_iconst (v := 1) hx hb dL_law_371 (by decide) ?_
        refine lv_iadd hx hb dL_law_372 ?_
        obtain ⟨g55, h⟩ := gd_s h
        refine va_sld hx hb hX hbl hbA hS (ix_in g55) dL_law_373 ?_
        refine lv_aload_n hx hb dL_law_374 rfl (lv_at hl 0 rfl) ?_
        refine lv_iload_n hx hb dL_law_375 rfl (lv_at hl 3 rfl) ?_
        refine lv_iconst (v := 2) hx hb dL_law_376 (by decide) ?_
        refine lv_iadd hx hb dL_law_377 ?_
        obtain ⟨g56, h⟩ := gd_s h
        refine va_sld hx hb hX hbl hbA hS (ix_in g56) dL_law_378 ?_
        obtain ⟨r58, z59, h57, h⟩ := bd_s h
        refine y_Vi (Rz := (r58, z59)) (As := [.int (xs (Int32.toNatClampNeg (v3 + 1))), .int (xs (Int32.toNatClampNeg (v3 + 2)))]) (rest := [.int r53]) ⟨hx, hb, hml, hown, hts⟩ hK hP hS hAW (kd_lt k_172 (by decide)) (cell_12 k_172) rfl (m_X12_piece hG   h57) (cwV 2 hts (gVb (fun _ h => LW_tbl h) lw_1819 lw_1820 lw_1821 lw_125 lw_1822) rfl rfl rfl (by decide +kernel) ⟨Nat.le_of_ble_eq_true rfl, Nat.le_of_ble_eq_true rfl⟩) rfl hl.1 rfl (Nat.le_of_ble_eq_true rfl) dL_law_379 ⟨Nat.le_refl _, Nat.le_refl _⟩ (fun H locs hP hS => ?_)
        refine lv_icmp_eq (tgt := 1522) hx hb dL_law_382 (by decide) (fun c60 => ?_) (fun c60 => ?_)
        · rw [if_pos c60] at h
          exact pf_L_law_1522 C hR ih v3 z59  hP hS (lv_sub hl [0, 1, 2, 3] rfl) h
        · rw [if_neg c60] at h
          refine lv_iconst (v := 0) hx hb dL_law_385 (by decide) ?_
          exact absurd ((congrArg Prod.fst (Option.some.inj h)).trans hR) (show ¬ (0 : Int32) = 1 by decide)
      rw [if_neg c49] at h
      by_cases c61 : ((xs (Int32.toNatClampNeg v3)) &&& 63) = 5
      · rw [if_pos c61] at h
        refine lv_tableIn (off := 354) (tgt := 387) hx hb dL_law_33 (by rw [c61]; decide) (by rw [c61]; decide) (by rw [c61]; rfl) (by decide) ?_
        refine lv_aload_n hx hb dL_law_387 rfl (lv_at hl 1 rfl) ?_
        refine lv_aload_n hx hb dL_law_388 rfl (lv_at hl 0 rfl) ?_
        refine lv_iload_n hx hb dL_law_389 rfl (lv_at hl 3 rfl) ?_
        refine lv_iconst (v := 1) hx hb dL_law_390 (by decide) ?_
        refine lv_iadd hx hb dL_law_391 ?_
        obtain ⟨g62, h⟩ := gd_s h
        refine va_sld hx hb hX hbl hbA hS (ix_in g62) dL_law_392 ?_
        refine lv_aload_n hx hb dL_law_393 rfl (lv_at hl 0 rfl) ?_
        refine lv_iload_n hx hb dL_law_394 rfl (lv_at hl 3 rfl) ?_
        refine lv_iconst (v := 2) hx hb dL_law_395 (by decide) ?_
        refine lv_iadd hx hb dL_law_396 ?_
        obtain ⟨g63, h⟩ := gd_s h
        refine va_sld hx hb hX hbl hbA hS (ix_in g63) dL_law_397 ?_
        obtain ⟨r65, z66, h64, h⟩ := bd_s h
        refine y_Vi (Rz := (r65, z66)) (As := [.int (xs (Int32.toNatClampNeg (v3 + 1))), .int (xs (Int32.toNatClampNeg (v3 + 2)))]) (rest := []) ⟨hx, hb, hml, hown, hts⟩ hK hP hS hAW (kd_lt k_0 (by decide)) (cell_11 k_0) rfl (m_X11_guest hG   h64) (cwV 2 hts (gVb (fun _ h => LW_tbl h) lw_958 lw_959 lw_960 lw_109 lw_961) rfl rfl rfl (by decide +kernel) ⟨Nat.le_of_ble_eq_true rfl, Nat.le_of_ble_eq_true rfl⟩) rfl hl.1 rfl (Nat.le_of_ble_eq_true rfl) dL_law_398 ⟨Nat.le_refl _, Nat.le_refl _⟩ (fun H locs hP hS => ?_)
        refine lv_aload_n hx hb dL_law_401 rfl (lv_at hl 2 rfl) ?_
        refine lv_aload_n hx hb dL_law_402 rfl (lv_at hl 0 rfl) ?_
        refine lv_iload_n hx hb dL_law_403 rfl (lv_at hl 3 rfl) ?_
        refine lv_iconst (v := 1) hx hb dL_law_404 (by decide) ?_
        refine lv_iadd hx hb dL_law_405 ?_
        obtain ⟨g67, h⟩ := gd_s h
        refine va_sld hx hb hX hbl hbA hS (ix_in g67) dL_law_406 ?_
        refine lv_aload_n hx hb dL_law_407 rfl (lv_at hl 0 rfl) ?_
        refine lv_iload_n hx hb dL_law_408 rfl (lv_at hl 3 rfl) ?_
        refine lv_iconst (v := 2) hx hb dL_law_409 (by decide) ?_
        refine lv_iadd hx hb dL_law_410 ?_
        obtain ⟨g68, h⟩ := gd_s h
        refine va_sld hx hb hX hbl hbA hS (ix_in g68) dL_law_411 ?_
        obtain ⟨r70, z71, h69, h⟩ := bd_s h
        refine y_Vi (Rz := (r70, z71)) (As := [.int (xs (Int32.toNatClampNeg (v3 + 1))), .int (xs (Int32.toNatClampNeg (v3 + 2)))]) (rest := [.int r65]) ⟨hx, hb, hml, hown, hts⟩ hK hP hS hAW (kd_lt k_172 (by decide)) (cell_12 k_172) rfl (m_X12_guest hG   h69) (cwV 2 hts (gVb (fun _ h => LW_tbl h) lw_1845 lw_1846 lw_1847 lw_125 lw_1848) rfl rfl rfl (by decide +kernel) ⟨Nat.le_of_ble_eq_true rfl, Nat.le_of_ble_eq_true rfl⟩) rfl hl.1 rfl (Nat.le_of_ble_eq_true rfl) dL_law_412 ⟨Nat.le_refl _, Nat.le_refl _⟩ (fun H locs hP hS => ?_)
        refine lv_icmp_eq (tgt := 1522) hx hb dL_law_415 (by decide) (fun c72 => ?_) (fun c72 => ?_)
        · rw [if_pos c72] at h
          exact pf_L_law_1522 C hR ih v3 z71  hP hS (lv_sub hl [0, 1, 2, 3] rfl) h
        · rw [if_neg c72] at h
          refine lv_iconst (v := 0) hx hb dL_law_418 (by decide) ?_
          exact absurd ((congrArg Prod.fst (Option.some.inj h)).trans hR) (show ¬ (0 : Int32) = 1 by decide)
      rw [if_neg c61] at h
      by_cases c73 : ((xs (Int32.toNatClampNeg v3)) &&& 63) = 6
      · rw [if_pos c73] at h
        refine lv_tableIn (off := 387) (tgt := 420) hx hb dL_law_33 (by rw [c73]; decide) (by rw [c73]; decide) (by rw [c73]; rfl) (by decide) ?_
        refine lv_aload_n hx hb dL_law_420 rfl (lv_at hl 1 rfl) ?_
        refine lv_aload_n hx hb dL_law_421 rfl (lv_at hl 0 rfl) ?_
        refine lv_iload_n hx hb dL_law_422 rfl (lv_at hl 3 rfl) ?_
        refine lv_iconst (v := 1) hx hb dL_law_423 (by decide) ?_
        refine lv_iadd hx hb dL_law_424 ?_
        obtain ⟨g74, h⟩ := gd_s h
        refine va_sld hx hb hX hbl hbA hS (ix_in g74) dL_law_425 ?_
        refine lv_aload_n hx hb dL_law_426 rfl (lv_at hl 0 rfl) ?_
        refine lv_iload_n hx hb dL_law_427 rfl (lv_at hl 3 rfl) ?_
        refine lv_iconst (v := 2) hx hb dL_law_428 (by decide) ?_
        refine lv_iadd hx hb dL_law_429 ?_
        obtain ⟨g75, h⟩ := gd_s h
        refine va_sld hx hb hX hbl hbA hS (ix_in g75) dL_law_430 ?_
        obtain ⟨r77, z78, h76, h⟩ := bd_s h
        refine y_Vi (Rz := (r77, z78)) (As := [.int (xs (Int32.toNatClampNeg (v3 + 1))), .int (xs (Int32.toNatClampNeg (v3 + 2)))]) (rest := []) ⟨hx, hb, hml, hown, hts⟩ hK hP hS hAW (kd_lt k_0 (by decide)) (cell_11 k_0) rfl (m_X11_worth hG   h76) (cwV 2 hts (gVb (fun _ h => LW_tbl h) lw_992 lw_993 lw_994 lw_109 lw_995) rfl rfl rfl (by decide +kernel) ⟨Nat.le_of_ble_eq_true rfl, Nat.le_of_ble_eq_true rfl⟩) rfl hl.1 rfl (Nat.le_of_ble_eq_true rfl) dL_law_431 ⟨Nat.le_refl _, Nat.le_refl _⟩ (fun H locs hP hS => ?_)
        refine lv_aload_n hx hb dL_law_434 rfl (lv_at hl 2 rfl) ?_
        refine lv_aload_n hx hb dL_law_435 rfl (lv_at hl 0 rfl) ?_
        refine lv_iload_n hx hb dL_law_436 rfl (lv_at hl 3 rfl) ?_
        refine lv_iconst (v := 1) hx hb dL_law_437 (by decide) ?_
        refine lv_iadd hx hb dL_law_438 ?_
        obtain ⟨g79, h⟩ := gd_s h
        refine va_sld hx hb hX hbl hbA hS (ix_in g79) dL_law_439 ?_
        refine lv_aload_n hx hb dL_law_440 rfl (lv_at hl 0 rfl) ?_
        refine lv_iload_n hx hb dL_law_441 rfl (lv_at hl 3 rfl) ?_
        refine lv_iconst (v := 2) hx hb dL_law_442 (by decide) ?_
        refine lv_iadd hx hb dL_law_443 ?_
        obtain ⟨g80, h⟩ := gd_s h
        refine va_sld hx hb hX hbl hbA hS (ix_in g80) dL_law_444 ?_
        obtain ⟨r82, z83, h81, h⟩ := bd_s h
        refine y_Vi (Rz := (r82, z83)) (As := [.int (xs (Int32.toNatClampNeg (v3 + 1))), .int (xs (Int32.toNatClampNeg (v3 + 2)))]) (rest := [.int r77]) ⟨hx, hb, hml, hown, hts⟩ hK hP hS hAW (kd_lt k_172 (by decide)) (cell_12 k_172) rfl (m_X12_worth hG   h81) (cwV 2 hts (gVb (fun _ h => LW_tbl h) lw_1872 lw_1873 lw_1874 lw_125 lw_1875) rfl rfl rfl (by decide +kernel) ⟨Nat.le_of_ble_eq_true rfl, Nat.le_of_ble_eq_true rfl⟩) rfl hl.1 rfl (Nat.le_of_ble_eq_true rfl) dL_law_445 ⟨Nat.le_refl _, Nat.le_refl _⟩ (fun H locs hP hS => ?_)
        refine lv_icmp_eq (tgt := 1522) hx hb dL_law_448 (by decide) (fun c84 => ?_) (fun c84 => ?_)
        · rw [if_pos c84] at h
          exact pf_L_law_1522 C hR ih v3 z83  hP hS (lv_sub hl [0, 1, 2, 3] rfl) h
        · rw [if_neg c84] at h
          refine lv_iconst (v := 0) hx hb dL_law_451 (by decide) ?_
          exact absurd ((congrArg Prod.fst (Option.some.inj h)).trans hR) (show ¬ (0 : Int32) = 1 by decide)
      rw [if_neg c73] at h
      by_cases c85 : ((xs (Int32.toNatClampNeg v3)) &&& 63) = 7
      · rw [if_pos c85] at h
        refine lv_tableIn (off := 420) (tgt := 453) hx hb dL_law_33 (by rw [c85]; decide) (by rw [c85]; decide) (by rw [c85]; rfl) (by decide) ?_
        refine lv_aload_n hx hb dL_law_453 rfl (lv_at hl 1 rfl) ?_
        refine lv_aload_n hx hb dL_law_454 rfl (lv_at hl 0 rfl) ?_
        refine lv_iload_n hx hb dL_law_455 rfl (lv_at hl 3 rfl) ?_
        refine lv_iconst (v := 1) hx hb dL_law_456 (by decide) ?_
        refine lv_iadd hx hb dL_law_457 ?_
        obtain ⟨g86, h⟩ := gd_s h
        refine va_sld hx hb hX hbl hbA hS (ix_in g86) dL_law_458 ?_
        refine lv_aload_n hx hb dL_law_459 rfl (lv_at hl 0 rfl) ?_
        refine lv_iload_n hx hb dL_law_460 rfl (lv_at hl 3 rfl) ?_
        refine lv_iconst (v := 2) hx hb dL_law_461 (by decide) ?_
        refine lv_iadd hx hb dL_law_462 ?_
        obtain ⟨g87, h⟩ := gd_s h
        refine va_sld hx hb hX hbl hbA hS (ix_in g87) dL_law_463 ?_
        refine lv_aload_n hx hb dL_law_464 rfl (lv_at hl 0 rfl) ?_
        refine lv_iload_n hx hb dL_law_465 rfl (lv_at hl 3 rfl) ?_
        refine lv_iconst (v := 3) hx hb dL_law_466 (by decide) ?_
        refine lv_iadd hx hb dL_law_467 ?_
        obtain ⟨g88, h⟩ := gd_s h
        refine va_sld hx hb hX hbl hbA hS (ix_in g88) dL_law_468 ?_
        obtain ⟨r90, z91, h89, h⟩ := bd_s h
        refine y_Vi (Rz := (r90, z91)) (As := [.int (xs (Int32.toNatClampNeg (v3 + 1))), .int (xs (Int32.toNatClampNeg (v3 + 2))), .int (xs (Int32.toNatClampNeg (v3 + 3)))]) (rest := []) ⟨hx, hb, hml, hown, hts⟩ hK hP hS hAW (kd_lt k_0 (by decide)) (cell_11 k_0) rfl (m_X11_slip hG   h89) (cwV 3 hts (gVb (fun _ h => LW_tbl h) lw_997 lw_998 lw_999 lw_109 lw_1000) rfl rfl rfl (by decide +kernel) ⟨Nat.le_of_ble_eq_true rfl, Nat.le_of_ble_eq_true rfl⟩) rfl hl.1 rfl (Nat.le_of_ble_eq_true rfl) dL_law_469 ⟨Nat.le_refl _, Nat.le_refl _⟩ (fun H locs hP hS => ?_)
        refine lv_aload_n hx hb dL_law_472 rfl (lv_at hl 2 rfl) ?_
        refine lv_aload_n hx hb dL_law_473 rfl (lv_at hl 0 rfl) ?_
        refine lv_iload_n hx hb dL_law_474 rfl (lv_at hl 3 rfl) ?_
        refine lv_iconst (v := 1) hx hb dL_law_475 (by decide) ?_
        refine lv_iadd hx hb dL_law_476 ?_
        obtain ⟨g92, h⟩ := gd_s h
        refine va_sld hx hb hX hbl hbA hS (ix_in g92) dL_law_477 ?_
        refine lv_aload_n hx hb dL_law_478 rfl (lv_at hl 0 rfl) ?_
        refine lv_iload_n hx hb dL_law_479 rfl (lv_at hl 3 rfl) ?_
        refine lv_iconst (v := 2) hx hb dL_law_480 (by decide) ?_
        refine lv_iadd hx hb dL_law_481 ?_
        obtain ⟨g93, h⟩ := gd_s h
        refine va_sld hx hb hX hbl hbA hS (ix_in g93) dL_law_482 ?_
        refine lv_aload_n hx hb dL_law_483 rfl (lv_at hl 0 rfl) ?_
        refine lv_iload_n hx hb dL_law_484 rfl (lv_at hl 3 rfl) ?_
        refine lv_iconst (v := 3) hx hb dL_law_485 (by decide) ?_
        refine lv_iadd hx hb dL_law_486 ?_
        obtain ⟨g94, h⟩ := gd_s h
        refine va_sld hx hb hX hbl hbA hS (ix_in g94) dL_law_487 ?_
        obtain ⟨r96, z97, h95, h⟩ := bd_s h
        refine y_Vi (Rz := (r96, z97)) (As := [.int (xs (Int32.toNatClampNeg (v3 + 1))), .int (xs (Int32.toNatClampNeg (v3 + 2))), .int (xs (Int32.toNatClampNeg (v3 + 3)))]) (rest := [.int r90]) ⟨hx, hb, hml, hown, hts⟩ hK hP hS hAW (kd_lt k_172 (by decide)) (cell_12 k_172) rfl (m_X12_slip hG   h95) (cwV 3 hts (gVb (fun _ h => LW_tbl h) lw_1877 lw_1878 lw_1879 lw_125 lw_1880) rfl rfl rfl (by decide +kernel) ⟨Nat.le_of_ble_eq_true rfl, Nat.le_of_ble_eq_true rfl⟩) rfl hl.1 rfl (Nat.le_of_ble_eq_true rfl) dL_law_488 ⟨Nat.le_refl _, Nat.le_refl _⟩ (fun H locs hP hS => ?_)
        refine lv_icmp_eq (tgt := 1522) hx hb dL_law_491 (by decide) (fun c98 => ?_) (fun c98 => ?_)
        · rw [if_pos c98] at h
          exact pf_L_law_1522 C hR ih v3 z97  hP hS (lv_sub hl [0, 1, 2, 3] rfl) h
        · rw [if_neg c98] at h
          refine lv_iconst (v := 0) hx hb dL_law_494 (by decide) ?_
          exact absurd ((congrArg Prod.fst (Option.some.inj h)).trans hR) (show ¬ (0 : Int32) = 1 by decide)
      rw [if_neg c85] at h
      by_cases c99 : ((xs (Int32.toNatClampNeg v3)) &&& 63) = 8
      · rw [if_pos c99] at h
        refine lv_tableIn (off := 463) (tgt := 496) hx hb dL_law_33 (by rw [c99]; decide) (by rw [c99]; decide) (by rw [c99]; rfl) (by decide) ?_
        refine lv_aload_n hx hb dL_law_496 rfl (lv_at hl 1 rfl) ?_
        refine lv_aload_n hx hb dL_law_497 rfl (lv_at hl 0 rfl) ?_
        refine lv_iload_n hx hb dL_law_498 rfl (lv_at hl 3 rfl) ?_
        refine lv_iconst (v := 1) hx hb dL_law_499 (by decide) ?_
        refine lv_iadd hx hb dL_law_500 ?_
        obtain ⟨g100, h⟩ := gd_s h
        refine va_sld hx hb hX hbl hbA hS (ix_in g100) dL_law_501 ?_
        refine lv_aload_n hx hb dL_law_502 rfl (lv_at hl 0 rfl) ?_
        refine lv_iload_n hx hb dL_law_503 rfl (lv_at hl 3 rfl) ?_
        refine lv_iconst (v := 2) hx hb dL_law_504 (by decide) ?_
        refine lv_iadd hx hb dL_law_505 ?_
        obtain ⟨g101, h⟩ := gd_s h
        refine va_sld hx hb hX hbl hbA hS (ix_in g101) dL_law_506 ?_
        refine lv_aload_n hx hb dL_law_507 rfl (lv_at hl 0 rfl) ?_
        refine lv_iload_n hx hb dL_law_508 rfl (lv_at hl 3 rfl) ?_
        refine lv_iconst (v := 3) hx hb dL_law_509 (by decide) ?_
        refine lv_iadd hx hb dL_law_510 ?_
        obtain ⟨g102, h⟩ := gd_s h
        refine va_sld hx hb hX hbl hbA hS (ix_in g102) dL_law_511 ?_
        obtain ⟨r104, z105, h103, h⟩ := bd_s h
        refine y_Vi (Rz := (r104, z105)) (As := [.int (xs (Int32.toNatClampNeg (v3 + 1))), .int (xs (Int32.toNatClampNeg (v3 + 2))), .int (xs (Int32.toNatClampNeg (v3 + 3)))]) (rest := []) ⟨hx, hb, hml, hown, hts⟩ hK hP hS hAW (kd_lt k_0 (by decide)) (cell_11 k_0) rfl (m_X11_cut hG   h103) (cwV 3 hts (gVb (fun _ h => LW_tbl h) lw_1030 lw_1031 lw_1032 lw_109 lw_1033) rfl rfl rfl (by decide +kernel) ⟨Nat.le_of_ble_eq_true rfl, Nat.le_of_ble_eq_true rfl⟩) rfl hl.1 rfl (Nat.le_of_ble_eq_true rfl) dL_law_512 ⟨Nat.le_refl _, Nat.le_refl _⟩ (fun H locs hP hS => ?_)
        refine lv_aload_n hx hb dL_law_515 rfl (lv_at hl 2 rfl) ?_
        refine lv_aload_n hx hb dL_law_516 rfl (lv_at hl 0 rfl) ?_
        refine lv_iload_n hx hb dL_law_517 rfl (lv_at hl 3 rfl) ?_
        refine lv_iconst (v := 1) hx hb dL_law_518 (by decide) ?_
        refine lv_iadd hx hb dL_law_519 ?_
        obtain ⟨g106, h⟩ := gd_s h
        refine va_sld hx hb hX hbl hbA hS (ix_in g106) dL_law_520 ?_
        refine lv_aload_n hx hb dL_law_521 rfl (lv_at hl 0 rfl) ?_
        refine lv_iload_n hx hb dL_law_522 rfl (lv_at hl 3 rfl) ?_
        refine lv_iconst (v := 2) hx hb dL_law_523 (by decide) ?_
        refine lv_iadd hx hb dL_law_524 ?_
        obtain ⟨g107, h⟩ := gd_s h
        refine va_sld hx hb hX hbl hbA hS (ix_in g107) dL_law_525 ?_
        refine lv_aload_n hx hb dL_law_526 rfl (lv_at hl 0 rfl) ?_
        refine lv_iload_n hx hb dL_law_527 rfl (lv_at hl 3 rfl) ?_
        refine lv_iconst (v := 3) hx hb dL_law_528 (by decide) ?_
        refine lv_iadd hx hb dL_law_529 ?_
        obtain ⟨g108, h⟩ := gd_s h
        refine va_sld hx hb hX hbl hbA hS (ix_in g108) dL_law_530 ?_
        obtain ⟨r110, z111, h109, h⟩ := bd_s h
        refine y_Vi (Rz := (r110, z111)) (As := [.int (xs (Int32.toNatClampNeg (v3 + 1))), .int (xs (Int32.toNatClampNeg (v3 + 2))), .int (xs (Int32.toNatClampNeg (v3 + 3)))]) (rest := [.int r104]) ⟨hx, hb, hml, hown, hts⟩ hK hP hS hAW (kd_lt k_172 (by decide)) (cell_12 k_172) rfl (m_X12_cut hG   h109) (cwV 3 hts (gVb (fun _ h => LW_tbl h) lw_1893 lw_1894 lw_1895 lw_125 lw_1896) rfl rfl rfl (by decide +kernel) ⟨Nat.le_of_ble_eq_true rfl, Nat.le_of_ble_eq_true rfl⟩) rfl hl.1 rfl (Nat.le_of_ble_eq_true rfl) dL_law_531 ⟨Nat.le_refl _, Nat.le_refl _⟩ (fun H locs hP hS => ?_)
        refine lv_icmp_eq (tgt := 1522) hx hb dL_law_534 (by decide) (fun c112 => ?_) (fun c112 => ?_)
        · rw [if_pos c112] at h
          exact pf_L_law_1522 C hR ih v3 z111  hP hS (lv_sub hl [0, 1, 2, 3] rfl) h
        · rw [if_neg c112] at h
          refine lv_iconst (v := 0) hx hb dL_law_537 (by decide) ?_
          exact absurd ((congrArg Prod.fst (Option.some.inj h)).trans hR) (show ¬ (0 : Int32) = 1 by decide)
      rw [if_neg c99] at h
      by_cases c113 : ((xs (Int32.toNatClampNeg v3)) &&& 63) = 9
      · rw [if_pos c113] at h
        refine lv_tableIn (off := 506) (tgt := 539) hx hb dL_law_33 (by rw [c113]; decide) (by rw [c113]; decide) (by rw [c113]; rfl) (by decide) ?_
        refine lv_aload_n hx hb dL_law_539 rfl (lv_at hl 1 rfl) ?_
        refine lv_aload_n hx hb dL_law_540 rfl (lv_at hl 0 rfl) ?_
        refine lv_iload_n hx hb dL_law_541 rfl (lv_at hl 3 rfl) ?_
        refine lv_iconst (v := 1) hx hb dL_law_542 (by decide) ?_
        refine lv_iadd hx hb dL_law_543 ?_
        obtain ⟨g114, h⟩ := gd_s h
        refine va_sld hx hb hX hbl hbA hS (ix_in g114) dL_law_544 ?_
        refine lv_aload_n hx hb dL_law_545 rfl (lv_at hl 0 rfl) ?_
        refine lv_iload_n hx hb dL_law_546 rfl (lv_at hl 3 rfl) ?_
        refine lv_iconst (v := 2) hx hb dL_law_547 (by decide) ?_
        refine lv_iadd hx hb dL_law_548 ?_
        obtain ⟨g115, h⟩ := gd_s h
        refine va_sld hx hb hX hbl hbA hS (ix_in g115) dL_law_549 ?_
        obtain ⟨r117, z118, h116, h⟩ := bd_s h
        refine y_Vi (Rz := (r117, z118)) (As := [.int (xs (Int32.toNatClampNeg (v3 + 1))), .int (xs (Int32.toNatClampNeg (v3 + 2)))]) (rest := []) ⟨hx, hb, hml, hown, hts⟩ hK hP hS hAW (kd_lt k_0 (by decide)) (cell_11 k_0) rfl (m_X11_give hG   h116) (cwV 2 hts (gVb (fun _ h => LW_tbl h) lw_1077 lw_1078 lw_1079 lw_109 lw_1080) rfl rfl rfl (by decide +kernel) ⟨Nat.le_of_ble_eq_true rfl, Nat.le_of_ble_eq_true rfl⟩) rfl hl.1 rfl (Nat.le_of_ble_eq_true rfl) dL_law_550 ⟨Nat.le_refl _, Nat.le_refl _⟩ (fun H locs hP hS => ?_)
        refine lv_aload_n hx hb dL_law_553 rfl (lv_at hl 2 rfl) ?_
        refine lv_aload_n hx hb dL_law_554 rfl (lv_at hl 0 rfl) ?_
        refine lv_iload_n hx hb dL_law_555 rfl (lv_at hl 3 rfl) ?_
        refine lv_iconst (v := 1) hx hb dL_law_556 (by decide) ?_
        refine lv_iadd hx hb dL_law_557 ?_
        obtain ⟨g119, h⟩ := gd_s h
        refine va_sld hx hb hX hbl hbA hS (ix_in g119) dL_law_558 ?_
        refine lv_aload_n hx hb dL_law_559 rfl (lv_at hl 0 rfl) ?_
        refine lv_iload_n hx hb dL_law_560 rfl (lv_at hl 3 rfl) ?_
        refine lv_iconst (v := 2) hx hb dL_law_561 (by decide) ?_
        refine lv_iadd hx hb dL_law_562 ?_
        obtain ⟨g120, h⟩ := gd_s h
        refine va_sld hx hb hX hbl hbA hS (ix_in g120) dL_law_563 ?_
        obtain ⟨r122, z123, h121, h⟩ := bd_s h
        refine y_Vi (Rz := (r122, z123)) (As := [.int (xs (Int32.toNatClampNeg (v3 + 1))), .int (xs (Int32.toNatClampNeg (v3 + 2)))]) (rest := [.int r117]) ⟨hx, hb, hml, hown, hts⟩ hK hP hS hAW (kd_lt k_172 (by decide)) (cell_12 k_172) rfl (m_X12_give hG   h121) (cwV 2 hts (gVb (fun _ h => LW_tbl h) lw_1905 lw_1906 lw_1907 lw_125 lw_1908) rfl rfl rfl (by decide +kernel) ⟨Nat.le_of_ble_eq_true rfl, Nat.le_of_ble_eq_true rfl⟩) rfl hl.1 rfl (Nat.le_of_ble_eq_true rfl) dL_law_564 ⟨Nat.le_refl _, Nat.le_refl _⟩ (fun H locs hP hS => ?_)
        refine lv_icmp_eq (tgt := 1522) hx hb dL_law_567 (by decide) (fun c124 => ?_) (fun c124 => ?_)
        · rw [if_pos c124] at h
          exact pf_L_law_1522 C hR ih v3 z123  hP hS (lv_sub hl [0, 1, 2, 3] rfl) h
        · rw [if_neg c124] at h
          refine lv_iconst (v := 0) hx hb dL_law_570 (by decide) ?_
          exact absurd ((congrArg Prod.fst (Option.some.inj h)).trans hR) (show ¬ (0 : Int32) = 1 by decide)
      rw [if_neg c113] at h
      by_cases c125 : ((xs (Int32.toNatClampNeg v3)) &&& 63) = 10
      · rw [if_pos c125] at h
        refine lv_tableIn (off := 539) (tgt := 572) hx hb dL_law_33 (by rw [c125]; decide) (by rw [c125]; decide) (by rw [c125]; rfl) (by decide) ?_
        refine lv_aload_n hx hb dL_law_572 rfl (lv_at hl 1 rfl) ?_
        refine lv_aload_n hx hb dL_law_573 rfl (lv_at hl 0 rfl) ?_
        refine lv_iload_n hx hb dL_law_574 rfl (lv_at hl 3 rfl) ?_
        refine lv_iconst (v := 1) hx hb dL_law_575 (by decide) ?_
        refine lv_iadd hx hb dL_law_576 ?_
        obtain ⟨g126, h⟩ := gd_s h
        refine va_sld hx hb hX hbl hbA hS (ix_in g126) dL_law_577 ?_
        obtain ⟨r128, z129, h127, h⟩ := bd_s h
        refine y_Vi (Rz := (r128, z129)) (As := [.int (xs (Int32.toNatClampNeg (v3 + 1)))]) (rest := []) ⟨hx, hb, hml, hown, hts⟩ hK hP hS hAW (kd_lt k_0 (by decide)) (cell_11 k_0) rfl (m_X11_back hG   h127) (cwV 1 hts (gVb (fun _ h => LW_tbl h) lw_1086 lw_1087 lw_1088 lw_109 lw_1089) rfl rfl rfl (by decide +kernel) ⟨Nat.le_of_ble_eq_true rfl, Nat.le_of_ble_eq_true rfl⟩) rfl hl.1 rfl (Nat.le_of_ble_eq_true rfl) dL_law_578 ⟨Nat.le_refl _, Nat.le_refl _⟩ (fun H locs hP hS => ?_)
        refine lv_aload_n hx hb dL_law_581 rfl (lv_at hl 2 rfl) ?_
        refine lv_aload_n hx hb dL_law_582 rfl (lv_at hl 0 rfl) ?_
        refine lv_iload_n hx hb dL_law_583 rfl (lv_at hl 3 rfl) ?_
        refine lv_iconst (v := 1) hx hb dL_law_584 (by decide) ?_
        refine lv_iadd hx hb dL_law_585 ?_
        obtain ⟨g130, h⟩ := gd_s h
        refine va_sld hx hb hX hbl hbA hS (ix_in g130) dL_law_586 ?_
        obtain ⟨r132, z133, h131, h⟩ := bd_s h
        refine y_Vi (Rz := (r132, z133)) (As := [.int (xs (Int32.toNatClampNeg (v3 + 1)))]) (rest := [.int r128]) ⟨hx, hb, hml, hown, hts⟩ hK hP hS hAW (kd_lt k_172 (by decide)) (cell_12 k_172) rfl (m_X12_back hG   h131) (cwV 1 hts (gVb (fun _ h => LW_tbl h) lw_1909 lw_1910 lw_1911 lw_125 lw_1912) rfl rfl rfl (by decide +kernel) ⟨Nat.le_of_ble_eq_true rfl, Nat.le_of_ble_eq_true rfl⟩) rfl hl.1 rfl (Nat.le_of_ble_eq_true rfl) dL_law_587 ⟨Nat.le_refl _, Nat.le_refl _⟩ (fun H locs hP hS => ?_)
        refine lv_icmp_eq (tgt := 1522) hx hb dL_law_590 (by decide) (fun c134 => ?_) (fun c134 => ?_)
        · rw [if_pos c134] at h
          exact pf_L_law_1522 C hR ih v3 z133  hP hS (lv_sub hl [0, 1, 2, 3] rfl) h
        · rw [if_neg c134] at h
          refine lv_iconst (v := 0) hx hb dL_law_593 (by decide) ?_
          exact absurd ((congrArg Prod.fst (Option.some.inj h)).trans hR) (show ¬ (0 : Int32) = 1 by decide)
      rw [if_neg c125] at h
      by_cases c135 : ((xs (Int32.toNatClampNeg v3)) &&& 63) = 11
      · rw [if_pos c135] at h
        refine lv_tableIn (off := 562) (tgt := 595) hx hb dL_law_33 (by rw [c135]; decide) (by rw [c135]; decide) (by rw [c135]; rfl) (by decide) ?_
        refine lv_aload_n hx hb dL_law_595 rfl (lv_at hl 1 rfl) ?_
        refine lv_aload_n hx hb dL_law_596 rfl (lv_at hl 0 rfl) ?_
        refine lv_iload_n hx hb dL_law_597 rfl (lv_at hl 3 rfl) ?_
        refine lv_iconst (v := 1) hx hb dL_law_598 (by decide) ?_
        refine lv_iadd hx hb dL_law_599 ?_
        obtain ⟨g136, h⟩ := gd_s h
        refine va_sld hx hb hX hbl hbA hS (ix_in g136) dL_law_600 ?_
        refine lv_aload_n hx hb dL_law_601 rfl (lv_at hl 0 rfl) ?_
        refine lv_iload_n hx hb dL_law_602 rfl (lv_at hl 3 rfl) ?_
        refine lv_iconst (v := 2) hx hb dL_law_603 (by decide) ?_
        refine lv_iadd hx hb dL_law_604 ?_
        obtain ⟨g137, h⟩ := gd_s h
        refine va_sld hx hb hX hbl hbA hS (ix_in g137) dL_law_605 ?_
        obtain ⟨r139, z140, h138, h⟩ := bd_s h
        refine y_Vi (Rz := (r139, z140)) (As := [.int (xs (Int32.toNatClampNeg (v3 + 1))), .int (xs (Int32.toNatClampNeg (v3 + 2)))]) (rest := []) ⟨hx, hb, hml, hown, hts⟩ hK hP hS hAW (kd_lt k_0 (by decide)) (cell_11 k_0) rfl (m_X11_exchange hG   h138) (cwV 2 hts (gVb (fun _ h => LW_tbl h) lw_1090 lw_1091 lw_1092 lw_109 lw_1093) rfl rfl rfl (by decide +kernel) ⟨Nat.le_of_ble_eq_true rfl, Nat.le_of_ble_eq_true rfl⟩) rfl hl.1 rfl (Nat.le_of_ble_eq_true rfl) dL_law_606 ⟨Nat.le_refl _, Nat.le_refl _⟩ (fun H locs hP hS => ?_)
        refine lv_aload_n hx hb dL_law_609 rfl (lv_at hl 2 rfl) ?_
        refine lv_aload_n hx hb dL_law_610 rfl (lv_at hl 0 rfl) ?_
        refine lv_iload_n hx hb dL_law_611 rfl (lv_at hl 3 rfl) ?_
        refine lv_iconst (v := 1) hx hb dL_law_612 (by decide) ?_
        refine lv_iadd hx hb dL_law_613 ?_
        obtain ⟨g141, h⟩ := gd_s h
        refine va_sld hx hb hX hbl hbA hS (ix_in g141) dL_law_614 ?_
        refine lv_aload_n hx hb dL_law_615 rfl (lv_at hl 0 rfl) ?_
        refine lv_iload_n hx hb dL_law_616 rfl (lv_at hl 3 rfl) ?_
        refine lv_iconst (v := 2) hx hb dL_law_617 (by decide) ?_
        refine lv_iadd hx hb dL_law_618 ?_
        obtain ⟨g142, h⟩ := gd_s h
        refine va_sld hx hb hX hbl hbA hS (ix_in g142) dL_law_619 ?_
        obtain ⟨r144, z145, h143, h⟩ := bd_s h
        refine y_Vi (Rz := (r144, z145)) (As := [.int (xs (Int32.toNatClampNeg (v3 + 1))), .int (xs (Int32.toNatClampNeg (v3 + 2)))]) (rest := [.int r139]) ⟨hx, hb, hml, hown, hts⟩ hK hP hS hAW (kd_lt k_172 (by decide)) (cell_12 k_172) rfl (m_X12_exchange hG   h143) (cwV 2 hts (gVb (fun _ h => LW_tbl h) lw_1913 lw_1914 lw_1915 lw_125 lw_1916) rfl rfl rfl (by decide +kernel) ⟨Nat.le_of_ble_eq_true rfl, Nat.le_of_ble_eq_true rfl⟩) rfl hl.1 rfl (Nat.le_of_ble_eq_true rfl) dL_law_620 ⟨Nat.le_refl _, Nat.le_refl _⟩ (fun H locs hP hS => ?_)
        refine lv_icmp_eq (tgt := 1522) hx hb dL_law_623 (by decide) (fun c146 => ?_) (fun c146 => ?_)
        · rw [if_pos c146] at h
          exact pf_L_law_1522 C hR ih v3 z145  hP hS (lv_sub hl [0, 1, 2, 3] rfl) h
        · rw [if_neg c146] at h
          refine lv_iconst (v := 0) hx hb dL_law_626 (by decide) ?_
          exact absurd ((congrArg Prod.fst (Option.some.inj h)).trans hR) (show ¬ (0 : Int32) = 1 by decide)
      rw [if_neg c135] at h
      by_cases c147 : ((xs (Int32.toNatClampNeg v3)) &&& 63) = 12
      · rw [if_pos c147] at h
        refine lv_tableIn (off := 595) (tgt := 628) hx hb dL_law_33 (by rw [c147]; decide) (by rw [c147]; decide) (by rw [c147]; rfl) (by decide) ?_
        refine lv_aload_n hx hb dL_law_628 rfl (lv_at hl 1 rfl) ?_
        obtain ⟨r149, z150, h148, h⟩ := bd_s h
        refine y_Vi (Rz := (r149, z150)) (As := []) (rest := []) ⟨hx, hb, hml, hown, hts⟩ hK hP hS hAW (kd_lt k_0 (by decide)) (cell_11 k_0) rfl (m_X11_undo hG   h148) (cwV 0 hts (gVb (fun _ h => LW_tbl h) lw_1098 lw_1099 lw_1100 lw_109 lw_1101) rfl rfl rfl (by decide +kernel) ⟨Nat.le_of_ble_eq_true rfl, Nat.le_of_ble_eq_true rfl⟩) rfl hl.1 rfl (Nat.le_of_ble_eq_true rfl) dL_law_629 ⟨Nat.le_refl _, Nat.le_refl _⟩ (fun H locs hP hS => ?_)
        refine lv_aload_n hx hb dL_law_632 rfl (lv_at hl 2 rfl) ?_
        obtain ⟨r152, z153, h151, h⟩ := bd_s h
        refine y_Vi (Rz := (r152, z153)) (As := []) (rest := [.int r149]) ⟨hx, hb, hml, hown, hts⟩ hK hP hS hAW (kd_lt k_172 (by decide)) (cell_12 k_172) rfl (m_X12_undo hG   h151) (cwV 0 hts (gVb (fun _ h => LW_tbl h) lw_1917 lw_1918 lw_1919 lw_125 lw_1920) rfl rfl rfl (by decide +kernel) ⟨Nat.le_of_ble_eq_true rfl, Nat.le_of_ble_eq_true rfl⟩) rfl hl.1 rfl (Nat.le_of_ble_eq_true rfl) dL_law_633 ⟨Nat.le_refl _, Nat.le_refl _⟩ (fun H locs hP hS => ?_)
        refine lv_icmp_eq (tgt := 1522) hx hb dL_law_636 (by decide) (fun c154 => ?_) (fun c154 => ?_)
        · rw [if_pos c154] at h
          exact pf_L_law_1522 C hR ih v3 z153  hP hS (lv_sub hl [0, 1, 2, 3] rfl) h
        · rw [if_neg c154] at h
          refine lv_iconst (v := 0) hx hb dL_law_639 (by decide) ?_
          exact absurd ((congrArg Prod.fst (Option.some.inj h)).trans hR) (show ¬ (0 : Int32) = 1 by decide)
      rw [if_neg c147] at h
      by_cases c155 : ((xs (Int32.toNatClampNeg v3)) &&& 63) = 13
      · rw [if_pos c155] at h
        refine lv_tableIn (off := 608) (tgt := 641) hx hb dL_law_33 (by rw [c155]; decide) (by rw [c155]; decide) (by rw [c155]; rfl) (by decide) ?_
        refine lv_aload_n hx hb dL_law_641 rfl (lv_at hl 1 rfl) ?_
        obtain ⟨r157, z158, h156, h⟩ := bd_s h
        refine y_Vi (Rz := (r157, z158)) (As := []) (rest := []) ⟨hx, hb, hml, hown, hts⟩ hK hP hS hAW (kd_lt k_0 (by decide)) (cell_11 k_0) rfl (m_X11_redo hG   h156) (cwV 0 hts (gVb (fun _ h => LW_tbl h) lw_1118 lw_1119 lw_1120 lw_109 lw_1121) rfl rfl rfl (by decide +kernel) ⟨Nat.le_of_ble_eq_true rfl, Nat.le_of_ble_eq_true rfl⟩) rfl hl.1 rfl (Nat.le_of_ble_eq_true rfl) dL_law_642 ⟨Nat.le_refl _, Nat.le_refl _⟩ (fun H locs hP hS => ?_)
        refine lv_aload_n hx hb dL_law_645 rfl (lv_at hl 2 rfl) ?_
        obtain ⟨r160, z161, h159, h⟩ := bd_s h
        refine y_Vi (Rz := (r160, z161)) (As := []) (rest := [.int r157]) ⟨hx, hb, hml, hown, hts⟩ hK hP hS hAW (kd_lt k_172 (by decide)) (cell_12 k_172) rfl (m_X12_redo hG   h159) (cwV 0 hts (gVb (fun _ h => LW_tbl h) lw_1925 lw_1926 lw_1927 lw_125 lw_1928) rfl rfl rfl (by decide +kernel) ⟨Nat.le_of_ble_eq_true rfl, Nat.le_of_ble_eq_true rfl⟩) rfl hl.1 rfl (Nat.le_of_ble_eq_true rfl) dL_law_646 ⟨Nat.le_refl _, Nat.le_refl _⟩ (fun H locs hP hS => ?_)
        refine lv_icmp_eq (tgt := 1522) hx hb dL_law_649 (by decide) (fun c162 => ?_) (fun c162 => ?_)
        · rw [if_pos c162] at h
          exact pf_L_law_1522 C hR ih v3 z161  hP hS (lv_sub hl [0, 1, 2, 3] rfl) h
        · rw [if_neg c162] at h
          refine lv_iconst (v := 0) hx hb dL_law_652 (by decide) ?_
          exact absurd ((congrArg Prod.fst (Option.some.inj h)).trans hR) (show ¬ (0 : Int32) = 1 by decide)
      rw [if_neg c155] at h
      by_cases c163 : ((xs (Int32.toNatClampNeg v3)) &&& 63) = 14
      · rw [if_pos c163] at h
        refine lv_tableIn (off := 621) (tgt := 654) hx hb dL_law_33 (by rw [c163]; decide) (by rw [c163]; decide) (by rw [c163]; rfl) (by decide) ?_
        refine lv_aload_n hx hb dL_law_654 rfl (lv_at hl 1 rfl) ?_
        refine lv_aload_n hx hb dL_law_655 rfl (lv_at hl 0 rfl) ?_
        refine lv_iload_n hx hb dL_law_656 rfl (lv_at hl 3 rfl) ?_
        refine lv_iconst (v := 1) hx hb dL_law_657 (by decide) ?_
        refine lv_iadd hx hb dL_law_658 ?_
        obtain ⟨g164, h⟩ := gd_s h
        refine va_sld hx hb hX hbl hbA hS (ix_in g164) dL_law_659 ?_
        obtain ⟨r166, z167, h165, h⟩ := bd_s h
        refine y_Vi (Rz := (r166, z167)) (As := [.int (xs (Int32.toNatClampNeg (v3 + 1)))]) (rest := []) ⟨hx, hb, hml, hown, hts⟩ hK hP hS hAW (kd_lt k_0 (by decide)) (cell_11 k_0) rfl (m_X11_feeds hG   h165) (cwV 1 hts (gVb (fun _ h => LW_tbl h) lw_1126 lw_1127 lw_1128 lw_109 lw_1129) rfl rfl rfl (by decide +kernel) ⟨Nat.le_of_ble_eq_true rfl, Nat.le_of_ble_eq_true rfl⟩) rfl hl.1 rfl (Nat.le_of_ble_eq_true rfl) dL_law_660 ⟨Nat.le_refl _, Nat.le_refl _⟩ (fun H locs hP hS => ?_)
        refine lv_aload_n hx hb dL_law_663 rfl (lv_at hl 2 rfl) ?_
        refine lv_aload_n hx hb dL_law_664 rfl (lv_at hl 0 rfl) ?_
        refine lv_iload_n hx hb dL_law_665 rfl (lv_at hl 3 rfl) ?_
        refine lv_iconst (v := 1) hx hb dL_law_666 (by decide) ?_
        refine lv_iadd hx hb dL_law_667 ?_
        obtain ⟨g168, h⟩ := gd_s h
        refine va_sld hx hb hX hbl hbA hS (ix_in g168) dL_law_668 ?_
        obtain ⟨r170, z171, h169, h⟩ := bd_s h
        refine y_Vi (Rz := (r170, z171)) (As := [.int (xs (Int32.toNatClampNeg (v3 + 1)))]) (rest := [.int r166]) ⟨hx, hb, hml, hown, hts⟩ hK hP hS hAW (kd_lt k_172 (by decide)) (cell_12 k_172) rfl (m_X12_feeds hG   h169) (cwV 1 hts (gVb (fun _ h => LW_tbl h) lw_1929 lw_1930 lw_1931 lw_125 lw_1932) rfl rfl rfl (by decide +kernel) ⟨Nat.le_of_ble_eq_true rfl, Nat.le_of_ble_eq_true rfl⟩) rfl hl.1 rfl (Nat.le_of_ble_eq_true rfl) dL_law_669 ⟨Nat.le_refl _, Nat.le_refl _⟩ (fun H locs hP hS => ?_)
        refine lv_icmp_eq (tgt := 1522) hx hb dL_law_672 (by decide) (fun c172 => ?_) (fun c172 => ?_)
        · rw [if_pos c172] at h
          exact pf_L_law_1522 C hR ih v3 z171  hP hS (lv_sub hl [0, 1, 2, 3] rfl) h
        · rw [if_neg c172] at h
          refine lv_iconst (v := 0) hx hb dL_law_675 (by decide) ?_
          exact absurd ((congrArg Prod.fst (Option.some.inj h)).trans hR) (show ¬ (0 : Int32) = 1 by decide)
      rw [if_neg c163] at h
      by_cases c173 : ((xs (Int32.toNatClampNeg v3)) &&& 63) = 15
      · rw [if_pos c173] at h
        refine lv_tableIn (off := 644) (tgt := 677) hx hb dL_law_33 (by rw [c173]; decide) (by rw [c173]; decide) (by rw [c173]; rfl) (by decide) ?_
        refine lv_aload_n hx hb dL_law_677 rfl (lv_at hl 1 rfl) ?_
        obtain ⟨r175, z176, h174, h⟩ := bd_s h
        refine y_Vi (Rz := (r175, z176)) (As := []) (rest := []) ⟨hx, hb, hml, hown, hts⟩ hK hP hS hAW (kd_lt k_0 (by decide)) (cell_11 k_0) rfl (m_X11_served hG   h174) (cwV 0 hts (gVb (fun _ h => LW_tbl h) lw_1137 lw_1138 lw_1139 lw_109 lw_1140) rfl rfl rfl (by decide +kernel) ⟨Nat.le_of_ble_eq_true rfl, Nat.le_of_ble_eq_true rfl⟩) rfl hl.1 rfl (Nat.le_of_ble_eq_true rfl) dL_law_678 ⟨Nat.le_refl _, Nat.le_refl _⟩ (fun H locs hP hS => ?_)
        refine lv_aload_n hx hb dL_law_681 rfl (lv_at hl 2 rfl) ?_
        obtain ⟨r178, z179, h177, h⟩ := bd_s h
        refine y_Vi (Rz := (r178, z179)) (As := []) (rest := [.int r175]) ⟨hx, hb, hml, hown, hts⟩ hK hP hS hAW (kd_lt k_172 (by decide)) (cell_12 k_172) rfl (m_X12_served hG   h177) (cwV 0 hts (gVb (fun _ h => LW_tbl h) lw_1933 lw_1934 lw_1935 lw_125 lw_1936) rfl rfl rfl (by decide +kernel) ⟨Nat.le_of_ble_eq_true rfl, Nat.le_of_ble_eq_true rfl⟩) rfl hl.1 rfl (Nat.le_of_ble_eq_true rfl) dL_law_682 ⟨Nat.le_refl _, Nat.le_refl _⟩ (fun H locs hP hS => ?_)
        refine lv_icmp_eq (tgt := 1522) hx hb dL_law_685 (by decide) (fun c180 => ?_) (fun c180 => ?_)
        · rw [if_pos c180] at h
          exact pf_L_law_1522 C hR ih v3 z179  hP hS (lv_sub hl [0, 1, 2, 3] rfl) h
        · rw [if_neg c180] at h
          refine lv_iconst (v := 0) hx hb dL_law_688 (by decide) ?_
          exact absurd ((congrArg Prod.fst (Option.some.inj h)).trans hR) (show ¬ (0 : Int32) = 1 by decide)
      rw [if_neg c173] at h
      by_cases c181 : ((xs (Int32.toNatClampNeg v3)) &&& 63) = 16
      · rw [if_pos c181] at h
        refine lv_tableIn (off := 657) (tgt := 690) hx hb dL_law_33 (by rw [c181]; decide) (by rw [c181]; decide) (by rw [c181]; rfl) (by decide) ?_
        refine lv_aload_n hx hb dL_law_690 rfl (lv_at hl 1 rfl) ?_
        refine lv_aload_n hx hb dL_law_691 rfl (lv_at hl 0 rfl) ?_
        refine lv_iload_n hx hb dL_law_692 rfl (lv_at hl 3 rfl) ?_
        refine lv_iconst (v := 1) hx hb dL_law_693 (by decide) ?_
        refine lv_iadd hx hb dL_law_694 ?_
        obtain ⟨g182, h⟩ := gd_s h
        refine va_sld hx hb hX hbl hbA hS (ix_in g182) dL_law_695 ?_
        obtain ⟨r184, z185, h183, h⟩ := bd_s h
        refine y_Vi (Rz := (r184, z185)) (As := [.int (xs (Int32.toNatClampNeg (v3 + 1)))]) (rest := []) ⟨hx, hb, hml, hown, hts⟩ hK hP hS hAW (kd_lt k_0 (by decide)) (cell_11 k_0) rfl (m_X11_next hG   h183) (cwV 1 hts (gVb (fun _ h => LW_tbl h) lw_1162 lw_1163 lw_1164 lw_109 lw_1165) rfl rfl rfl (by decide +kernel) ⟨Nat.le_of_ble_eq_true rfl, Nat.le_of_ble_eq_true rfl⟩) rfl hl.1 rfl (Nat.le_of_ble_eq_true rfl) dL_law_696 ⟨Nat.le_refl _, Nat.le_refl _⟩ (fun H locs hP hS => ?_)
        refine lv_aload_n hx hb dL_law_699 rfl (lv_at hl 2 rfl) ?_
        refine lv_aload_n hx hb dL_law_700 rfl (lv_at hl 0 rfl) ?_
        refine lv_iload_n hx hb dL_law_701 rfl (lv_at hl 3 rfl) ?_
        refine lv_iconst (v := 1) hx hb dL_law_702 (by decide) ?_
        refine lv_iadd hx hb dL_law_703 ?_
        obtain ⟨g186, h⟩ := gd_s h
        refine va_sld hx hb hX hbl hbA hS (ix_in g186) dL_law_704 ?_
        obtain ⟨r188, z189, h187, h⟩ := bd_s h
        refine y_Vi (Rz := (r188, z189)) (As := [.int (xs (Int32.toNatClampNeg (v3 + 1)))]) (rest := [.int r184]) ⟨hx, hb, hml, hown, hts⟩ hK hP hS hAW (kd_lt k_172 (by decide)) (cell_12 k_172) rfl (m_X12_next hG   h187) (cwV 1 hts (gVb (fun _ h => LW_tbl h) lw_1944 lw_1945 lw_1946 lw_125 lw_1947) rfl rfl rfl (by decide +kernel) ⟨Nat.le_of_ble_eq_true rfl, Nat.le_of_ble_eq_true rfl⟩) rfl hl.1 rfl (Nat.le_of_ble_eq_true rfl) dL_law_705 ⟨Nat.le_refl _, Nat.le_refl _⟩ (fun H locs hP hS => ?_)
        refine lv_icmp_eq (tgt := 1522) hx hb dL_law_708 (by decide) (fun c190 => ?_) (fun c190 => ?_)
        · rw [if_pos c190] at h
          exact pf_L_law_1522 C hR ih v3 z189  hP hS (lv_sub hl [0, 1, 2, 3] rfl) h
        · rw [if_neg c190] at h
          refine lv_iconst (v := 0) hx hb dL_law_711 (by decide) ?_
          exact absurd ((congrArg Prod.fst (Option.some.inj h)).trans hR) (show ¬ (0 : Int32) = 1 by decide)
      rw [if_neg c181] at h
      by_cases c191 : ((xs (Int32.toNatClampNeg v3)) &&& 63) = 17
      · rw [if_pos c191] at h
        refine lv_tableIn (off := 680) (tgt := 713) hx hb dL_law_33 (by rw [c191]; decide) (by rw [c191]; decide) (by rw [c191]; rfl) (by decide) ?_
        refine lv_aload_n hx hb dL_law_713 rfl (lv_at hl 1 rfl) ?_
        refine lv_aload_n hx hb dL_law_714 rfl (lv_at hl 0 rfl) ?_
        refine lv_iload_n hx hb dL_law_715 rfl (lv_at hl 3 rfl) ?_
        refine lv_iconst (v := 1) hx hb dL_law_716 (by decide) ?_
        refine lv_iadd hx hb dL_law_717 ?_
        obtain ⟨g192, h⟩ := gd_s h
        refine va_sld hx hb hX hbl hbA hS (ix_in g192) dL_law_718 ?_
        obtain ⟨r194, z195, h193, h⟩ := bd_s h
        refine y_Vi (Rz := (r194, z195)) (As := [.int (xs (Int32.toNatClampNeg (v3 + 1)))]) (rest := []) ⟨hx, hb, hml, hown, hts⟩ hK hP hS hAW (kd_lt k_0 (by decide)) (cell_11 k_0) rfl (m_X11_envies hG   h193) (cwV 1 hts (gVb (fun _ h => LW_tbl h) lw_1193 lw_1194 lw_1195 lw_109 lw_1196) rfl rfl rfl (by decide +kernel) ⟨Nat.le_of_ble_eq_true rfl, Nat.le_of_ble_eq_true rfl⟩) rfl hl.1 rfl (Nat.le_of_ble_eq_true rfl) dL_law_719 ⟨Nat.le_refl _, Nat.le_refl _⟩ (fun H locs hP hS => ?_)
        refine lv_aload_n hx hb dL_law_722 rfl (lv_at hl 2 rfl) ?_
        refine lv_aload_n hx hb dL_law_723 rfl (lv_at hl 0 rfl) ?_
        refine lv_iload_n hx hb dL_law_724 rfl (lv_at hl 3 rfl) ?_
        refine lv_iconst (v := 1) hx hb dL_law_725 (by decide) ?_
        refine lv_iadd hx hb dL_law_726 ?_
        obtain ⟨g196, h⟩ := gd_s h
        refine va_sld hx hb hX hbl hbA hS (ix_in g196) dL_law_727 ?_
        obtain ⟨r198, z199, h197, h⟩ := bd_s h
        refine y_Vi (Rz := (r198, z199)) (As := [.int (xs (Int32.toNatClampNeg (v3 + 1)))]) (rest := [.int r194]) ⟨hx, hb, hml, hown, hts⟩ hK hP hS hAW (kd_lt k_172 (by decide)) (cell_12 k_172) rfl (m_X12_envies hG   h197) (cwV 1 hts (gVb (fun _ h => LW_tbl h) lw_1948 lw_1949 lw_1950 lw_125 lw_1951) rfl rfl rfl (by decide +kernel) ⟨Nat.le_of_ble_eq_true rfl, Nat.le_of_ble_eq_true rfl⟩) rfl hl.1 rfl (Nat.le_of_ble_eq_true rfl) dL_law_728 ⟨Nat.le_refl _, Nat.le_refl _⟩ (fun H locs hP hS => ?_)
        refine lv_icmp_eq (tgt := 1522) hx hb dL_law_731 (by decide) (fun c200 => ?_) (fun c200 => ?_)
        · rw [if_pos c200] at h
          exact pf_L_law_1522 C hR ih v3 z199  hP hS (lv_sub hl [0, 1, 2, 3] rfl) h
        · rw [if_neg c200] at h
          refine lv_iconst (v := 0) hx hb dL_law_734 (by decide) ?_
          exact absurd ((congrArg Prod.fst (Option.some.inj h)).trans hR) (show ¬ (0 : Int32) = 1 by decide)
      rw [if_neg c191] at h
      by_cases c201 : ((xs (Int32.toNatClampNeg v3)) &&& 63) = 18
      · rw [if_pos c201] at h
        refine lv_tableIn (off := 703) (tgt := 736) hx hb dL_law_33 (by rw [c201]; decide) (by rw [c201]; decide) (by rw [c201]; rfl) (by decide) ?_
        refine lv_aload_n hx hb dL_law_736 rfl (lv_at hl 1 rfl) ?_
        obtain ⟨r203, z204, h202, h⟩ := bd_s h
        refine y_Vi (Rz := (r203, z204)) (As := []) (rest := []) ⟨hx, hb, hml, hown, hts⟩ hK hP hS hAW (kd_lt k_0 (by decide)) (cell_11 k_0) rfl (m_X11_quarrel hG   h202) (cwV 0 hts (gVb (fun _ h => LW_tbl h) lw_1202 lw_1203 lw_1204 lw_109 lw_1205) rfl rfl rfl (by decide +kernel) ⟨Nat.le_of_ble_eq_true rfl, Nat.le_of_ble_eq_true rfl⟩) rfl hl.1 rfl (Nat.le_of_ble_eq_true rfl) dL_law_737 ⟨Nat.le_refl _, Nat.le_refl _⟩ (fun H locs hP hS => ?_)
        refine lv_aload_n hx hb dL_law_740 rfl (lv_at hl 2 rfl) ?_
        obtain ⟨r206, z207, h205, h⟩ := bd_s h
        refine y_Vi (Rz := (r206, z207)) (As := []) (rest := [.int r203]) ⟨hx, hb, hml, hown, hts⟩ hK hP hS hAW (kd_lt k_172 (by decide)) (cell_12 k_172) rfl (m_X12_quarrel hG   h205) (cwV 0 hts (gVb (fun _ h => LW_tbl h) lw_1960 lw_1961 lw_1962 lw_125 lw_1963) rfl rfl rfl (by decide +kernel) ⟨Nat.le_of_ble_eq_true rfl, Nat.le_of_ble_eq_true rfl⟩) rfl hl.1 rfl (Nat.le_of_ble_eq_true rfl) dL_law_741 ⟨Nat.le_refl _, Nat.le_refl _⟩ (fun H locs hP hS => ?_)
        refine lv_icmp_eq (tgt := 1522) hx hb dL_law_744 (by decide) (fun c208 => ?_) (fun c208 => ?_)
        · rw [if_pos c208] at h
          exact pf_L_law_1522 C hR ih v3 z207  hP hS (lv_sub hl [0, 1, 2, 3] rfl) h
        · rw [if_neg c208] at h
          refine lv_iconst (v := 0) hx hb dL_law_747 (by decide) ?_
          exact absurd ((congrArg Prod.fst (Option.some.inj h)).trans hR) (show ¬ (0 : Int32) = 1 by decide)
      rw [if_neg c201] at h
      by_cases c209 : ((xs (Int32.toNatClampNeg v3)) &&& 63) = 19
      · rw [if_pos c209] at h
        refine lv_tableIn (off := 716) (tgt := 749) hx hb dL_law_33 (by rw [c209]; decide) (by rw [c209]; decide) (by rw [c209]; rfl) (by decide) ?_
        refine lv_aload_n hx hb dL_law_749 rfl (lv_at hl 1 rfl) ?_
        refine lv_aload_n hx hb dL_law_750 rfl (lv_at hl 0 rfl) ?_
        refine lv_iload_n hx hb dL_law_751 rfl (lv_at hl 3 rfl) ?_
        refine lv_iconst (v := 1) hx hb dL_law_752 (by decide) ?_
        refine lv_iadd hx hb dL_law_753 ?_
        obtain ⟨g210, h⟩ := gd_s h
        refine va_sld hx hb hX hbl hbA hS (ix_in g210) dL_law_754 ?_
        obtain ⟨r212, z213, h211, h⟩ := bd_s h
        refine y_Vi (Rz := (r212, z213)) (As := [.int (xs (Int32.toNatClampNeg (v3 + 1)))]) (rest := []) ⟨hx, hb, hml, hown, hts⟩ hK hP hS hAW (kd_lt k_0 (by decide)) (cell_11 k_0) rfl (m_X11_calm hG   h211) (cwV 1 hts (gVb (fun _ h => LW_tbl h) lw_1212 lw_1213 lw_1214 lw_109 lw_1215) rfl rfl rfl (by decide +kernel) ⟨Nat.le_of_ble_eq_true rfl, Nat.le_of_ble_eq_true rfl⟩) rfl hl.1 rfl (Nat.le_of_ble_eq_true rfl) dL_law_755 ⟨Nat.le_refl _, Nat.le_refl _⟩ (fun H locs hP hS => ?_)
        refine lv_aload_n hx hb dL_law_758 rfl (lv_at hl 2 rfl) ?_
        refine lv_aload_n hx hb dL_law_759 rfl (lv_at hl 0 rfl) ?_
        refine lv_iload_n hx hb dL_law_760 rfl (lv_at hl 3 rfl) ?_
        refine lv_iconst (v := 1) hx hb dL_law_761 (by decide) ?_
        refine lv_iadd hx hb dL_law_762 ?_
        obtain ⟨g214, h⟩ := gd_s h
        refine va_sld hx hb hX hbl hbA hS (ix_in g214) dL_law_763 ?_
        obtain ⟨r216, z217, h215, h⟩ := bd_s h
        refine y_Vi (Rz := (r216, z217)) (As := [.int (xs (Int32.toNatClampNeg (v3 + 1)))]) (rest := [.int r212]) ⟨hx, hb, hml, hown, hts⟩ hK hP hS hAW (kd_lt k_172 (by decide)) (cell_12 k_172) rfl (m_X12_calm hG   h215) (cwV 1 hts (gVb (fun _ h => LW_tbl h) lw_1968 lw_1969 lw_1970 lw_125 lw_1971) rfl rfl rfl (by decide +kernel) ⟨Nat.le_of_ble_eq_true rfl, Nat.le_of_ble_eq_true rfl⟩) rfl hl.1 rfl (Nat.le_of_ble_eq_true rfl) dL_law_764 ⟨Nat.le_refl _, Nat.le_refl _⟩ (fun H locs hP hS => ?_)
        refine lv_icmp_eq (tgt := 1522) hx hb dL_law_767 (by decide) (fun c218 => ?_) (fun c218 => ?_)
        · rw [if_pos c218] at h
          exact pf_L_law_1522 C hR ih v3 z217  hP hS (lv_sub hl [0, 1, 2, 3] rfl) h
        · rw [if_neg c218] at h
          refine lv_iconst (v := 0) hx hb dL_law_770 (by decide) ?_
          exact absurd ((congrArg Prod.fst (Option.some.inj h)).trans hR) (show ¬ (0 : Int32) = 1 by decide)
      rw [if_neg c209] at h
      by_cases c219 : ((xs (Int32.toNatClampNeg v3)) &&& 63) = 20
      · rw [if_pos c219] at h
        refine lv_tableIn (off := 739) (tgt := 772) hx hb dL_law_33 (by rw [c219]; decide) (by rw [c219]; decide) (by rw [c219]; rfl) (by decide) ?_
        refine lv_aload_n hx hb dL_law_772 rfl (lv_at hl 1 rfl) ?_
        refine lv_aload_n hx hb dL_law_773 rfl (lv_at hl 0 rfl) ?_
        refine lv_iload_n hx hb dL_law_774 rfl (lv_at hl 3 rfl) ?_
        refine lv_iconst (v := 1) hx hb dL_law_775 (by decide) ?_
        refine lv_iadd hx hb dL_law_776 ?_
        obtain ⟨g220, h⟩ := gd_s h
        refine va_sld hx hb hX hbl hbA hS (ix_in g220) dL_law_777 ?_
        refine lv_aload_n hx hb dL_law_778 rfl (lv_at hl 0 rfl) ?_
        refine lv_iload_n hx hb dL_law_779 rfl (lv_at hl 3 rfl) ?_
        refine lv_iconst (v := 2) hx hb dL_law_780 (by decide) ?_
        refine lv_iadd hx hb dL_law_781 ?_
        obtain ⟨g221, h⟩ := gd_s h
        refine va_sld hx hb hX hbl hbA hS (ix_in g221) dL_law_782 ?_
        refine lv_aload_n hx hb dL_law_783 rfl (lv_at hl 0 rfl) ?_
        refine lv_iload_n hx hb dL_law_784 rfl (lv_at hl 3 rfl) ?_
        refine lv_iconst (v := 3) hx hb dL_law_785 (by decide) ?_
        refine lv_iadd hx hb dL_law_786 ?_
        obtain ⟨g222, h⟩ := gd_s h
        refine va_sld hx hb hX hbl hbA hS (ix_in g222) dL_law_787 ?_
        refine lv_aload_n hx hb dL_law_788 rfl (lv_at hl 0 rfl) ?_
        refine lv_iload_n hx hb dL_law_789 rfl (lv_at hl 3 rfl) ?_
        refine lv_iconst (v := 4) hx hb dL_law_790 (by decide) ?_
        refine lv_iadd hx hb dL_law_791 ?_
        obtain ⟨g223, h⟩ := gd_s h
        refine va_sld hx hb hX hbl hbA hS (ix_in g223) dL_law_792 ?_
        obtain ⟨r225, z226, h224, h⟩ := bd_s h
        refine y_Vi (Rz := (r225, z226)) (As := [.int (xs (Int32.toNatClampNeg (v3 + 1))), .int (xs (Int32.toNatClampNeg (v3 + 2))), .int (xs (Int32.toNatClampNeg (v3 + 3))), .int (xs (Int32.toNatClampNeg (v3 + 4)))]) (rest := []) ⟨hx, hb, hml, hown, hts⟩ hK hP hS hAW (kd_lt k_0 (by decide)) (cell_11 k_0) rfl (m_X11_halve hG   h224) (cwV 4 hts (gVb (fun _ h => LW_tbl h) lw_1227 lw_1228 lw_1229 lw_109 lw_1230) rfl rfl rfl (by decide +kernel) ⟨Nat.le_of_ble_eq_true rfl, Nat.le_of_ble_eq_true rfl⟩) rfl hl.1 rfl (Nat.le_of_ble_eq_true rfl) dL_law_793 ⟨Nat.le_refl _, Nat.le_refl _⟩ (fun H locs hP hS => ?_)
        refine lv_aload_n hx hb dL_law_796 rfl (lv_at hl 2 rfl) ?_
        refine lv_aload_n hx hb dL_law_797 rfl (lv_at hl 0 rfl) ?_
        refine lv_iload_n hx hb dL_law_798 rfl (lv_at hl 3 rfl) ?_
        refine lv_iconst (v := 1) hx hb dL_law_799 (by decide) ?_
        refine lv_iadd hx hb dL_law_800 ?_
        obtain ⟨g227, h⟩ := gd_s h
        refine va_sld hx hb hX hbl hbA hS (ix_in g227) dL_law_801 ?_
        refine lv_aload_n hx hb dL_law_802 rfl (lv_at hl 0 rfl) ?_
        refine lv_iload_n hx hb dL_law_803 rfl (lv_at hl 3 rfl) ?_
        refine lv_iconst (v := 2) hx hb dL_law_804 (by decide) ?_
        refine lv_iadd hx hb dL_law_805 ?_
        obtain ⟨g228, h⟩ := gd_s h
        refine va_sld hx hb hX hbl hbA hS (ix_in g228) dL_law_806 ?_
        refine lv_aload_n hx hb dL_law_807 rfl (lv_at hl 0 rfl) ?_
        refine lv_iload_n hx hb dL_law_808 rfl (lv_at hl 3 rfl) ?_
        refine lv_iconst (v := 3) hx hb dL_law_809 (by decide) ?_
        refine lv_iadd hx hb dL_law_810 ?_
        obtain ⟨g229, h⟩ := gd_s h
        refine va_sld hx hb hX hbl hbA hS (ix_in g229) dL_law_811 ?_
        refine lv_aload_n hx hb dL_law_812 rfl (lv_at hl 0 rfl) ?_
        refine lv_iload_n hx hb dL_law_813 rfl (lv_at hl 3 rfl) ?_
        refine lv_iconst (v := 4) hx hb dL_law_814 (by decide) ?_
        refine lv_iadd hx hb dL_law_815 ?_
        obtain ⟨g230, h⟩ := gd_s h
        refine va_sld hx hb hX hbl hbA hS (ix_in g230) dL_law_816 ?_
        obtain ⟨r232, z233, h231, h⟩ := bd_s h
        refine y_Vi (Rz := (r232, z233)) (As := [.int (xs (Int32.toNatClampNeg (v3 + 1))), .int (xs (Int32.toNatClampNeg (v3 + 2))), .int (xs (Int32.toNatClampNeg (v3 + 3))), .int (xs (Int32.toNatClampNeg (v3 + 4)))]) (rest := [.int r225]) ⟨hx, hb, hml, hown, hts⟩ hK hP hS hAW (kd_lt k_172 (by decide)) (cell_12 k_172) rfl (m_X12_halve hG   h231) (cwV 4 hts (gVb (fun _ h => LW_tbl h) lw_1972 lw_1973 lw_1974 lw_125 lw_1975) rfl rfl rfl (by decide +kernel) ⟨Nat.le_of_ble_eq_true rfl, Nat.le_of_ble_eq_true rfl⟩) rfl hl.1 rfl (Nat.le_of_ble_eq_true rfl) dL_law_817 ⟨Nat.le_refl _, Nat.le_refl _⟩ (fun H locs hP hS => ?_)
        refine lv_icmp_eq (tgt := 1522) hx hb dL_law_820 (by decide) (fun c234 => ?_) (fun c234 => ?_)
        · rw [if_pos c234] at h
          exact pf_L_law_1522 C hR ih v3 z233  hP hS (lv_sub hl [0, 1, 2, 3] rfl) h
        · rw [if_neg c234] at h
          refine lv_iconst (v := 0) hx hb dL_law_823 (by decide) ?_
          exact absurd ((congrArg Prod.fst (Option.some.inj h)).trans hR) (show ¬ (0 : Int32) = 1 by decide)
      rw [if_neg c219] at h
      by_cases c235 : ((xs (Int32.toNatClampNeg v3)) &&& 63) = 21
      · rw [if_pos c235] at h
        refine lv_tableIn (off := 792) (tgt := 825) hx hb dL_law_33 (by rw [c235]; decide) (by rw [c235]; decide) (by rw [c235]; rfl) (by decide) ?_
        refine lv_aload_n hx hb dL_law_825 rfl (lv_at hl 1 rfl) ?_
        refine lv_aload_n hx hb dL_law_826 rfl (lv_at hl 0 rfl) ?_
        refine lv_iload_n hx hb dL_law_827 rfl (lv_at hl 3 rfl) ?_
        refine lv_iconst (v := 1) hx hb dL_law_828 (by decide) ?_
        refine lv_iadd hx hb dL_law_829 ?_
        obtain ⟨g236, h⟩ := gd_s h
        refine va_sld hx hb hX hbl hbA hS (ix_in g236) dL_law_830 ?_
        refine lv_aload_n hx hb dL_law_831 rfl (lv_at hl 0 rfl) ?_
        refine lv_iload_n hx hb dL_law_832 rfl (lv_at hl 3 rfl) ?_
        refine lv_iconst (v := 2) hx hb dL_law_833 (by decide) ?_
        refine lv_iadd hx hb dL_law_834 ?_
        obtain ⟨g237, h⟩ := gd_s h
        refine va_sld hx hb hX hbl hbA hS (ix_in g237) dL_law_835 ?_
        refine lv_aload_n hx hb dL_law_836 rfl (lv_at hl 0 rfl) ?_
        refine lv_iload_n hx hb dL_law_837 rfl (lv_at hl 3 rfl) ?_
        refine lv_iconst (v := 3) hx hb dL_law_838 (by decide) ?_
        refine lv_iadd hx hb dL_law_839 ?_
        obtain ⟨g238, h⟩ := gd_s h
        refine va_sld hx hb hX hbl hbA hS (ix_in g238) dL_law_840 ?_
        obtain ⟨r240, z241, h239, h⟩ := bd_s h
        refine y_Vi (Rz := (r240, z241)) (As := [.int (xs (Int32.toNatClampNeg (v3 + 1))), .int (xs (Int32.toNatClampNeg (v3 + 2))), .int (xs (Int32.toNatClampNeg (v3 + 3)))]) (rest := []) ⟨hx, hb, hml, hown, hts⟩ hK hP hS hAW (kd_lt k_0 (by decide)) (cell_11 k_0) rfl (m_X11_share hG   h239) (cwV 3 hts (gVb (fun _ h => LW_tbl h) lw_1241 lw_1242 lw_1243 lw_109 lw_1244) rfl rfl rfl (by decide +kernel) ⟨Nat.le_of_ble_eq_true rfl, Nat.le_of_ble_eq_true rfl⟩) rfl hl.1 rfl (Nat.le_of_ble_eq_true rfl) dL_law_841 ⟨Nat.le_refl _, Nat.le_refl _⟩ (fun H locs hP hS => ?_)
        refine lv_aload_n hx hb dL_law_844 rfl (lv_at hl 2 rfl) ?_
        refine lv_aload_n hx hb dL_law_845 rfl (lv_at hl 0 rfl) ?_
        refine lv_iload_n hx hb dL_law_846 rfl (lv_at hl 3 rfl) ?_
        refine lv_iconst (v := 1) hx hb dL_law_847 (by decide) ?_
        refine lv_iadd hx hb dL_law_848 ?_
        obtain ⟨g242, h⟩ := gd_s h
        refine va_sld hx hb hX hbl hbA hS (ix_in g242) dL_law_849 ?_
        refine lv_aload_n hx hb dL_law_850 rfl (lv_at hl 0 rfl) ?_
        refine lv_iload_n hx hb dL_law_851 rfl (lv_at hl 3 rfl) ?_
        refine lv_iconst (v := 2) hx hb dL_law_852 (by decide) ?_
        refine lv_iadd hx hb dL_law_853 ?_
        obtain ⟨g243, h⟩ := gd_s h
        refine va_sld hx hb hX hbl hbA hS (ix_in g243) dL_law_854 ?_
        refine lv_aload_n hx hb dL_law_855 rfl (lv_at hl 0 rfl) ?_
        refine lv_iload_n hx hb dL_law_856 rfl (lv_at hl 3 rfl) ?_
        refine lv_iconst (v := 3) hx hb dL_law_857 (by decide) ?_
        refine lv_iadd hx hb dL_law_858 ?_
        obtain ⟨g244, h⟩ := gd_s h
        refine va_sld hx hb hX hbl hbA hS (ix_in g244) dL_law_859 ?_
        obtain ⟨r246, z247, h245, h⟩ := bd_s h
        refine y_Vi (Rz := (r246, z247)) (As := [.int (xs (Int32.toNatClampNeg (v3 + 1))), .int (xs (Int32.toNatClampNeg (v3 + 2))), .int (xs (Int32.toNatClampNeg (v3 + 3)))]) (rest := [.int r240]) ⟨hx, hb, hml, hown, hts⟩ hK hP hS hAW (kd_lt k_172 (by decide)) (cell_12 k_172) rfl (m_X12_share hG   h245) (cwV 3 hts (gVb (fun _ h => LW_tbl h) lw_1984 lw_1985 lw_1986 lw_125 lw_1987) rfl rfl rfl (by decide +kernel) ⟨Nat.le_of_ble_eq_true rfl, Nat.le_of_ble_eq_true rfl⟩) rfl hl.1 rfl (Nat.le_of_ble_eq_true rfl) dL_law_860 ⟨Nat.le_refl _, Nat.le_refl _⟩ (fun H locs hP hS => ?_)
        refine lv_icmp_eq (tgt := 1522) hx hb dL_law_863 (by decide) (fun c248 => ?_) (fun c248 => ?_)
        · rw [if_pos c248] at h
          exact pf_L_law_1522 C hR ih v3 z247  hP hS (lv_sub hl [0, 1, 2, 3] rfl) h
        · rw [if_neg c248] at h
          refine lv_iconst (v := 0) hx hb dL_law_866 (by decide) ?_
          exact absurd ((congrArg Prod.fst (Option.some.inj h)).trans hR) (show ¬ (0 : Int32) = 1 by decide)
      rw [if_neg c235] at h
      by_cases c249 : ((xs (Int32.toNatClampNeg v3)) &&& 63) = 22
      · rw [if_pos c249] at h
        refine lv_tableIn (off := 835) (tgt := 868) hx hb dL_law_33 (by rw [c249]; decide) (by rw [c249]; decide) (by rw [c249]; rfl) (by decide) ?_
        refine lv_aload_n hx hb dL_law_868 rfl (lv_at hl 1 rfl) ?_
        obtain ⟨r251, z252, h250, h⟩ := bd_s h
        refine y_Vi (Rz := (r251, z252)) (As := []) (rest := []) ⟨hx, hb, hml, hown, hts⟩ hK hP hS hAW (kd_lt k_0 (by decide)) (cell_11 k_0) rfl (m_X11_picks hG   h250) (cwV 0 hts (gVb (fun _ h => LW_tbl h) lw_1245 lw_1246 lw_1247 lw_109 lw_1248) rfl rfl rfl (by decide +kernel) ⟨Nat.le_of_ble_eq_true rfl, Nat.le_of_ble_eq_true rfl⟩) rfl hl.1 rfl (Nat.le_of_ble_eq_true rfl) dL_law_869 ⟨Nat.le_refl _, Nat.le_refl _⟩ (fun H locs hP hS => ?_)
        refine lv_aload_n hx hb dL_law_872 rfl (lv_at hl 2 rfl) ?_
        obtain ⟨r254, z255, h253, h⟩ := bd_s h
        refine y_Vi (Rz := (r254, z255)) (As := []) (rest := [.int r251]) ⟨hx, hb, hml, hown, hts⟩ hK hP hS hAW (kd_lt k_172 (by decide)) (cell_12 k_172) rfl (m_X12_picks hG   h253) (cwV 0 hts (gVb (fun _ h => LW_tbl h) lw_1988 lw_1989 lw_1990 lw_125 lw_1991) rfl rfl rfl (by decide +kernel) ⟨Nat.le_of_ble_eq_true rfl, Nat.le_of_ble_eq_true rfl⟩) rfl hl.1 rfl (Nat.le_of_ble_eq_true rfl) dL_law_873 ⟨Nat.le_refl _, Nat.le_refl _⟩ (fun H locs hP hS => ?_)
        refine lv_icmp_eq (tgt := 1522) hx hb dL_law_876 (by decide) (fun c256 => ?_) (fun c256 => ?_)
        · rw [if_pos c256] at h
          exact pf_L_law_1522 C hR ih v3 z255  hP hS (lv_sub hl [0, 1, 2, 3] rfl) h
        · rw [if_neg c256] at h
          refine lv_iconst (v := 0) hx hb dL_law_879 (by decide) ?_
          exact absurd ((congrArg Prod.fst (Option.some.inj h)).trans hR) (show ¬ (0 : Int32) = 1 by decide)
      rw [if_neg c249] at h
      by_cases c257 : ((xs (Int32.toNatClampNeg v3)) &&& 63) = 23
      · rw [if_pos c257] at h
        refine lv_tableIn (off := 848) (tgt := 881) hx hb dL_law_33 (by rw [c257]; decide) (by rw [c257]; decide) (by rw [c257]; rfl) (by decide) ?_
        refine lv_aload_n hx hb dL_law_881 rfl (lv_at hl 1 rfl) ?_
        obtain ⟨r259, z260, h258, h⟩ := bd_s h
        refine y_Vi (Rz := (r259, z260)) (As := []) (rest := []) ⟨hx, hb, hml, hown, hts⟩ hK hP hS hAW (kd_lt k_0 (by decide)) (cell_11 k_0) rfl (m_X11_order hG   h258) (cwV 0 hts (gVb (fun _ h => LW_tbl h) lw_1267 lw_1268 lw_1269 lw_109 lw_1270) rfl rfl rfl (by decide +kernel) ⟨Nat.le_of_ble_eq_true rfl, Nat.le_of_ble_eq_true rfl⟩) rfl hl.1 rfl (Nat.le_of_ble_eq_true rfl) dL_law_882 ⟨Nat.le_refl _, Nat.le_refl _⟩ (fun H locs hP hS => ?_)
        refine lv_aload_n hx hb dL_law_885 rfl (lv_at hl 2 rfl) ?_
        obtain ⟨r262, z263, h261, h⟩ := bd_s h
        refine y_Vi (Rz := (r262, z263)) (As := []) (rest := [.int r259]) ⟨hx, hb, hml, hown, hts⟩ hK hP hS hAW (kd_lt k_172 (by decide)) (cell_12 k_172) rfl (m_X12_order hG   h261) (cwV 0 hts (gVb (fun _ h => LW_tbl h) lw_2000 lw_2001 lw_2002 lw_125 lw_2003) rfl rfl rfl (by decide +kernel) ⟨Nat.le_of_ble_eq_true rfl, Nat.le_of_ble_eq_true rfl⟩) rfl hl.1 rfl (Nat.le_of_ble_eq_true rfl) dL_law_886 ⟨Nat.le_refl _, Nat.le_refl _⟩ (fun H locs hP hS => ?_)
        refine lv_icmp_eq (tgt := 1522) hx hb dL_law_889 (by decide) (fun c264 => ?_) (fun c264 => ?_)
        · rw [if_pos c264] at h
          exact pf_L_law_1522 C hR ih v3 z263  hP hS (lv_sub hl [0, 1, 2, 3] rfl) h
        · rw [if_neg c264] at h
          refine lv_iconst (v := 0) hx hb dL_law_892 (by decide) ?_
          exact absurd ((congrArg Prod.fst (Option.some.inj h)).trans hR) (show ¬ (0 : Int32) = 1 by decide)
      rw [if_neg c257] at h
      by_cases c265 : ((xs (Int32.toNatClampNeg v3)) &&& 63) = 24
      · rw [if_pos c265] at h
        refine lv_tableIn (off := 861) (tgt := 894) hx hb dL_law_33 (by rw [c265]; decide) (by rw [c265]; decide) (by rw [c265]; rfl) (by decide) ?_
        refine lv_aload_n hx hb dL_law_894 rfl (lv_at hl 1 rfl) ?_
        refine lv_aload_n hx hb dL_law_895 rfl (lv_at hl 0 rfl) ?_
        refine lv_iload_n hx hb dL_law_896 rfl (lv_at hl 3 rfl) ?_
        refine lv_iconst (v := 1) hx hb dL_law_897 (by decide) ?_
        refine lv_iadd hx hb dL_law_898 ?_
        obtain ⟨g266, h⟩ := gd_s h
        refine va_sld hx hb hX hbl hbA hS (ix_in g266) dL_law_899 ?_
        refine lv_aload_n hx hb dL_law_900 rfl (lv_at hl 0 rfl) ?_
        refine lv_iload_n hx hb dL_law_901 rfl (lv_at hl 3 rfl) ?_
        refine lv_iconst (v := 2) hx hb dL_law_902 (by decide) ?_
        refine lv_iadd hx hb dL_law_903 ?_
        obtain ⟨g267, h⟩ := gd_s h
        refine va_sld hx hb hX hbl hbA hS (ix_in g267) dL_law_904 ?_
        refine lv_aload_n hx hb dL_law_905 rfl (lv_at hl 0 rfl) ?_
        refine lv_iload_n hx hb dL_law_906 rfl (lv_at hl 3 rfl) ?_
        refine lv_iconst (v := 3) hx hb dL_law_907 (by decide) ?_
        refine lv_iadd hx hb dL_law_908 ?_
        obtain ⟨g268, h⟩ := gd_s h
        refine va_sld hx hb hX hbl hbA hS (ix_in g268) dL_law_909 ?_
        obtain ⟨r270, z271, h269, h⟩ := bd_s h
        refine y_Vi (Rz := (r270, z271)) (As := [.int (xs (Int32.toNatClampNeg (v3 + 1))), .int (xs (Int32.toNatClampNeg (v3 + 2))), .int (xs (Int32.toNatClampNeg (v3 + 3)))]) (rest := []) ⟨hx, hb, hml, hown, hts⟩ hK hP hS hAW (kd_lt k_0 (by decide)) (cell_11 k_0) rfl (m_X11_grid hG   h269) (cwV 3 hts (gVb (fun _ h => LW_tbl h) lw_1289 lw_1290 lw_1291 lw_109 lw_1292) rfl rfl rfl (by decide +kernel) ⟨Nat.le_of_ble_eq_true rfl, Nat.le_of_ble_eq_true rfl⟩) rfl hl.1 rfl (Nat.le_of_ble_eq_true rfl) dL_law_910 ⟨Nat.le_refl _, Nat.le_refl _⟩ (fun H locs hP hS => ?_)
        refine lv_aload_n hx hb dL_law_913 rfl (lv_at hl 2 rfl) ?_
        refine lv_aload_n hx hb dL_law_914 rfl (lv_at hl 0 rfl) ?_
        refine lv_iload_n hx hb dL_law_915 rfl (lv_at hl 3 rfl) ?_
        refine lv_iconst (v := 1) hx hb dL_law_916 (by decide) ?_
        refine lv_iadd hx hb dL_law_917 ?_
        obtain ⟨g272, h⟩ := gd_s h
        refine va_sld hx hb hX hbl hbA hS (ix_in g272) dL_law_918 ?_
        refine lv_aload_n hx hb dL_law_919 rfl (lv_at hl 0 rfl) ?_
        refine lv_iload_n hx hb dL_law_920 rfl (lv_at hl 3 rfl) ?_
        refine lv_iconst (v := 2) hx hb dL_law_921 (by decide) ?_
        refine lv_iadd hx hb dL_law_922 ?_
        obtain ⟨g273, h⟩ := gd_s h
        refine va_sld hx hb hX hbl hbA hS (ix_in g273) dL_law_923 ?_
        refine lv_aload_n hx hb dL_law_924 rfl (lv_at hl 0 rfl) ?_
        refine lv_iload_n hx hb dL_law_925 rfl (lv_at hl 3 rfl) ?_
        refine lv_iconst (v := 3) hx hb dL_law_926 (by decide) ?_
        refine lv_iadd hx hb dL_law_927 ?_
        obtain ⟨g274, h⟩ := gd_s h
        refine va_sld hx hb hX hbl hbA hS (ix_in g274) dL_law_928 ?_
        obtain ⟨r276, z277, h275, h⟩ := bd_s h
        refine y_Vi (Rz := (r276, z277)) (As := [.int (xs (Int32.toNatClampNeg (v3 + 1))), .int (xs (Int32.toNatClampNeg (v3 + 2))), .int (xs (Int32.toNatClampNeg (v3 + 3)))]) (rest := [.int r270]) ⟨hx, hb, hml, hown, hts⟩ hK hP hS hAW (kd_lt k_172 (by decide)) (cell_12 k_172) rfl (m_X12_grid hG   h275) (cwV 3 hts (gVb (fun _ h => LW_tbl h) lw_2012 lw_2013 lw_2014 lw_125 lw_2015) rfl rfl rfl (by decide +kernel) ⟨Nat.le_of_ble_eq_true rfl, Nat.le_of_ble_eq_true rfl⟩) rfl hl.1 rfl (Nat.le_of_ble_eq_true rfl) dL_law_929 ⟨Nat.le_refl _, Nat.le_refl _⟩ (fun H locs hP hS => ?_)
        refine lv_icmp_eq (tgt := 1522) hx hb dL_law_932 (by decide) (fun c278 => ?_) (fun c278 => ?_)
        · rw [if_pos c278] at h
          exact pf_L_law_1522 C hR ih v3 z277  hP hS (lv_sub hl [0, 1, 2, 3] rfl) h
        · rw [if_neg c278] at h
          refine lv_iconst (v := 0) hx hb dL_law_935 (by decide) ?_
          exact absurd ((congrArg Prod.fst (Option.some.inj h)).trans hR) (show ¬ (0 : Int32) = 1 by decide)
      rw [if_neg c265] at h
      by_cases c279 : ((xs (Int32.toNatClampNeg v3)) &&& 63) = 25
      · rw [if_pos c279] at h
        refine lv_tableIn (off := 904) (tgt := 937) hx hb dL_law_33 (by rw [c279]; decide) (by rw [c279]; decide) (by rw [c279]; rfl) (by decide) ?_
        refine lv_aload_n hx hb dL_law_937 rfl (lv_at hl 1 rfl) ?_
        refine lv_aload_n hx hb dL_law_938 rfl (lv_at hl 0 rfl) ?_
        refine lv_iload_n hx hb dL_law_939 rfl (lv_at hl 3 rfl) ?_
        refine lv_iconst (v := 1) hx hb dL_law_940 (by decide) ?_
        refine lv_iadd hx hb dL_law_941 ?_
        obtain ⟨g280, h⟩ := gd_s h
        refine va_sld hx hb hX hbl hbA hS (ix_in g280) dL_law_942 ?_
        refine lv_aload_n hx hb dL_law_943 rfl (lv_at hl 0 rfl) ?_
        refine lv_iload_n hx hb dL_law_944 rfl (lv_at hl 3 rfl) ?_
        refine lv_iconst (v := 2) hx hb dL_law_945 (by decide) ?_
        refine lv_iadd hx hb dL_law_946 ?_
        obtain ⟨g281, h⟩ := gd_s h
        refine va_sld hx hb hX hbl hbA hS (ix_in g281) dL_law_947 ?_
        obtain ⟨r283, z284, h282, h⟩ := bd_s h
        refine y_Vi (Rz := (r283, z284)) (As := [.int (xs (Int32.toNatClampNeg (v3 + 1))), .int (xs (Int32.toNatClampNeg (v3 + 2)))]) (rest := []) ⟨hx, hb, hml, hown, hts⟩ hK hP hS hAW (kd_lt k_0 (by decide)) (cell_11 k_0) rfl (m_X11_ways hG   h282) (cwV 2 hts (gVb (fun _ h => LW_tbl h) lw_1313 lw_1314 lw_1315 lw_109 lw_1316) rfl rfl rfl (by decide +kernel) ⟨Nat.le_of_ble_eq_true rfl, Nat.le_of_ble_eq_true rfl⟩) rfl hl.1 rfl (Nat.le_of_ble_eq_true rfl) dL_law_948 ⟨Nat.le_refl _, Nat.le_refl _⟩ (fun H locs hP hS => ?_)
        refine lv_aload_n hx hb dL_law_951 rfl (lv_at hl 2 rfl) ?_
        refine lv_aload_n hx hb dL_law_952 rfl (lv_at hl 0 rfl) ?_
        refine lv_iload_n hx hb dL_law_953 rfl (lv_at hl 3 rfl) ?_
        refine lv_iconst (v := 1) hx hb dL_law_954 (by decide) ?_
        refine lv_iadd hx hb dL_law_955 ?_
        obtain ⟨g285, h⟩ := gd_s h
        refine va_sld hx hb hX hbl hbA hS (ix_in g285) dL_law_956 ?_
        refine lv_aload_n hx hb dL_law_957 rfl (lv_at hl 0 rfl) ?_
        refine lv_iload_n hx hb dL_law_958 rfl (lv_at hl 3 rfl) ?_
        refine lv_iconst (v := 2) hx hb dL_law_959 (by decide) ?_
        refine lv_iadd hx hb dL_law_960 ?_
        obtain ⟨g286, h⟩ := gd_s h
        refine va_sld hx hb hX hbl hbA hS (ix_in g286) dL_law_961 ?_
        obtain ⟨r288, z289, h287, h⟩ := bd_s h
        refine y_Vi (Rz := (r288, z289)) (As := [.int (xs (Int32.toNatClampNeg (v3 + 1))), .int (xs (Int32.toNatClampNeg (v3 + 2)))]) (rest := [.int r283]) ⟨hx, hb, hml, hown, hts⟩ hK hP hS hAW (kd_lt k_172 (by decide)) (cell_12 k_172) rfl (m_X12_ways hG   h287) (cwV 2 hts (gVb (fun _ h => LW_tbl h) lw_2032 lw_2033 lw_2034 lw_125 lw_2035) rfl rfl rfl (by decide +kernel) ⟨Nat.le_of_ble_eq_true rfl, Nat.le_of_ble_eq_true rfl⟩) rfl hl.1 rfl (Nat.le_of_ble_eq_true rfl) dL_law_962 ⟨Nat.le_refl _, Nat.le_refl _⟩ (fun H locs hP hS => ?_)
        refine lv_icmp_eq (tgt := 1522) hx hb dL_law_965 (by decide) (fun c290 => ?_) (fun c290 => ?_)
        · rw [if_pos c290] at h
          exact pf_L_law_1522 C hR ih v3 z289  hP hS (lv_sub hl [0, 1, 2, 3] rfl) h
        · rw [if_neg c290] at h
          refine lv_iconst (v := 0) hx hb dL_law_968 (by decide) ?_
          exact absurd ((congrArg Prod.fst (Option.some.inj h)).trans hR) (show ¬ (0 : Int32) = 1 by decide)
      rw [if_neg c279] at h
      by_cases c291 : ((xs (Int32.toNatClampNeg v3)) &&& 63) = 26
      · rw [if_pos c291] at h
        refine lv_tableIn (off := 937) (tgt := 970) hx hb dL_law_33 (by rw [c291]; decide) (by rw [c291]; decide) (by rw [c291]; rfl) (by decide) ?_
        refine lv_aload_n hx hb dL_law_970 rfl (lv_at hl 1 rfl) ?_
        refine lv_aload_n hx hb dL_law_971 rfl (lv_at hl 0 rfl) ?_
        refine lv_iload_n hx hb dL_law_972 rfl (lv_at hl 3 rfl) ?_
        refine lv_iconst (v := 1) hx hb dL_law_973 (by decide) ?_
        refine lv_iadd hx hb dL_law_974 ?_
        obtain ⟨g292, h⟩ := gd_s h
        refine va_sld hx hb hX hbl hbA hS (ix_in g292) dL_law_975 ?_
        refine lv_aload_n hx hb dL_law_976 rfl (lv_at hl 0 rfl) ?_
        refine lv_iload_n hx hb dL_law_977 rfl (lv_at hl 3 rfl) ?_
        refine lv_iconst (v := 2) hx hb dL_law_978 (by decide) ?_
        refine lv_iadd hx hb dL_law_979 ?_
        obtain ⟨g293, h⟩ := gd_s h
        refine va_sld hx hb hX hbl hbA hS (ix_in g293) dL_law_980 ?_
        obtain ⟨r295, z296, h294, h⟩ := bd_s h
        refine y_Vi (Rz := (r295, z296)) (As := [.int (xs (Int32.toNatClampNeg (v3 + 1))), .int (xs (Int32.toNatClampNeg (v3 + 2)))]) (rest := []) ⟨hx, hb, hml, hown, hts⟩ hK hP hS hAW (kd_lt k_0 (by decide)) (cell_11 k_0) rfl (m_X11_most hG   h294) (cwV 2 hts (gVb (fun _ h => LW_tbl h) lw_1317 lw_1318 lw_1319 lw_109 lw_1320) rfl rfl rfl (by decide +kernel) ⟨Nat.le_of_ble_eq_true rfl, Nat.le_of_ble_eq_true rfl⟩) rfl hl.1 rfl (Nat.le_of_ble_eq_true rfl) dL_law_981 ⟨Nat.le_refl _, Nat.le_refl _⟩ (fun H locs hP hS => ?_)
        refine lv_aload_n hx hb dL_law_984 rfl (lv_at hl 2 rfl) ?_
        refine lv_aload_n hx hb dL_law_985 rfl (lv_at hl 0 rfl) ?_
        refine lv_iload_n hx hb dL_law_986 rfl (lv_at hl 3 rfl) ?_
        refine lv_iconst (v := 1) hx hb dL_law_987 (by decide) ?_
        refine lv_iadd hx hb dL_law_988 ?_
        obtain ⟨g297, h⟩ := gd_s h
        refine va_sld hx hb hX hbl hbA hS (ix_in g297) dL_law_989 ?_
        refine lv_aload_n hx hb dL_law_990 rfl (lv_at hl 0 rfl) ?_
        refine lv_iload_n hx hb dL_law_991 rfl (lv_at hl 3 rfl) ?_
        refine lv_iconst (v := 2) hx hb dL_law_992 (by decide) ?_
        refine lv_iadd hx hb dL_law_993 ?_
        obtain ⟨g298, h⟩ := gd_s h
        refine va_sld hx hb hX hbl hbA hS (ix_in g298) dL_law_994 ?_
        obtain ⟨r300, z301, h299, h⟩ := bd_s h
        refine y_Vi (Rz := (r300, z301)) (As := [.int (xs (Int32.toNatClampNeg (v3 + 1))), .int (xs (Int32.toNatClampNeg (v3 + 2)))]) (rest := [.int r295]) ⟨hx, hb, hml, hown, hts⟩ hK hP hS hAW (kd_lt k_172 (by decide)) (cell_12 k_172) rfl (m_X12_most hG   h299) (cwV 2 hts (gVb (fun _ h => LW_tbl h) lw_2036 lw_2037 lw_2038 lw_125 lw_2039) rfl rfl rfl (by decide +kernel) ⟨Nat.le_of_ble_eq_true rfl, Nat.le_of_ble_eq_true rfl⟩) rfl hl.1 rfl (Nat.le_of_ble_eq_true rfl) dL_law_995 ⟨Nat.le_refl _, Nat.le_refl _⟩ (fun H locs hP hS => ?_)
        refine lv_icmp_eq (tgt := 1522) hx hb dL_law_998 (by decide) (fun c302 => ?_) (fun c302 => ?_)
        · rw [if_pos c302] at h
          exact pf_L_law_1522 C hR ih v3 z301  hP hS (lv_sub hl [0, 1, 2, 3] rfl) h
        · rw [if_neg c302] at h
          refine lv_iconst (v := 0) hx hb dL_law_1001 (by decide) ?_
          exact absurd ((congrArg Prod.fst (Option.some.inj h)).trans hR) (show ¬ (0 : Int32) = 1 by decide)
      rw [if_neg c291] at h
      by_cases c303 : ((xs (Int32.toNatClampNeg v3)) &&& 63) = 27
      · rw [if_pos c303] at h
        refine lv_tableIn (off := 970) (tgt := 1003) hx hb dL_law_33 (by rw [c303]; decide) (by rw [c303]; decide) (by rw [c303]; rfl) (by decide) ?_
        refine lv_aload_n hx hb dL_law_1003 rfl (lv_at hl 1 rfl) ?_
        refine lv_aload_n hx hb dL_law_1004 rfl (lv_at hl 0 rfl) ?_
        refine lv_iload_n hx hb dL_law_1005 rfl (lv_at hl 3 rfl) ?_
        refine lv_iconst (v := 1) hx hb dL_law_1006 (by decide) ?_
        refine lv_iadd hx hb dL_law_1007 ?_
        obtain ⟨g304, h⟩ := gd_s h
        refine va_sld hx hb hX hbl hbA hS (ix_in g304) dL_law_1008 ?_
        obtain ⟨r306, z307, h305, h⟩ := bd_s h
        refine y_Vi (Rz := (r306, z307)) (As := [.int (xs (Int32.toNatClampNeg (v3 + 1)))]) (rest := []) ⟨hx, hb, hml, hown, hts⟩ hK hP hS hAW (kd_lt k_0 (by decide)) (cell_11 k_0) rfl (m_X11_room hG   h305) (cwV 1 hts (gVb (fun _ h => LW_tbl h) lw_1176 lw_1177 lw_1178 lw_109 lw_1179) rfl rfl rfl (by decide +kernel) ⟨Nat.le_of_ble_eq_true rfl, Nat.le_of_ble_eq_true rfl⟩) rfl hl.1 rfl (Nat.le_of_ble_eq_true rfl) dL_law_1009 ⟨Nat.le_refl _, Nat.le_refl _⟩ (fun H locs hP hS => ?_)
        refine lv_aload_n hx hb dL_law_1012 rfl (lv_at hl 2 rfl) ?_
        refine lv_aload_n hx hb dL_law_1013 rfl (lv_at hl 0 rfl) ?_
        refine lv_iload_n hx hb dL_law_1014 rfl (lv_at hl 3 rfl) ?_
        refine lv_iconst (v := 1) hx hb dL_law_1015 (by decide) ?_
        refine lv_iadd hx hb dL_law_1016 ?_
        obtain ⟨g308, h⟩ := gd_s h
        refine va_sld hx hb hX hbl hbA hS (ix_in g308) dL_law_1017 ?_
        obtain ⟨r310, z311, h309, h⟩ := bd_s h
        refine y_Vi (Rz := (r310, z311)) (As := [.int (xs (Int32.toNatClampNeg (v3 + 1)))]) (rest := [.int r306]) ⟨hx, hb, hml, hown, hts⟩ hK hP hS hAW (kd_lt k_172 (by decide)) (cell_12 k_172) rfl (m_X12_room hG   h309) (cwV 1 hts (gVb (fun _ h => LW_tbl h) lw_2040 lw_2041 lw_2042 lw_125 lw_2043) rfl rfl rfl (by decide +kernel) ⟨Nat.le_of_ble_eq_true rfl, Nat.le_of_ble_eq_true rfl⟩) rfl hl.1 rfl (Nat.le_of_ble_eq_true rfl) dL_law_1018 ⟨Nat.le_refl _, Nat.le_refl _⟩ (fun H locs hP hS => ?_)
        refine lv_icmp_eq (tgt := 1522) hx hb dL_law_1021 (by decide) (fun c312 => ?_) (fun c312 => ?_)
        · rw [if_pos c312] at h
          exact pf_L_law_1522 C hR ih v3 z311  hP hS (lv_sub hl [0, 1, 2, 3] rfl) h
        · rw [if_neg c312] at h
          refine lv_iconst (v := 0) hx hb dL_law_1024 (by decide) ?_
          exact absurd ((congrArg Prod.fst (Option.some.inj h)).trans hR) (show ¬ (0 : Int32) = 1 by decide)
      rw [if_neg c303] at h
      by_cases c313 : ((xs (Int32.toNatClampNeg v3)) &&& 63) = 28
      · rw [if_pos c313] at h
        refine lv_tableIn (off := 993) (tgt := 1026) hx hb dL_law_33 (by rw [c313]; decide) (by rw [c313]; decide) (by rw [c313]; rfl) (by decide) ?_
        refine lv_aload_n hx hb dL_law_1026 rfl (lv_at hl 1 rfl) ?_
        refine lv_aload_n hx hb dL_law_1027 rfl (lv_at hl 0 rfl) ?_
        refine lv_iload_n hx hb dL_law_1028 rfl (lv_at hl 3 rfl) ?_
        refine lv_iconst (v := 1) hx hb dL_law_1029 (by decide) ?_
        refine lv_iadd hx hb dL_law_1030 ?_
        obtain ⟨g314, h⟩ := gd_s h
        refine va_sld hx hb hX hbl hbA hS (ix_in g314) dL_law_1031 ?_
        obtain ⟨r316, z317, h315, h⟩ := bd_s h
        refine y_Vi (Rz := (r316, z317)) (As := [.int (xs (Int32.toNatClampNeg (v3 + 1)))]) (rest := []) ⟨hx, hb, hml, hown, hts⟩ hK hP hS hAW (kd_lt k_0 (by decide)) (cell_11 k_0) rfl (m_X11_best hG   h315) (cwV 1 hts (gVb (fun _ h => LW_tbl h) lw_1281 lw_1282 lw_1283 lw_109 lw_1284) rfl rfl rfl (by decide +kernel) ⟨Nat.le_of_ble_eq_true rfl, Nat.le_of_ble_eq_true rfl⟩) rfl hl.1 rfl (Nat.le_of_ble_eq_true rfl) dL_law_1032 ⟨Nat.le_refl _, Nat.le_refl _⟩ (fun H locs hP hS => ?_)
        refine lv_aload_n hx hb dL_law_1035 rfl (lv_at hl 2 rfl) ?_
        refine lv_aload_n hx hb dL_law_1036 rfl (lv_at hl 0 rfl) ?_
        refine lv_iload_n hx hb dL_law_1037 rfl (lv_at hl 3 rfl) ?_
        refine lv_iconst (v := 1) hx hb dL_law_1038 (by decide) ?_
        refine lv_iadd hx hb dL_law_1039 ?_
        obtain ⟨g318, h⟩ := gd_s h
        refine va_sld hx hb hX hbl hbA hS (ix_in g318) dL_law_1040 ?_
        obtain ⟨r320, z321, h319, h⟩ := bd_s h
        refine y_Vi (Rz := (r320, z321)) (As := [.int (xs (Int32.toNatClampNeg (v3 + 1)))]) (rest := [.int r316]) ⟨hx, hb, hml, hown, hts⟩ hK hP hS hAW (kd_lt k_172 (by decide)) (cell_12 k_172) rfl (m_X12_best hG   h319) (cwV 1 hts (gVb (fun _ h => LW_tbl h) lw_2044 lw_2045 lw_2046 lw_125 lw_2047) rfl rfl rfl (by decide +kernel) ⟨Nat.le_of_ble_eq_true rfl, Nat.le_of_ble_eq_true rfl⟩) rfl hl.1 rfl (Nat.le_of_ble_eq_true rfl) dL_law_1041 ⟨Nat.le_refl _, Nat.le_refl _⟩ (fun H locs hP hS => ?_)
        refine lv_icmp_eq (tgt := 1522) hx hb dL_law_1044 (by decide) (fun c322 => ?_) (fun c322 => ?_)
        · rw [if_pos c322] at h
          exact pf_L_law_1522 C hR ih v3 z321  hP hS (lv_sub hl [0, 1, 2, 3] rfl) h
        · rw [if_neg c322] at h
          refine lv_iconst (v := 0) hx hb dL_law_1047 (by decide) ?_
          exact absurd ((congrArg Prod.fst (Option.some.inj h)).trans hR) (show ¬ (0 : Int32) = 1 by decide)
      rw [if_neg c313] at h
      by_cases c323 : ((xs (Int32.toNatClampNeg v3)) &&& 63) = 29
      · rw [if_pos c323] at h
        refine lv_tableIn (off := 1016) (tgt := 1049) hx hb dL_law_33 (by rw [c323]; decide) (by rw [c323]; decide) (by rw [c323]; rfl) (by decide) ?_
        refine lv_aload_n hx hb dL_law_1049 rfl (lv_at hl 1 rfl) ?_
        refine lv_aload_n hx hb dL_law_1050 rfl (lv_at hl 0 rfl) ?_
        refine lv_iload_n hx hb dL_law_1051 rfl (lv_at hl 3 rfl) ?_
        refine lv_iconst (v := 1) hx hb dL_law_1052 (by decide) ?_
        refine lv_iadd hx hb dL_law_1053 ?_
        obtain ⟨g324, h⟩ := gd_s h
        refine va_sld hx hb hX hbl hbA hS (ix_in g324) dL_law_1054 ?_
        refine lv_aload_n hx hb dL_law_1055 rfl (lv_at hl 0 rfl) ?_
        refine lv_iload_n hx hb dL_law_1056 rfl (lv_at hl 3 rfl) ?_
        refine lv_iconst (v := 2) hx hb dL_law_1057 (by decide) ?_
        refine lv_iadd hx hb dL_law_1058 ?_
        obtain ⟨g325, h⟩ := gd_s h
        refine va_sld hx hb hX hbl hbA hS (ix_in g325) dL_law_1059 ?_
        refine lv_aload_n hx hb dL_law_1060 rfl (lv_at hl 0 rfl) ?_
        refine lv_iload_n hx hb dL_law_1061 rfl (lv_at hl 3 rfl) ?_
        refine lv_iconst (v := 3) hx hb dL_law_1062 (by decide) ?_
        refine lv_iadd hx hb dL_law_1063 ?_
        obtain ⟨g326, h⟩ := gd_s h
        refine va_sld hx hb hX hbl hbA hS (ix_in g326) dL_law_1064 ?_
        obtain ⟨r328, z329, h327, h⟩ := bd_s h
        refine y_Vi (Rz := (r328, z329)) (As := [.int (xs (Int32.toNatClampNeg (v3 + 1))), .int (xs (Int32.toNatClampNeg (v3 + 2))), .int (xs (Int32.toNatClampNeg (v3 + 3)))]) (rest := []) ⟨hx, hb, hml, hown, hts⟩ hK hP hS hAW (kd_lt k_0 (by decide)) (cell_11 k_0) rfl (m_X11_where hG   h327) (cwV 3 hts (gVb (fun _ h => LW_tbl h) lw_1321 lw_1322 lw_1323 lw_109 lw_1324) rfl rfl rfl (by decide +kernel) ⟨Nat.le_of_ble_eq_true rfl, Nat.le_of_ble_eq_true rfl⟩) rfl hl.1 rfl (Nat.le_of_ble_eq_true rfl) dL_law_1065 ⟨Nat.le_refl _, Nat.le_refl _⟩ (fun H locs hP hS => ?_)
        refine lv_aload_n hx hb dL_law_1068 rfl (lv_at hl 2 rfl) ?_
        refine lv_aload_n hx hb dL_law_1069 rfl (lv_at hl 0 rfl) ?_
        refine lv_iload_n hx hb dL_law_1070 rfl (lv_at hl 3 rfl) ?_
        refine lv_iconst (v := 1) hx hb dL_law_1071 (by decide) ?_
        refine lv_iadd hx hb dL_law_1072 ?_
        obtain ⟨g330, h⟩ := gd_s h
        refine va_sld hx hb hX hbl hbA hS (ix_in g330) dL_law_1073 ?_
        refine lv_aload_n hx hb dL_law_1074 rfl (lv_at hl 0 rfl) ?_
        refine lv_iload_n hx hb dL_law_1075 rfl (lv_at hl 3 rfl) ?_
        refine lv_iconst (v := 2) hx hb dL_law_1076 (by decide) ?_
        refine lv_iadd hx hb dL_law_1077 ?_
        obtain ⟨g331, h⟩ := gd_s h
        refine va_sld hx hb hX hbl hbA hS (ix_in g331) dL_law_1078 ?_
        refine lv_aload_n hx hb dL_law_1079 rfl (lv_at hl 0 rfl) ?_
        refine lv_iload_n hx hb dL_law_1080 rfl (lv_at hl 3 rfl) ?_
        refine lv_iconst (v := 3) hx hb dL_law_1081 (by decide) ?_
        refine lv_iadd hx hb dL_law_1082 ?_
        obtain ⟨g332, h⟩ := gd_s h
        refine va_sld hx hb hX hbl hbA hS (ix_in g332) dL_law_1083 ?_
        obtain ⟨r334, z335, h333, h⟩ := bd_s h
        refine y_Vi (Rz := (r334, z335)) (As := [.int (xs (Int32.toNatClampNeg (v3 + 1))), .int (xs (Int32.toNatClampNeg (v3 + 2))), .int (xs (Int32.toNatClampNeg (v3 + 3)))]) (rest := [.int r328]) ⟨hx, hb, hml, hown, hts⟩ hK hP hS hAW (kd_lt k_172 (by decide)) (cell_12 k_172) rfl (m_X12_where hG   h333) (cwV 3 hts (gVb (fun _ h => LW_tbl h) lw_2048 lw_2049 lw_2050 lw_125 lw_2051) rfl rfl rfl (by decide +kernel) ⟨Nat.le_of_ble_eq_true rfl, Nat.le_of_ble_eq_true rfl⟩) rfl hl.1 rfl (Nat.le_of_ble_eq_true rfl) dL_law_1084 ⟨Nat.le_refl _, Nat.le_refl _⟩ (fun H locs hP hS => ?_)
        refine lv_icmp_eq (tgt := 1522) hx hb dL_law_1087 (by decide) (fun c336 => ?_) (fun c336 => ?_)
        · rw [if_pos c336] at h
          exact pf_L_law_1522 C hR ih v3 z335  hP hS (lv_sub hl [0, 1, 2, 3] rfl) h
        · rw [if_neg c336] at h
          refine lv_iconst (v := 0) hx hb dL_law_1090 (by decide) ?_
          exact absurd ((congrArg Prod.fst (Option.some.inj h)).trans hR) (show ¬ (0 : Int32) = 1 by decide)
      rw [if_neg c323] at h
      by_cases c337 : ((xs (Int32.toNatClampNeg v3)) &&& 63) = 30
      · rw [if_pos c337] at h
        refine lv_tableIn (off := 1059) (tgt := 1092) hx hb dL_law_33 (by rw [c337]; decide) (by rw [c337]; decide) (by rw [c337]; rfl) (by decide) ?_
        refine lv_aload_n hx hb dL_law_1092 rfl (lv_at hl 1 rfl) ?_
        obtain ⟨r339, z340, h338, h⟩ := bd_s h
        refine y_Vi (Rz := (r339, z340)) (As := []) (rest := []) ⟨hx, hb, hml, hown, hts⟩ hK hP hS hAW (kd_lt k_0 (by decide)) (cell_11 k_0) rfl (m_X11_hungry hG   h338) (cwV 0 hts (gVb (fun _ h => LW_tbl h) lw_1185 lw_1186 lw_1187 lw_109 lw_1188) rfl rfl rfl (by decide +kernel) ⟨Nat.le_of_ble_eq_true rfl, Nat.le_of_ble_eq_true rfl⟩) rfl hl.1 rfl (Nat.le_of_ble_eq_true rfl) dL_law_1093 ⟨Nat.le_refl _, Nat.le_refl _⟩ (fun H locs hP hS => ?_)
        refine lv_aload_n hx hb dL_law_1096 rfl (lv_at hl 2 rfl) ?_
        obtain ⟨r342, z343, h341, h⟩ := bd_s h
        refine y_Vi (Rz := (r342, z343)) (As := []) (rest := [.int r339]) ⟨hx, hb, hml, hown, hts⟩ hK hP hS hAW (kd_lt k_172 (by decide)) (cell_12 k_172) rfl (m_X12_hungry hG   h341) (cwV 0 hts (gVb (fun _ h => LW_tbl h) lw_2056 lw_2057 lw_2058 lw_125 lw_2059) rfl rfl rfl (by decide +kernel) ⟨Nat.le_of_ble_eq_true rfl, Nat.le_of_ble_eq_true rfl⟩) rfl hl.1 rfl (Nat.le_of_ble_eq_true rfl) dL_law_1097 ⟨Nat.le_refl _, Nat.le_refl _⟩ (fun H locs hP hS => ?_)
        refine lv_icmp_eq (tgt := 1522) hx hb dL_law_1100 (by decide) (fun c344 => ?_) (fun c344 => ?_)
        · rw [if_pos c344] at h
          exact pf_L_law_1522 C hR ih v3 z343  hP hS (lv_sub hl [0, 1, 2, 3] rfl) h
        · rw [if_neg c344] at h
          refine lv_iconst (v := 0) hx hb dL_law_1103 (by decide) ?_
          exact absurd ((congrArg Prod.fst (Option.some.inj h)).trans hR) (show ¬ (0 : Int32) = 1 by decide)
      rw [if_neg c337] at h
      by_cases c345 : ((xs (Int32.toNatClampNeg v3)) &&& 63) = 31
      · rw [if_pos c345] at h
        refine lv_tableIn (off := 1072) (tgt := 1105) hx hb dL_law_33 (by rw [c345]; decide) (by rw [c345]; decide) (by rw [c345]; rfl) (by decide) ?_
        refine lv_aload_n hx hb dL_law_1105 rfl (lv_at hl 1 rfl) ?_
        refine lv_aload_n hx hb dL_law_1106 rfl (lv_at hl 0 rfl) ?_
        refine lv_iload_n hx hb dL_law_1107 rfl (lv_at hl 3 rfl) ?_
        refine lv_iconst (v := 1) hx hb dL_law_1108 (by decide) ?_
        refine lv_iadd hx hb dL_law_1109 ?_
        obtain ⟨g346, h⟩ := gd_s h
        refine va_sld hx hb hX hbl hbA hS (ix_in g346) dL_law_1110 ?_
        obtain ⟨r348, z349, h347, h⟩ := bd_s h
        refine y_Vi (Rz := (r348, z349)) (As := [.int (xs (Int32.toNatClampNeg (v3 + 1)))]) (rest := []) ⟨hx, hb, hml, hown, hts⟩ hK hP hS hAW (kd_lt k_0 (by decide)) (cell_11 k_0) rfl (m_X11_law hG   h347) (cwV 1 hts (gVb (fun _ h => LW_tbl h) lw_1189 lw_1190 lw_1191 lw_109 lw_1192) rfl rfl rfl (by decide +kernel) ⟨Nat.le_of_ble_eq_true rfl, Nat.le_of_ble_eq_true rfl⟩) rfl hl.1 rfl (Nat.le_of_ble_eq_true rfl) dL_law_1111 ⟨Nat.le_refl _, Nat.le_refl _⟩ (fun H locs hP hS => ?_)
        refine lv_aload_n hx hb dL_law_1114 rfl (lv_at hl 2 rfl) ?_
        refine lv_aload_n hx hb dL_law_1115 rfl (lv_at hl 0 rfl) ?_
        refine lv_iload_n hx hb dL_law_1116 rfl (lv_at hl 3 rfl) ?_
        refine lv_iconst (v := 1) hx hb dL_law_1117 (by decide) ?_
        refine lv_iadd hx hb dL_law_1118 ?_
        obtain ⟨g350, h⟩ := gd_s h
        refine va_sld hx hb hX hbl hbA hS (ix_in g350) dL_law_1119 ?_
        obtain ⟨r352, z353, h351, h⟩ := bd_s h
        refine y_Vi (Rz := (r352, z353)) (As := [.int (xs (Int32.toNatClampNeg (v3 + 1)))]) (rest := [.int r348]) ⟨hx, hb, hml, hown, hts⟩ hK hP hS hAW (kd_lt k_172 (by decide)) (cell_12 k_172) rfl (m_X12_law hG   h351) (cwV 1 hts (gVb (fun _ h => LW_tbl h) lw_2061 lw_2062 lw_2063 lw_125 lw_2064) rfl rfl rfl (by decide +kernel) ⟨Nat.le_of_ble_eq_true rfl, Nat.le_of_ble_eq_true rfl⟩) rfl hl.1 rfl (Nat.le_of_ble_eq_true rfl) dL_law_1120 ⟨Nat.le_refl _, Nat.le_refl _⟩ (fun H locs hP hS => ?_)
        refine lv_icmp_eq (tgt := 1522) hx hb dL_law_1123 (by decide) (fun c354 => ?_) (fun c354 => ?_)
        · rw [if_pos c354] at h
          exact pf_L_law_1522 C hR ih v3 z353  hP hS (lv_sub hl [0, 1, 2, 3] rfl) h
        · rw [if_neg c354] at h
          refine lv_iconst (v := 0) hx hb dL_law_1126 (by decide) ?_
          exact absurd ((congrArg Prod.fst (Option.some.inj h)).trans hR) (show ¬ (0 : Int32) = 1 by decide)
      rw [if_neg c345] at h
      by_cases c355 : ((xs (Int32.toNatClampNeg v3)) &&& 63) = 32
      · rw [if_pos c355] at h
        refine lv_tableIn (off := 1095) (tgt := 1128) hx hb dL_law_33 (by rw [c355]; decide) (by rw [c355]; decide) (by rw [c355]; rfl) (by decide) ?_
        refine lv_aload_n hx hb dL_law_1128 rfl (lv_at hl 1 rfl) ?_
        obtain ⟨r357, z358, h356, h⟩ := bd_s h
        refine y_Vi (Rz := (r357, z358)) (As := []) (rest := []) ⟨hx, hb, hml, hown, hts⟩ hK hP hS hAW (kd_lt k_0 (by decide)) (cell_11 k_0) rfl (m_X11_left hG   h356) (cwV 0 hts (gVb (fun _ h => LW_tbl h) lw_1329 lw_1330 lw_1331 lw_109 lw_1332) rfl rfl rfl (by decide +kernel) ⟨Nat.le_of_ble_eq_true rfl, Nat.le_of_ble_eq_true rfl⟩) rfl hl.1 rfl (Nat.le_of_ble_eq_true rfl) dL_law_1129 ⟨Nat.le_refl _, Nat.le_refl _⟩ (fun H locs hP hS => ?_)
        refine lv_aload_n hx hb dL_law_1132 rfl (lv_at hl 2 rfl) ?_
        obtain ⟨r360, z361, h359, h⟩ := bd_s h
        refine y_Vi (Rz := (r360, z361)) (As := []) (rest := [.int r357]) ⟨hx, hb, hml, hown, hts⟩ hK hP hS hAW (kd_lt k_172 (by decide)) (cell_12 k_172) rfl (m_X12_left hG   h359) (cwV 0 hts (gVb (fun _ h => LW_tbl h) lw_2065 lw_2066 lw_2067 lw_125 lw_2068) rfl rfl rfl (by decide +kernel) ⟨Nat.le_of_ble_eq_true rfl, Nat.le_of_ble_eq_true rfl⟩) rfl hl.1 rfl (Nat.le_of_ble_eq_true rfl) dL_law_1133 ⟨Nat.le_refl _, Nat.le_refl _⟩ (fun H locs hP hS => ?_)
        refine lv_icmp_eq (tgt := 1522) hx hb dL_law_1136 (by decide) (fun c362 => ?_) (fun c362 => ?_)
        · rw [if_pos c362] at h
          exact pf_L_law_1522 C hR ih v3 z361  hP hS (lv_sub hl [0, 1, 2, 3] rfl) h
        · rw [if_neg c362] at h
          refine lv_iconst (v := 0) hx hb dL_law_1139 (by decide) ?_
          exact absurd ((congrArg Prod.fst (Option.some.inj h)).trans hR) (show ¬ (0 : Int32) = 1 by decide)
      rw [if_neg c355] at h
      by_cases c363 : ((xs (Int32.toNatClampNeg v3)) &&& 63) = 33
      · rw [if_pos c363] at h
        refine lv_tableIn (off := 1108) (tgt := 1141) hx hb dL_law_33 (by rw [c363]; decide) (by rw [c363]; decide) (by rw [c363]; rfl) (by decide) ?_
        refine lv_aload_n hx hb dL_law_1141 rfl (lv_at hl 1 rfl) ?_
        refine lv_aload_n hx hb dL_law_1142 rfl (lv_at hl 0 rfl) ?_
        refine lv_iload_n hx hb dL_law_1143 rfl (lv_at hl 3 rfl) ?_
        refine lv_iconst (v := 1) hx hb dL_law_1144 (by decide) ?_
        refine lv_iadd hx hb dL_law_1145 ?_
        obtain ⟨g364, h⟩ := gd_s h
        refine va_sld hx hb hX hbl hbA hS (ix_in g364) dL_law_1146 ?_
        obtain ⟨r366, z367, h365, h⟩ := bd_s h
        refine y_Vi (Rz := (r366, z367)) (As := [.int (xs (Int32.toNatClampNeg (v3 + 1)))]) (rest := []) ⟨hx, hb, hml, hown, hts⟩ hK hP hS hAW (kd_lt k_0 (by decide)) (cell_11 k_0) rfl (m_X11_iced hG   h365) (cwV 1 hts (gVb (fun _ h => LW_tbl h) lw_1333 lw_1334 lw_1335 lw_109 lw_1336) rfl rfl rfl (by decide +kernel) ⟨Nat.le_of_ble_eq_true rfl, Nat.le_of_ble_eq_true rfl⟩) rfl hl.1 rfl (Nat.le_of_ble_eq_true rfl) dL_law_1147 ⟨Nat.le_refl _, Nat.le_refl _⟩ (fun H locs hP hS => ?_)
        refine lv_aload_n hx hb dL_law_1150 rfl (lv_at hl 2 rfl) ?_
        refine lv_aload_n hx hb dL_law_1151 rfl (lv_at hl 0 rfl) ?_
        refine lv_iload_n hx hb dL_law_1152 rfl (lv_at hl 3 rfl) ?_
        refine lv_iconst (v := 1) hx hb dL_law_1153 (by decide) ?_
        refine lv_iadd hx hb dL_law_1154 ?_
        obtain ⟨g368, h⟩ := gd_s h
        refine va_sld hx hb hX hbl hbA hS (ix_in g368) dL_law_1155 ?_
        obtain ⟨r370, z371, h369, h⟩ := bd_s h
        refine y_Vi (Rz := (r370, z371)) (As := [.int (xs (Int32.toNatClampNeg (v3 + 1)))]) (rest := [.int r366]) ⟨hx, hb, hml, hown, hts⟩ hK hP hS hAW (kd_lt k_172 (by decide)) (cell_12 k_172) rfl (m_X12_iced hG   h369) (cwV 1 hts (gVb (fun _ h => LW_tbl h) lw_2069 lw_2070 lw_2071 lw_125 lw_2072) rfl rfl rfl (by decide +kernel) ⟨Nat.le_of_ble_eq_true rfl, Nat.le_of_ble_eq_true rfl⟩) rfl hl.1 rfl (Nat.le_of_ble_eq_true rfl) dL_law_1156 ⟨Nat.le_refl _, Nat.le_refl _⟩ (fun H locs hP hS => ?_)
        refine lv_icmp_eq (tgt := 1522) hx hb dL_law_1159 (by decide) (fun c372 => ?_) (fun c372 => ?_)
        · rw [if_pos c372] at h
          exact pf_L_law_1522 C hR ih v3 z371  hP hS (lv_sub hl [0, 1, 2, 3] rfl) h
        · rw [if_neg c372] at h
          refine lv_iconst (v := 0) hx hb dL_law_1162 (by decide) ?_
          exact absurd ((congrArg Prod.fst (Option.some.inj h)).trans hR) (show ¬ (0 : Int32) = 1 by decide)
      rw [if_neg c363] at h
      by_cases c373 : ((xs (Int32.toNatClampNeg v3)) &&& 63) = 34
      · rw [if_pos c373] at h
        refine lv_tableIn (off := 1131) (tgt := 1164) hx hb dL_law_33 (by rw [c373]; decide) (by rw [c373]; decide) (by rw [c373]; rfl) (by decide) ?_
        refine lv_aload_n hx hb dL_law_1164 rfl (lv_at hl 1 rfl) ?_
        refine lv_aload_n hx hb dL_law_1165 rfl (lv_at hl 0 rfl) ?_
        refine lv_iload_n hx hb dL_law_1166 rfl (lv_at hl 3 rfl) ?_
        refine lv_iconst (v := 1) hx hb dL_law_1167 (by decide) ?_
        refine lv_iadd hx hb dL_law_1168 ?_
        obtain ⟨g374, h⟩ := gd_s h
        refine va_sld hx hb hX hbl hbA hS (ix_in g374) dL_law_1169 ?_
        refine lv_aload_n hx hb dL_law_1170 rfl (lv_at hl 0 rfl) ?_
        refine lv_iload_n hx hb dL_law_1171 rfl (lv_at hl 3 rfl) ?_
        refine lv_iconst (v := 2) hx hb dL_law_1172 (by decide) ?_
        refine lv_iadd hx hb dL_law_1173 ?_
        obtain ⟨g375, h⟩ := gd_s h
        refine va_sld hx hb hX hbl hbA hS (ix_in g375) dL_law_1174 ?_
        obtain ⟨r377, z378, h376, h⟩ := bd_s h
        refine y_Vi (Rz := (r377, z378)) (As := [.int (xs (Int32.toNatClampNeg (v3 + 1))), .int (xs (Int32.toNatClampNeg (v3 + 2)))]) (rest := []) ⟨hx, hb, hml, hown, hts⟩ hK hP hS hAW (kd_lt k_0 (by decide)) (cell_11 k_0) rfl (m_X11_come hG   h376) (cwV 2 hts (gVb (fun _ h => LW_tbl h) lw_1337 lw_1338 lw_1339 lw_109 lw_1340) rfl rfl rfl (by decide +kernel) ⟨Nat.le_of_ble_eq_true rfl, Nat.le_of_ble_eq_true rfl⟩) rfl hl.1 rfl (Nat.le_of_ble_eq_true rfl) dL_law_1175 ⟨Nat.le_refl _, Nat.le_refl _⟩ (fun H locs hP hS => ?_)
        refine lv_aload_n hx hb dL_law_1178 rfl (lv_at hl 2 rfl) ?_
        refine lv_aload_n hx hb dL_law_1179 rfl (lv_at hl 0 rfl) ?_
        refine lv_iload_n hx hb dL_law_1180 rfl (lv_at hl 3 rfl) ?_
        refine lv_iconst (v := 1) hx hb dL_law_1181 (by decide) ?_
        refine lv_iadd hx hb dL_law_1182 ?_
        obtain ⟨g379, h⟩ := gd_s h
        refine va_sld hx hb hX hbl hbA hS (ix_in g379) dL_law_1183 ?_
        refine lv_aload_n hx hb dL_law_1184 rfl (lv_at hl 0 rfl) ?_
        refine lv_iload_n hx hb dL_law_1185 rfl (lv_at hl 3 rfl) ?_
        refine lv_iconst (v := 2) hx hb dL_law_1186 (by decide) ?_
        refine lv_iadd hx hb dL_law_1187 ?_
        obtain ⟨g380, h⟩ := gd_s h
        refine va_sld hx hb hX hbl hbA hS (ix_in g380) dL_law_1188 ?_
        obtain ⟨r382, z383, h381, h⟩ := bd_s h
        refine y_Vi (Rz := (r382, z383)) (As := [.int (xs (Int32.toNatClampNeg (v3 + 1))), .int (xs (Int32.toNatClampNeg (v3 + 2)))]) (rest := [.int r377]) ⟨hx, hb, hml, hown, hts⟩ hK hP hS hAW (kd_lt k_172 (by decide)) (cell_12 k_172) rfl (m_X12_come hG   h381) (cwV 2 hts (gVb (fun _ h => LW_tbl h) lw_2073 lw_2074 lw_2075 lw_125 lw_2076) rfl rfl rfl (by decide +kernel) ⟨Nat.le_of_ble_eq_true rfl, Nat.le_of_ble_eq_true rfl⟩) rfl hl.1 rfl (Nat.le_of_ble_eq_true rfl) dL_law_1189 ⟨Nat.le_refl _, Nat.le_refl _⟩ (fun H locs hP hS => ?_)
        refine lv_icmp_eq (tgt := 1522) hx hb dL_law_1192 (by decide) (fun c384 => ?_) (fun c384 => ?_)
        · rw [if_pos c384] at h
          exact pf_L_law_1522 C hR ih v3 z383  hP hS (lv_sub hl [0, 1, 2, 3] rfl) h
        · rw [if_neg c384] at h
          refine lv_iconst (v := 0) hx hb dL_law_1195 (by decide) ?_
          exact absurd ((congrArg Prod.fst (Option.some.inj h)).trans hR) (show ¬ (0 : Int32) = 1 by decide)
      rw [if_neg c373] at h
      by_cases c385 : ((xs (Int32.toNatClampNeg v3)) &&& 63) = 35
      · rw [if_pos c385] at h
        refine lv_tableIn (off := 1164) (tgt := 1197) hx hb dL_law_33 (by rw [c385]; decide) (by rw [c385]; decide) (by rw [c385]; rfl) (by decide) ?_
        refine lv_aload_n hx hb dL_law_1197 rfl (lv_at hl 1 rfl) ?_
        refine lv_aload_n hx hb dL_law_1198 rfl (lv_at hl 0 rfl) ?_
        refine lv_iload_n hx hb dL_law_1199 rfl (lv_at hl 3 rfl) ?_
        refine lv_iconst (v := 1) hx hb dL_law_1200 (by decide) ?_
        refine lv_iadd hx hb dL_law_1201 ?_
        obtain ⟨g386, h⟩ := gd_s h
        refine va_sld hx hb hX hbl hbA hS (ix_in g386) dL_law_1202 ?_
        obtain ⟨r388, z389, h387, h⟩ := bd_s h
        refine y_Vi (Rz := (r388, z389)) (As := [.int (xs (Int32.toNatClampNeg (v3 + 1)))]) (rest := []) ⟨hx, hb, hml, hown, hts⟩ hK hP hS hAW (kd_lt k_0 (by decide)) (cell_11 k_0) rfl (m_X11_lies hG   h387) (cwV 1 hts (gVb (fun _ h => LW_tbl h) lw_1285 lw_1286 lw_1287 lw_109 lw_1288) rfl rfl rfl (by decide +kernel) ⟨Nat.le_of_ble_eq_true rfl, Nat.le_of_ble_eq_true rfl⟩) rfl hl.1 rfl (Nat.le_of_ble_eq_true rfl) dL_law_1203 ⟨Nat.le_refl _, Nat.le_refl _⟩ (fun H locs hP hS => ?_)
        refine lv_aload_n hx hb dL_law_1206 rfl (lv_at hl 2 rfl) ?_
        refine lv_aload_n hx hb dL_law_1207 rfl (lv_at hl 0 rfl) ?_
        refine lv_iload_n hx hb dL_law_1208 rfl (lv_at hl 3 rfl) ?_
        refine lv_iconst (v := 1) hx hb dL_law_1209 (by decide) ?_
        refine lv_iadd hx hb dL_law_1210 ?_
        obtain ⟨g390, h⟩ := gd_s h
        refine va_sld hx hb hX hbl hbA hS (ix_in g390) dL_law_1211 ?_
        obtain ⟨r392, z393, h391, h⟩ := bd_s h
        refine y_Vi (Rz := (r392, z393)) (As := [.int (xs (Int32.toNatClampNeg (v3 + 1)))]) (rest := [.int r388]) ⟨hx, hb, hml, hown, hts⟩ hK hP hS hAW (kd_lt k_172 (by decide)) (cell_12 k_172) rfl (m_X12_lies hG   h391) (cwV 1 hts (gVb (fun _ h => LW_tbl h) lw_2080 lw_2081 lw_2082 lw_125 lw_2083) rfl rfl rfl (by decide +kernel) ⟨Nat.le_of_ble_eq_true rfl, Nat.le_of_ble_eq_true rfl⟩) rfl hl.1 rfl (Nat.le_of_ble_eq_true rfl) dL_law_1212 ⟨Nat.le_refl _, Nat.le_refl _⟩ (fun H locs hP hS => ?_)
        refine lv_icmp_eq (tgt := 1522) hx hb dL_law_1215 (by decide) (fun c394 => ?_) (fun c394 => ?_)
        · rw [if_pos c394] at h
          exact pf_L_law_1522 C hR ih v3 z393  hP hS (lv_sub hl [0, 1, 2, 3] rfl) h
        · rw [if_neg c394] at h
          refine lv_iconst (v := 0) hx hb dL_law_1218 (by decide) ?_
          exact absurd ((congrArg Prod.fst (Option.some.inj h)).trans hR) (show ¬ (0 : Int32) = 1 by decide)
      rw [if_neg c385] at h
      by_cases c395 : ((xs (Int32.toNatClampNeg v3)) &&& 63) = 36
      · rw [if_pos c395] at h
        refine lv_tableIn (off := 1187) (tgt := 1220) hx hb dL_law_33 (by rw [c395]; decide) (by rw [c395]; decide) (by rw [c395]; rfl) (by decide) ?_
        refine lv_aload_n hx hb dL_law_1220 rfl (lv_at hl 1 rfl) ?_
        refine lv_aload_n hx hb dL_law_1221 rfl (lv_at hl 0 rfl) ?_
        refine lv_iload_n hx hb dL_law_1222 rfl (lv_at hl 3 rfl) ?_
        refine lv_iconst (v := 1) hx hb dL_law_1223 (by decide) ?_
        refine lv_iadd hx hb dL_law_1224 ?_
        obtain ⟨g396, h⟩ := gd_s h
        refine va_sld hx hb hX hbl hbA hS (ix_in g396) dL_law_1225 ?_
        refine lv_aload_n hx hb dL_law_1226 rfl (lv_at hl 0 rfl) ?_
        refine lv_iload_n hx hb dL_law_1227 rfl (lv_at hl 3 rfl) ?_
        refine lv_iconst (v := 2) hx hb dL_law_1228 (by decide) ?_
        refine lv_iadd hx hb dL_law_1229 ?_
        obtain ⟨g397, h⟩ := gd_s h
        refine va_sld hx hb hX hbl hbA hS (ix_in g397) dL_law_1230 ?_
        refine lv_if_eq (tgt := 1238) hx hb dL_law_1231 (by decide) (fun c398 => ?_) (fun c398 => ?_)
        · rw [if_pos c398] at h
          refine lv_iconst (v := 0) hx hb dL_law_1238 (by decide) ?_
          exact pf_L_law_1239 C hR ih v3 (xs (Int32.toNatClampNeg (v3 + 1))) 0 z  hP hS (lv_sub hl [0, 1, 2, 3] rfl) h
        · rw [if_neg c398] at h
          refine lv_iconst (v := 1) hx hb dL_law_1234 (by decide) ?_
          refine lv_goto (tgt := 1239) hx hb dL_law_1235 (by decide) ?_
          exact pf_L_law_1239 C hR ih v3 (xs (Int32.toNatClampNeg (v3 + 1))) 1 z  hP hS (lv_sub hl [0, 1, 2, 3] rfl) h
      rw [if_neg c395] at h
      by_cases c399 : ((xs (Int32.toNatClampNeg v3)) &&& 63) = 37
      · rw [if_pos c399] at h
        refine lv_tableIn (off := 1236) (tgt := 1269) hx hb dL_law_33 (by rw [c399]; decide) (by rw [c399]; decide) (by rw [c399]; rfl) (by decide) ?_
        refine lv_aload_n hx hb dL_law_1269 rfl (lv_at hl 1 rfl) ?_
        refine lv_aload_n hx hb dL_law_1270 rfl (lv_at hl 0 rfl) ?_
        refine lv_iload_n hx hb dL_law_1271 rfl (lv_at hl 3 rfl) ?_
        refine lv_iconst (v := 1) hx hb dL_law_1272 (by decide) ?_
        refine lv_iadd hx hb dL_law_1273 ?_
        obtain ⟨g400, h⟩ := gd_s h
        refine va_sld hx hb hX hbl hbA hS (ix_in g400) dL_law_1274 ?_
        refine lv_aload_n hx hb dL_law_1275 rfl (lv_at hl 0 rfl) ?_
        refine lv_iload_n hx hb dL_law_1276 rfl (lv_at hl 3 rfl) ?_
        refine lv_iconst (v := 2) hx hb dL_law_1277 (by decide) ?_
        refine lv_iadd hx hb dL_law_1278 ?_
        obtain ⟨g401, h⟩ := gd_s h
        refine va_sld hx hb hX hbl hbA hS (ix_in g401) dL_law_1279 ?_
        refine lv_if_eq (tgt := 1287) hx hb dL_law_1280 (by decide) (fun c402 => ?_) (fun c402 => ?_)
        · rw [if_pos c402] at h
          refine lv_iconst (v := 0) hx hb dL_law_1287 (by decide) ?_
          exact pf_L_law_1288 C hR ih v3 (xs (Int32.toNatClampNeg (v3 + 1))) 0 z  hP hS (lv_sub hl [0, 1, 2, 3] rfl) h
        · rw [if_neg c402] at h
          refine lv_iconst (v := 1) hx hb dL_law_1283 (by decide) ?_
          refine lv_goto (tgt := 1288) hx hb dL_law_1284 (by decide) ?_
          exact pf_L_law_1288 C hR ih v3 (xs (Int32.toNatClampNeg (v3 + 1))) 1 z  hP hS (lv_sub hl [0, 1, 2, 3] rfl) h
      rw [if_neg c399] at h
      by_cases c403 : ((xs (Int32.toNatClampNeg v3)) &&& 63) = 38
      · rw [if_pos c403] at h
        refine lv_tableIn (off := 1285) (tgt := 1318) hx hb dL_law_33 (by rw [c403]; decide) (by rw [c403]; decide) (by rw [c403]; rfl) (by decide) ?_
        refine lv_aload_n hx hb dL_law_1318 rfl (lv_at hl 1 rfl) ?_
        refine lv_aload_n hx hb dL_law_1319 rfl (lv_at hl 0 rfl) ?_
        refine lv_iload_n hx hb dL_law_1320 rfl (lv_at hl 3 rfl) ?_
        refine lv_iconst (v := 1) hx hb dL_law_1321 (by decide) ?_
        refine lv_iadd hx hb dL_law_1322 ?_
        obtain ⟨g404, h⟩ := gd_s h
        refine va_sld hx hb hX hbl hbA hS (ix_in g404) dL_law_1323 ?_
        obtain ⟨r406, z407, h405, h⟩ := bd_s h
        refine y_Vi (Rz := (r406, z407)) (As := [.int (xs (Int32.toNatClampNeg (v3 + 1)))]) (rest := []) ⟨hx, hb, hml, hown, hts⟩ hK hP hS hAW (kd_lt k_0 (by decide)) (cell_11 k_0) rfl (m_X11_untell hG   h405) (cwV 1 hts (gVb (fun _ h => LW_tbl h) lw_1356 lw_1357 lw_1358 lw_109 lw_1359) rfl rfl rfl (by decide +kernel) ⟨Nat.le_of_ble_eq_true rfl, Nat.le_of_ble_eq_true rfl⟩) rfl hl.1 rfl (Nat.le_of_ble_eq_true rfl) dL_law_1324 ⟨Nat.le_refl _, Nat.le_refl _⟩ (fun H locs hP hS => ?_)
        refine lv_aload_n hx hb dL_law_1327 rfl (lv_at hl 2 rfl) ?_
        refine lv_aload_n hx hb dL_law_1328 rfl (lv_at hl 0 rfl) ?_
        refine lv_iload_n hx hb dL_law_1329 rfl (lv_at hl 3 rfl) ?_
        refine lv_iconst (v := 1) hx hb dL_law_1330 (by decide) ?_
        refine lv_iadd hx hb dL_law_1331 ?_
        obtain ⟨g408, h⟩ := gd_s h
        refine va_sld hx hb hX hbl hbA hS (ix_in g408) dL_law_1332 ?_
        obtain ⟨r410, z411, h409, h⟩ := bd_s h
        refine y_Vi (Rz := (r410, z411)) (As := [.int (xs (Int32.toNatClampNeg (v3 + 1)))]) (rest := [.int r406]) ⟨hx, hb, hml, hown, hts⟩ hK hP hS hAW (kd_lt k_172 (by decide)) (cell_12 k_172) rfl (m_X12_untell hG   h409) (cwV 1 hts (gVb (fun _ h => LW_tbl h) lw_2096 lw_2097 lw_2098 lw_125 lw_2099) rfl rfl rfl (by decide +kernel) ⟨Nat.le_of_ble_eq_true rfl, Nat.le_of_ble_eq_true rfl⟩) rfl hl.1 rfl (Nat.le_of_ble_eq_true rfl) dL_law_1333 ⟨Nat.le_refl _, Nat.le_refl _⟩ (fun H locs hP hS => ?_)
        refine lv_icmp_eq (tgt := 1522) hx hb dL_law_1336 (by decide) (fun c412 => ?_) (fun c412 => ?_)
        · rw [if_pos c412] at h
          exact pf_L_law_1522 C hR ih v3 z411  hP hS (lv_sub hl [0, 1, 2, 3] rfl) h
        · rw [if_neg c412] at h
          refine lv_iconst (v := 0) hx hb dL_law_1339 (by decide) ?_
          exact absurd ((congrArg Prod.fst (Option.some.inj h)).trans hR) (show ¬ (0 : Int32) = 1 by decide)
      rw [if_neg c403] at h
      by_cases c413 : ((xs (Int32.toNatClampNeg v3)) &&& 63) = 39
      · rw [if_pos c413] at h
        refine lv_tableIn (off := 1308) (tgt := 1341) hx hb dL_law_33 (by rw [c413]; decide) (by rw [c413]; decide) (by rw [c413]; rfl) (by decide) ?_
        refine lv_aload_n hx hb dL_law_1341 rfl (lv_at hl 1 rfl) ?_
        refine lv_aload_n hx hb dL_law_1342 rfl (lv_at hl 0 rfl) ?_
        refine lv_iload_n hx hb dL_law_1343 rfl (lv_at hl 3 rfl) ?_
        refine lv_iconst (v := 1) hx hb dL_law_1344 (by decide) ?_
        refine lv_iadd hx hb dL_law_1345 ?_
        obtain ⟨g414, h⟩ := gd_s h
        refine va_sld hx hb hX hbl hbA hS (ix_in g414) dL_law_1346 ?_
        obtain ⟨r416, z417, h415, h⟩ := bd_s h
        refine y_Vi (Rz := (r416, z417)) (As := [.int (xs (Int32.toNatClampNeg (v3 + 1)))]) (rest := []) ⟨hx, hb, hml, hown, hts⟩ hK hP hS hAW (kd_lt k_0 (by decide)) (cell_11 k_0) rfl (m_X11_later hG   h415) (cwV 1 hts (gVb (fun _ h => LW_tbl h) lw_1364 lw_1365 lw_1366 lw_109 lw_1367) rfl rfl rfl (by decide +kernel) ⟨Nat.le_of_ble_eq_true rfl, Nat.le_of_ble_eq_true rfl⟩) rfl hl.1 rfl (Nat.le_of_ble_eq_true rfl) dL_law_1347 ⟨Nat.le_refl _, Nat.le_refl _⟩ (fun H locs hP hS => ?_)
        refine lv_aload_n hx hb dL_law_1350 rfl (lv_at hl 2 rfl) ?_
        refine lv_aload_n hx hb dL_law_1351 rfl (lv_at hl 0 rfl) ?_
        refine lv_iload_n hx hb dL_law_1352 rfl (lv_at hl 3 rfl) ?_
        refine lv_iconst (v := 1) hx hb dL_law_1353 (by decide) ?_
        refine lv_iadd hx hb dL_law_1354 ?_
        obtain ⟨g418, h⟩ := gd_s h
        refine va_sld hx hb hX hbl hbA hS (ix_in g418) dL_law_1355 ?_
        obtain ⟨r420, z421, h419, h⟩ := bd_s h
        refine y_Vi (Rz := (r420, z421)) (As := [.int (xs (Int32.toNatClampNeg (v3 + 1)))]) (rest := [.int r416]) ⟨hx, hb, hml, hown, hts⟩ hK hP hS hAW (kd_lt k_172 (by decide)) (cell_12 k_172) rfl (m_X12_later hG   h419) (cwV 1 hts (gVb (fun _ h => LW_tbl h) lw_2100 lw_2101 lw_2102 lw_125 lw_2103) rfl rfl rfl (by decide +kernel) ⟨Nat.le_of_ble_eq_true rfl, Nat.le_of_ble_eq_true rfl⟩) rfl hl.1 rfl (Nat.le_of_ble_eq_true rfl) dL_law_1356 ⟨Nat.le_refl _, Nat.le_refl _⟩ (fun H locs hP hS => ?_)
        refine lv_icmp_eq (tgt := 1522) hx hb dL_law_1359 (by decide) (fun c422 => ?_) (fun c422 => ?_)
        · rw [if_pos c422] at h
          exact pf_L_law_1522 C hR ih v3 z421  hP hS (lv_sub hl [0, 1, 2, 3] rfl) h
        · rw [if_neg c422] at h
          refine lv_iconst (v := 0) hx hb dL_law_1362 (by decide) ?_
          exact absurd ((congrArg Prod.fst (Option.some.inj h)).trans hR) (show ¬ (0 : Int32) = 1 by decide)
      rw [if_neg c413] at h
      by_cases c423 : ((xs (Int32.toNatClampNeg v3)) &&& 63) = 40
      · rw [if_pos c423] at h
        refine lv_tableIn (off := 1331) (tgt := 1364) hx hb dL_law_33 (by rw [c423]; decide) (by rw [c423]; decide) (by rw [c423]; rfl) (by decide) ?_
        refine lv_aload_n hx hb dL_law_1364 rfl (lv_at hl 1 rfl) ?_
        refine lv_aload_n hx hb dL_law_1365 rfl (lv_at hl 0 rfl) ?_
        refine lv_iload_n hx hb dL_law_1366 rfl (lv_at hl 3 rfl) ?_
        refine lv_iconst (v := 1) hx hb dL_law_1367 (by decide) ?_
        refine lv_iadd hx hb dL_law_1368 ?_
        obtain ⟨g424, h⟩ := gd_s h
        refine va_sld hx hb hX hbl hbA hS (ix_in g424) dL_law_1369 ?_
        obtain ⟨r426, z427, h425, h⟩ := bd_s h
        refine y_Vi (Rz := (r426, z427)) (As := [.int (xs (Int32.toNatClampNeg (v3 + 1)))]) (rest := []) ⟨hx, hb, hml, hown, hts⟩ hK hP hS hAW (kd_lt k_0 (by decide)) (cell_11 k_0) rfl (m_X11_fits hG   h425) (cwV 1 hts (gVb (fun _ h => LW_tbl h) lw_1373 lw_1374 lw_1375 lw_109 lw_1376) rfl rfl rfl (by decide +kernel) ⟨Nat.le_of_ble_eq_true rfl, Nat.le_of_ble_eq_true rfl⟩) rfl hl.1 rfl (Nat.le_of_ble_eq_true rfl) dL_law_1370 ⟨Nat.le_refl _, Nat.le_refl _⟩ (fun H locs hP hS => ?_)
        refine lv_aload_n hx hb dL_law_1373 rfl (lv_at hl 2 rfl) ?_
        refine lv_aload_n hx hb dL_law_1374 rfl (lv_at hl 0 rfl) ?_
        refine lv_iload_n hx hb dL_law_1375 rfl (lv_at hl 3 rfl) ?_
        refine lv_iconst (v := 1) hx hb dL_law_1376 (by decide) ?_
        refine lv_iadd hx hb dL_law_1377 ?_
        obtain ⟨g428, h⟩ := gd_s h
        refine va_sld hx hb hX hbl hbA hS (ix_in g428) dL_law_1378 ?_
        obtain ⟨r430, z431, h429, h⟩ := bd_s h
        refine y_Vi (Rz := (r430, z431)) (As := [.int (xs (Int32.toNatClampNeg (v3 + 1)))]) (rest := [.int r426]) ⟨hx, hb, hml, hown, hts⟩ hK hP hS hAW (kd_lt k_172 (by decide)) (cell_12 k_172) rfl (m_X12_fits hG   h429) (cwV 1 hts (gVb (fun _ h => LW_tbl h) lw_2105 lw_2106 lw_2107 lw_125 lw_2108) rfl rfl rfl (by decide +kernel) ⟨Nat.le_of_ble_eq_true rfl, Nat.le_of_ble_eq_true rfl⟩) rfl hl.1 rfl (Nat.le_of_ble_eq_true rfl) dL_law_1379 ⟨Nat.le_refl _, Nat.le_refl _⟩ (fun H locs hP hS => ?_)
        refine lv_icmp_eq (tgt := 1522) hx hb dL_law_1382 (by decide) (fun c432 => ?_) (fun c432 => ?_)
        · rw [if_pos c432] at h
          exact pf_L_law_1522 C hR ih v3 z431  hP hS (lv_sub hl [0, 1, 2, 3] rfl) h
        · rw [if_neg c432] at h
          refine lv_iconst (v := 0) hx hb dL_law_1385 (by decide) ?_
          exact absurd ((congrArg Prod.fst (Option.some.inj h)).trans hR) (show ¬ (0 : Int32) = 1 by decide)
      rw [if_neg c423] at h
      by_cases c433 : ((xs (Int32.toNatClampNeg v3)) &&& 63) = 41
      · rw [if_pos c433] at h
        refine lv_tableIn (off := 1354) (tgt := 1387) hx hb dL_law_33 (by rw [c433]; decide) (by rw [c433]; decide) (by rw [c433]; rfl) (by decide) ?_
        refine lv_aload_n hx hb dL_law_1387 rfl (lv_at hl 1 rfl) ?_
        refine lv_aload_n hx hb dL_law_1388 rfl (lv_at hl 0 rfl) ?_
        refine lv_iload_n hx hb dL_law_1389 rfl (lv_at hl 3 rfl) ?_
        refine lv_iconst (v := 1) hx hb dL_law_1390 (by decide) ?_
        refine lv_iadd hx hb dL_law_1391 ?_
        obtain ⟨g434, h⟩ := gd_s h
        refine va_sld hx hb hX hbl hbA hS (ix_in g434) dL_law_1392 ?_
        refine lv_aload_n hx hb dL_law_1393 rfl (lv_at hl 0 rfl) ?_
        refine lv_iload_n hx hb dL_law_1394 rfl (lv_at hl 3 rfl) ?_
        refine lv_iconst (v := 2) hx hb dL_law_1395 (by decide) ?_
        refine lv_iadd hx hb dL_law_1396 ?_
        obtain ⟨g435, h⟩ := gd_s h
        refine va_sld hx hb hX hbl hbA hS (ix_in g435) dL_law_1397 ?_
        obtain ⟨r437, z438, h436, h⟩ := bd_s h
        refine y_Vi (Rz := (r437, z438)) (As := [.int (xs (Int32.toNatClampNeg (v3 + 1))), .int (xs (Int32.toNatClampNeg (v3 + 2)))]) (rest := []) ⟨hx, hb, hml, hown, hts⟩ hK hP hS hAW (kd_lt k_0 (by decide)) (cell_11 k_0) rfl (m_X11_sure hG   h436) (cwV 2 hts (gVb (fun _ h => LW_tbl h) lw_1391 lw_1392 lw_1393 lw_109 lw_1394) rfl rfl rfl (by decide +kernel) ⟨Nat.le_of_ble_eq_true rfl, Nat.le_of_ble_eq_true rfl⟩) rfl hl.1 rfl (Nat.le_of_ble_eq_true rfl) dL_law_1398 ⟨Nat.le_refl _, Nat.le_refl _⟩ (fun H locs hP hS => ?_)
        refine lv_aload_n hx hb dL_law_1401 rfl (lv_at hl 2 rfl) ?_
        refine lv_aload_n hx hb dL_law_1402 rfl (lv_at hl 0 rfl) ?_
        refine lv_iload_n hx hb dL_law_1403 rfl (lv_at hl 3 rfl) ?_
        refine lv_iconst (v := 1) hx hb dL_law_1404 (by decide) ?_
        refine lv_iadd hx hb dL_law_1405 ?_
        obtain ⟨g439, h⟩ := gd_s h
        refine va_sld hx hb hX hbl hbA hS (ix_in g439) dL_law_1406 ?_
        refine lv_aload_n hx hb dL_law_1407 rfl (lv_at hl 0 rfl) ?_
        refine lv_iload_n hx hb dL_law_1408 rfl (lv_at hl 3 rfl) ?_
        refine lv_iconst (v := 2) hx hb dL_law_1409 (by decide) ?_
        refine lv_iadd hx hb dL_law_1410 ?_
        obtain ⟨g440, h⟩ := gd_s h
        refine va_sld hx hb hX hbl hbA hS (ix_in g440) dL_law_1411 ?_
        obtain ⟨r442, z443, h441, h⟩ := bd_s h
        refine y_Vi (Rz := (r442, z443)) (As := [.int (xs (Int32.toNatClampNeg (v3 + 1))), .int (xs (Int32.toNatClampNeg (v3 + 2)))]) (rest := [.int r437]) ⟨hx, hb, hml, hown, hts⟩ hK hP hS hAW (kd_lt k_172 (by decide)) (cell_12 k_172) rfl (m_X12_sure hG   h441) (cwV 2 hts (gVb (fun _ h => LW_tbl h) lw_2121 lw_2122 lw_2123 lw_125 lw_2124) rfl rfl rfl (by decide +kernel) ⟨Nat.le_of_ble_eq_true rfl, Nat.le_of_ble_eq_true rfl⟩) rfl hl.1 rfl (Nat.le_of_ble_eq_true rfl) dL_law_1412 ⟨Nat.le_refl _, Nat.le_refl _⟩ (fun H locs hP hS => ?_)
        refine lv_icmp_eq (tgt := 1522) hx hb dL_law_1415 (by decide) (fun c444 => ?_) (fun c444 => ?_)
        · rw [if_pos c444] at h
          exact pf_L_law_1522 C hR ih v3 z443  hP hS (lv_sub hl [0, 1, 2, 3] rfl) h
        · rw [if_neg c444] at h
          refine lv_iconst (v := 0) hx hb dL_law_1418 (by decide) ?_
          exact absurd ((congrArg Prod.fst (Option.some.inj h)).trans hR) (show ¬ (0 : Int32) = 1 by decide)
      rw [if_neg c433] at h
      by_cases c445 : ((xs (Int32.toNatClampNeg v3)) &&& 63) = 42
      · rw [if_pos c445] at h
        refine lv_tableIn (off := 1387) (tgt := 1420) hx hb dL_law_33 (by rw [c445]; decide) (by rw [c445]; decide) (by rw [c445]; rfl) (by decide) ?_
        refine lv_aload_n hx hb dL_law_1420 rfl (lv_at hl 1 rfl) ?_
        refine lv_aload_n hx hb dL_law_1421 rfl (lv_at hl 0 rfl) ?_
        refine lv_iload_n hx hb dL_law_1422 rfl (lv_at hl 3 rfl) ?_
        refine lv_iconst (v := 1) hx hb dL_law_1423 (by decide) ?_
        refine lv_iadd hx hb dL_law_1424 ?_
        obtain ⟨g446, h⟩ := gd_s h
        refine va_sld hx hb hX hbl hbA hS (ix_in g446) dL_law_1425 ?_
        refine lv_aload_n hx hb dL_law_1426 rfl (lv_at hl 0 rfl) ?_
        refine lv_iload_n hx hb dL_law_1427 rfl (lv_at hl 3 rfl) ?_
        refine lv_iconst (v := 2) hx hb dL_law_1428 (by decide) ?_
        refine lv_iadd hx hb dL_law_1429 ?_
        obtain ⟨g447, h⟩ := gd_s h
        refine va_sld hx hb hX hbl hbA hS (ix_in g447) dL_law_1430 ?_
        obtain ⟨r449, z450, h448, h⟩ := bd_s h
        refine y_Vi (Rz := (r449, z450)) (As := [.int (xs (Int32.toNatClampNeg (v3 + 1))), .int (xs (Int32.toNatClampNeg (v3 + 2)))]) (rest := []) ⟨hx, hb, hml, hown, hts⟩ hK hP hS hAW (kd_lt k_0 (by decide)) (cell_11 k_0) rfl (m_X11_ask hG   h448) (cwV 2 hts (gVb (fun _ h => LW_tbl h) lw_1399 lw_1400 lw_1401 lw_109 lw_1402) rfl rfl rfl (by decide +kernel) ⟨Nat.le_of_ble_eq_true rfl, Nat.le_of_ble_eq_true rfl⟩) rfl hl.1 rfl (Nat.le_of_ble_eq_true rfl) dL_law_1431 ⟨Nat.le_refl _, Nat.le_refl _⟩ (fun H locs hP hS => ?_)
        refine lv_aload_n hx hb dL_law_1434 rfl (lv_at hl 2 rfl) ?_
        refine lv_aload_n hx hb dL_law_1435 rfl (lv_at hl 0 rfl) ?_
        refine lv_iload_n hx hb dL_law_1436 rfl (lv_at hl 3 rfl) ?_
        refine lv_iconst (v := 1) hx hb dL_law_1437 (by decide) ?_
        refine lv_iadd hx hb dL_law_1438 ?_
        obtain ⟨g451, h⟩ := gd_s h
        refine va_sld hx hb hX hbl hbA hS (ix_in g451) dL_law_1439 ?_
        refine lv_aload_n hx hb dL_law_1440 rfl (lv_at hl 0 rfl) ?_
        refine lv_iload_n hx hb dL_law_1441 rfl (lv_at hl 3 rfl) ?_
        refine lv_iconst (v := 2) hx hb dL_law_1442 (by decide) ?_
        refine lv_iadd hx hb dL_law_1443 ?_
        obtain ⟨g452, h⟩ := gd_s h
        refine va_sld hx hb hX hbl hbA hS (ix_in g452) dL_law_1444 ?_
        obtain ⟨r454, z455, h453, h⟩ := bd_s h
        refine y_Vi (Rz := (r454, z455)) (As := [.int (xs (Int32.toNatClampNeg (v3 + 1))), .int (xs (Int32.toNatClampNeg (v3 + 2)))]) (rest := [.int r449]) ⟨hx, hb, hml, hown, hts⟩ hK hP hS hAW (kd_lt k_172 (by decide)) (cell_12 k_172) rfl (m_X12_ask hG   h453) (cwV 2 hts (gVb (fun _ h => LW_tbl h) lw_2125 lw_2126 lw_2127 lw_125 lw_2128) rfl rfl rfl (by decide +kernel) ⟨Nat.le_of_ble_eq_true rfl, Nat.le_of_ble_eq_true rfl⟩) rfl hl.1 rfl (Nat.le_of_ble_eq_true rfl) dL_law_1445 ⟨Nat.le_refl _, Nat.le_refl _⟩ (fun H locs hP hS => ?_)
        refine lv_icmp_eq (tgt := 1522) hx hb dL_law_1448 (by decide) (fun c456 => ?_) (fun c456 => ?_)
        · rw [if_pos c456] at h
          exact pf_L_law_1522 C hR ih v3 z455  hP hS (lv_sub hl [0, 1, 2, 3] rfl) h
        · rw [if_neg c456] at h
          refine lv_iconst (v := 0) hx hb dL_law_1451 (by decide) ?_
          exact absurd ((congrArg Prod.fst (Option.some.inj h)).trans hR) (show ¬ (0 : Int32) = 1 by decide)
      rw [if_neg c445] at h
      by_cases c457 : ((xs (Int32.toNatClampNeg v3)) &&& 63) = 43
      · rw [if_pos c457] at h
        refine lv_tableIn (off := 1420) (tgt := 1453) hx hb dL_law_33 (by rw [c457]; decide) (by rw [c457]; decide) (by rw [c457]; rfl) (by decide) ?_
        refine lv_aload_n hx hb dL_law_1453 rfl (lv_at hl 1 rfl) ?_
        refine lv_aload_n hx hb dL_law_1454 rfl (lv_at hl 0 rfl) ?_
        refine lv_iload_n hx hb dL_law_1455 rfl (lv_at hl 3 rfl) ?_
        refine lv_iconst (v := 1) hx hb dL_law_1456 (by decide) ?_
        refine lv_iadd hx hb dL_law_1457 ?_
        obtain ⟨g458, h⟩ := gd_s h
        refine va_sld hx hb hX hbl hbA hS (ix_in g458) dL_law_1458 ?_
        obtain ⟨r460, z461, h459, h⟩ := bd_s h
        refine y_Vi (Rz := (r460, z461)) (As := [.int (xs (Int32.toNatClampNeg (v3 + 1)))]) (rest := []) ⟨hx, hb, hml, hown, hts⟩ hK hP hS hAW (kd_lt k_0 (by decide)) (cell_11 k_0) rfl (m_X11_image hG   h459) (cwV 1 hts (gVb (fun _ h => LW_tbl h) lw_1408 lw_1409 lw_1410 lw_109 lw_1411) rfl rfl rfl (by decide +kernel) ⟨Nat.le_of_ble_eq_true rfl, Nat.le_of_ble_eq_true rfl⟩) rfl hl.1 rfl (Nat.le_of_ble_eq_true rfl) dL_law_1459 ⟨Nat.le_refl _, Nat.le_refl _⟩ (fun H locs hP hS => ?_)
        refine lv_aload_n hx hb dL_law_1462 rfl (lv_at hl 2 rfl) ?_
        refine lv_aload_n hx hb dL_law_1463 rfl (lv_at hl 0 rfl) ?_
        refine lv_iload_n hx hb dL_law_1464 rfl (lv_at hl 3 rfl) ?_
        refine lv_iconst (v := 1) hx hb dL_law_1465 (by decide) ?_
        refine lv_iadd hx hb dL_law_1466 ?_
        obtain ⟨g462, h⟩ := gd_s h
        refine va_sld hx hb hX hbl hbA hS (ix_in g462) dL_law_1467 ?_
        obtain ⟨r464, z465, h463, h⟩ := bd_s h
        refine y_Vi (Rz := (r464, z465)) (As := [.int (xs (Int32.toNatClampNeg (v3 + 1)))]) (rest := [.int r460]) ⟨hx, hb, hml, hown, hts⟩ hK hP hS hAW (kd_lt k_172 (by decide)) (cell_12 k_172) rfl (m_X12_image hG   h463) (cwV 1 hts (gVb (fun _ h => LW_tbl h) lw_2134 lw_2135 lw_2136 lw_125 lw_2137) rfl rfl rfl (by decide +kernel) ⟨Nat.le_of_ble_eq_true rfl, Nat.le_of_ble_eq_true rfl⟩) rfl hl.1 rfl (Nat.le_of_ble_eq_true rfl) dL_law_1468 ⟨Nat.le_refl _, Nat.le_refl _⟩ (fun H locs hP hS => ?_)
        refine lv_icmp_eq (tgt := 1522) hx hb dL_law_1471 (by decide) (fun c466 => ?_) (fun c466 => ?_)
        · rw [if_pos c466] at h
          exact pf_L_law_1522 C hR ih v3 z465  hP hS (lv_sub hl [0, 1, 2, 3] rfl) h
        · rw [if_neg c466] at h
          refine lv_iconst (v := 0) hx hb dL_law_1474 (by decide) ?_
          exact absurd ((congrArg Prod.fst (Option.some.inj h)).trans hR) (show ¬ (0 : Int32) = 1 by decide)
      rw [if_neg c457] at h
      by_cases c467 : ((xs (Int32.toNatClampNeg v3)) &&& 63) = 44
      · rw [if_pos c467] at h
        refine lv_tableIn (off := 1443) (tgt := 1476) hx hb dL_law_33 (by rw [c467]; decide) (by rw [c467]; decide) (by rw [c467]; rfl) (by decide) ?_
        refine lv_aload_n hx hb dL_law_1476 rfl (lv_at hl 1 rfl) ?_
        refine lv_aload_n hx hb dL_law_1477 rfl (lv_at hl 0 rfl) ?_
        refine lv_iload_n hx hb dL_law_1478 rfl (lv_at hl 3 rfl) ?_
        refine lv_iconst (v := 1) hx hb dL_law_1479 (by decide) ?_
        refine lv_iadd hx hb dL_law_1480 ?_
        obtain ⟨g468, h⟩ := gd_s h
        refine va_sld hx hb hX hbl hbA hS (ix_in g468) dL_law_1481 ?_
        obtain ⟨r470, z471, h469, h⟩ := bd_s h
        refine y_Vi (Rz := (r470, z471)) (As := [.int (xs (Int32.toNatClampNeg (v3 + 1)))]) (rest := []) ⟨hx, hb, hml, hown, hts⟩ hK hP hS hAW (kd_lt k_0 (by decide)) (cell_11 k_0) rfl (m_X11_restore hG   h469) (cwV 1 hts (gVb (fun _ h => LW_tbl h) lw_1416 lw_1417 lw_1418 lw_109 lw_1419) rfl rfl rfl (by decide +kernel) ⟨Nat.le_of_ble_eq_true rfl, Nat.le_of_ble_eq_true rfl⟩) rfl hl.1 rfl (Nat.le_of_ble_eq_true rfl) dL_law_1482 ⟨Nat.le_refl _, Nat.le_refl _⟩ (fun H locs hP hS => ?_)
        refine lv_aload_n hx hb dL_law_1485 rfl (lv_at hl 2 rfl) ?_
        refine lv_aload_n hx hb dL_law_1486 rfl (lv_at hl 0 rfl) ?_
        refine lv_iload_n hx hb dL_law_1487 rfl (lv_at hl 3 rfl) ?_
        refine lv_iconst (v := 1) hx hb dL_law_1488 (by decide) ?_
        refine lv_iadd hx hb dL_law_1489 ?_
        obtain ⟨g472, h⟩ := gd_s h
        refine va_sld hx hb hX hbl hbA hS (ix_in g472) dL_law_1490 ?_
        obtain ⟨r474, z475, h473, h⟩ := bd_s h
        refine y_Vi (Rz := (r474, z475)) (As := [.int (xs (Int32.toNatClampNeg (v3 + 1)))]) (rest := [.int r470]) ⟨hx, hb, hml, hown, hts⟩ hK hP hS hAW (kd_lt k_172 (by decide)) (cell_12 k_172) rfl (m_X12_restore hG   h473) (cwV 1 hts (gVb (fun _ h => LW_tbl h) lw_2141 lw_2142 lw_2143 lw_125 lw_2144) rfl rfl rfl (by decide +kernel) ⟨Nat.le_of_ble_eq_true rfl, Nat.le_of_ble_eq_true rfl⟩) rfl hl.1 rfl (Nat.le_of_ble_eq_true rfl) dL_law_1491 ⟨Nat.le_refl _, Nat.le_refl _⟩ (fun H locs hP hS => ?_)
        refine lv_icmp_eq (tgt := 1522) hx hb dL_law_1494 (by decide) (fun c476 => ?_) (fun c476 => ?_)
        · rw [if_pos c476] at h
          exact pf_L_law_1522 C hR ih v3 z475  hP hS (lv_sub hl [0, 1, 2, 3] rfl) h
        · rw [if_neg c476] at h
          refine lv_iconst (v := 0) hx hb dL_law_1497 (by decide) ?_
          exact absurd ((congrArg Prod.fst (Option.some.inj h)).trans hR) (show ¬ (0 : Int32) = 1 by decide)
      rw [if_neg c467] at h
      by_cases c477 : ((xs (Int32.toNatClampNeg v3)) &&& 63) = 45
      · rw [if_pos c477] at h
        refine lv_tableIn (off := 1466) (tgt := 1499) hx hb dL_law_33 (by rw [c477]; decide) (by rw [c477]; decide) (by rw [c477]; rfl) (by decide) ?_
        refine lv_aload_n hx hb dL_law_1499 rfl (lv_at hl 1 rfl) ?_
        refine lv_aload_n hx hb dL_law_1500 rfl (lv_at hl 0 rfl) ?_
        refine lv_iload_n hx hb dL_law_1501 rfl (lv_at hl 3 rfl) ?_
        refine lv_iconst (v := 1) hx hb dL_law_1502 (by decide) ?_
        refine lv_iadd hx hb dL_law_1503 ?_
        obtain ⟨g478, h⟩ := gd_s h
        refine va_sld hx hb hX hbl hbA hS (ix_in g478) dL_law_1504 ?_
        obtain ⟨r480, z481, h479, h⟩ := bd_s h
        refine y_Vi (Rz := (r480, z481)) (As := [.int (xs (Int32.toNatClampNeg (v3 + 1)))]) (rest := []) ⟨hx, hb, hml, hown, hts⟩ hK hP hS hAW (kd_lt k_0 (by decide)) (cell_11 k_0) rfl (m_X11_about hG   h479) (cwV 1 hts (gVb (fun _ h => LW_tbl h) lw_1420 lw_1421 lw_1422 lw_109 lw_1423) rfl rfl rfl (by decide +kernel) ⟨Nat.le_of_ble_eq_true rfl, Nat.le_of_ble_eq_true rfl⟩) rfl hl.1 rfl (Nat.le_of_ble_eq_true rfl) dL_law_1505 ⟨Nat.le_refl _, Nat.le_refl _⟩ (fun H locs hP hS => ?_)
        refine lv_aload_n hx hb dL_law_1508 rfl (lv_at hl 2 rfl) ?_
        refine lv_aload_n hx hb dL_law_1509 rfl (lv_at hl 0 rfl) ?_
        refine lv_iload_n hx hb dL_law_1510 rfl (lv_at hl 3 rfl) ?_
        refine lv_iconst (v := 1) hx hb dL_law_1511 (by decide) ?_
        refine lv_iadd hx hb dL_law_1512 ?_
        obtain ⟨g482, h⟩ := gd_s h
        refine va_sld hx hb hX hbl hbA hS (ix_in g482) dL_law_1513 ?_
        obtain ⟨r484, z485, h483, h⟩ := bd_s h
        refine y_Vi (Rz := (r484, z485)) (As := [.int (xs (Int32.toNatClampNeg (v3 + 1)))]) (rest := [.int r480]) ⟨hx, hb, hml, hown, hts⟩ hK hP hS hAW (kd_lt k_172 (by decide)) (cell_12 k_172) rfl (m_X12_about hG   h483) (cwV 1 hts (gVb (fun _ h => LW_tbl h) lw_2145 lw_2146 lw_2147 lw_125 lw_2148) rfl rfl rfl (by decide +kernel) ⟨Nat.le_of_ble_eq_true rfl, Nat.le_of_ble_eq_true rfl⟩) rfl hl.1 rfl (Nat.le_of_ble_eq_true rfl) dL_law_1514 ⟨Nat.le_refl _, Nat.le_refl _⟩ (fun H locs hP hS => ?_)
        refine lv_icmp_eq (tgt := 1522) hx hb dL_law_1517 (by decide) (fun c486 => ?_) (fun c486 => ?_)
        · rw [if_pos c486] at h
          exact pf_L_law_1522 C hR ih v3 z485  hP hS (lv_sub hl [0, 1, 2, 3] rfl) h
        · rw [if_neg c486] at h
          refine lv_iconst (v := 0) hx hb dL_law_1520 (by decide) ?_
          exact absurd ((congrArg Prod.fst (Option.some.inj h)).trans hR) (show ¬ (0 : Int32) = 1 by decide)
      rw [if_neg c477] at h
      have n487 : (((xs (Int32.toNatClampNeg v3)) &&& 63) : Int32).toInt < 0 ∨ 45 < (((xs (Int32.toNatClampNeg v3)) &&& 63) : Int32).toInt := by
        have c3_n := lv_neT (a := 0) c3 (by decide)
        have c21_n := lv_neT (a := 1) c21 (by decide)
        have c31_n := lv_neT (a := 2) c31 (by decide)
        have c39_n := lv_neT (a := 3) c39 (by decide)
        have c49_n := lv_neT (a := 4) c49 (by decide)
        have c61_n := lv_neT (a := 5) c61 (by decide)
        have c73_n := lv_neT (a := 6) c73 (by decide)
        have c85_n := lv_neT (a := 7) c85 (by decide)
        have c99_n := lv_neT (a := 8) c99 (by decide)
        have c113_n := lv_neT (a := 9) c113 (by decide)
        have c125_n := lv_neT (a := 10) c125 (by decide)
        have c135_n := lv_neT (a := 11) c135 (by decide)
        have c147_n := lv_neT (a := 12) c147 (by decide)
        have c155_n := lv_neT (a := 13) c155 (by decide)
        have c163_n := lv_neT (a := 14) c163 (by decide)
        have c173_n := lv_neT (a := 15) c173 (by decide)
        have c181_n := lv_neT (a := 16) c181 (by decide)
        have c191_n := lv_neT (a := 17) c191 (by decide)
        have c201_n := lv_neT (a := 18) c201 (by decide)
        have c209_n := lv_neT (a := 19) c209 (by decide)
        have c219_n := lv_neT (a := 20) c219 (by decide)
        have c235_n := lv_neT (a := 21) c235 (by decide)
        have c249_n := lv_neT (a := 22) c249 (by decide)
        have c257_n := lv_neT (a := 23) c257 (by decide)
        have c265_n := lv_neT (a := 24) c265 (by decide)
        have c279_n := lv_neT (a := 25) c279 (by decide)
        have c291_n := lv_neT (a := 26) c291 (by decide)
        have c303_n := lv_neT (a := 27) c303 (by decide)
        have c313_n := lv_neT (a := 28) c313 (by decide)
        have c323_n := lv_neT (a := 29) c323 (by decide)
        have c337_n := lv_neT (a := 30) c337 (by decide)
        have c345_n := lv_neT (a := 31) c345 (by decide)
        have c355_n := lv_neT (a := 32) c355 (by decide)
        have c363_n := lv_neT (a := 33) c363 (by decide)
        have c373_n := lv_neT (a := 34) c373 (by decide)
        have c385_n := lv_neT (a := 35) c385 (by decide)
        have c395_n := lv_neT (a := 36) c395 (by decide)
        have c399_n := lv_neT (a := 37) c399 (by decide)
        have c403_n := lv_neT (a := 38) c403 (by decide)
        have c413_n := lv_neT (a := 39) c413 (by decide)
        have c423_n := lv_neT (a := 40) c423 (by decide)
        have c433_n := lv_neT (a := 41) c433 (by decide)
        have c445_n := lv_neT (a := 42) c445 (by decide)
        have c457_n := lv_neT (a := 43) c457 (by decide)
        have c467_n := lv_neT (a := 44) c467 (by decide)
        have c477_n := lv_neT (a := 45) c477 (by decide)
        omega
      refine lv_tableOut (tgt := 1522) hx hb dL_law_33 n487 (by decide) ?_
      exact pf_L_law_1522 C hR ih v3 z  hP hS (lv_sub hl [0, 1, 2, 3] rfl) h
