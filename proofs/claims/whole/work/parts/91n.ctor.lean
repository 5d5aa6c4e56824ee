def JF (G : wG) (S : JSt) (U : State) : Prop := Sf S (AB G) U U.heap ∧ vk_R RX6 23 kT S.1 U ∧ va_Nw (.methodLinkNest RX11 77 yX3_init "ThreeTiers") U
def PreX (G : wG) (S : JSt) (z : SC) (U : State) : Prop := PreC G z U ∧ JF G S U
theorem JF.now {G : wG} {S : JSt} {s : State} {H : Heap} {locs : List Loc} (hJ : JF G S s) (hS : va_S (AB G) s.heap H locs) : Sf S NF s H := (hJ.1.kept hS.2.1).nf
theorem JF.go {G : wG} {S : JSt} {s U : State} {H : Heap} {locs : List Loc} (hJ : JF G S s) (hS : va_S (AB G) s.heap H locs) (hU : U.heap = H) (hW : s.WarmedH U.vm) : JF G S U := ⟨by rw [hU]; exact (hJ.1.kept hS.2.1).moved hW.alike, hJ.2.1.warm hW, va_Nw.warmM hW hJ.2.2⟩
theorem preX_blind {G : wG} {S : JSt} {z : SC} {av : List Value} : FrameBlind (va_Pc av (PreX G S z)) := fun a U g mk q => ⟨q.1, ⟨q.2.1.1, WKC.moved (u := U) (U := U.calling g mk a) (Vm.Alike.refl U.vm) q.2.1.2⟩, Sf.moved (u := U) (U := U.calling g mk a) (Vm.Alike.refl U.vm) q.2.2.1, vk_R.same (u := U) (U := U.calling g mk a) rfl q.2.2.2.1, va_Nw.same (u := U) (U := U.calling g mk a) rfl rfl q.2.2.2.2⟩
def jok (i : Int32) : Bool := decide (¬ i < 0 ∧ i < 99)
theorem jok_s {i : Int32} (h : jok i = true) : ¬ i < 0 ∧ i < 99 := of_decide_eq_true h
section CROWS2
variable {p : Program} {l : Launch} {e : Env} {R : Room} {s : State} {m : MethodId} {args : Array Value} {below : List Frame} {meth : Method} {c : Code} {H : Heap} {locs : List Loc} {cells slots : Nat} {Q : State → Prop}
variable {cc : ByteArray} {pc : Nat} {ls : Array Slot} {rest st : List Value} {H0 : Heap} {G : wG} {z : SC}
variable {y : MethodName} {ws : List Cond} {rm : Room} {nL n index maxL q mc ms : Nat} {own host : String} {Ts : List Cond} {bytes : ByteArray} {As : List Value} {S : JSt}
theorem x_CIX {Rz : SC} (C : CallFix p m c cc nL s args Ts own) (hK : WKC G s) (hJ : JF G S s) (hP : WC G z H) (hS : va_S (AB G) s.heap H locs) (hM : Met l y ws rm (va_Pc (.ref (G.2.2 q) :: As) (PreX G S z)) (va_Qv (fun u => u = Rz) (PreC G) (AB G)) mc ms (AB G)) (cw : CallB R s args own index y bytes maxL none ws rm mc ms n ∧ y.name = "<init>" ∧ (Cond.instanceMethod y).before args s = true) (hn : As.length = n) (hsize : ls.size = nL) (hst : st = As.reverse ++ .ref (G.2.2 q) :: rest) (hW : (rest.map fun v => v.category).sum ≤ 8) (hd : decode cc pc = .ok (.invokespecial index, 3)) (hf : cells + mc ≤ R.cells ∧ slots + ms ≤ R.slots)
    (kk : ∀ (H1 : Heap) (locs1 : List Loc), WC G Rz H1 → va_S (AB G) s.heap H1 locs1 → W p l e R s m args below meth c H1 locs1 (cells + mc) (slots + ms) Q (F0 m (pc + 3) ls rest)) : W p l e R s m args below meth c H locs cells slots Q (F0 m pc ls st) :=
  va_callv (va_runI C hM cw ⟨preX_blind, fun U hU hW => ⟨rfl, ⟨by rw [hU]; exact hP, WKC.moved hW.alike hK⟩, hJ.go hS hU hW⟩⟩ rfl hn hsize hst (lv_room hW) hd hf) hS (fun _ _ h => h) (fun _ h => h) (fun u t H1 locs1 ht hvm hw hB _ _ hS1 => by
    subst hw
    exact kk H1 locs1 (by rw [← ht]; exact hB.1) hS1)
theorem x_CIN {Rz : SC} (C : CallFix p m c cc nL s args Ts own) (hK : WKC G s) (hP : WC G z H) (hS : va_S (AB G) H0 H locs) (hM : Met l y ws rm (va_Pc (.ref (G.2.2 q) :: As) (PreC G z)) (va_Qv (fun u => u = Rz) (PreC G) (AB G)) mc ms (AB G)) (cw : va_CN R s args own index y host bytes maxL none ws rm mc ms n ∧ y.name = "<init>" ∧ (Cond.instanceMethod y).before args s = true) (hn : As.length = n) (hsize : ls.size = nL) (hst : st = As.reverse ++ .ref (G.2.2 q) :: rest) (hW : (rest.map fun v => v.category).sum ≤ 8) (hd : decode cc pc = .ok (.invokespecial index, 3)) (hf : cells + mc ≤ R.cells ∧ slots + ms ≤ R.slots)
    (kk : ∀ (H1 : Heap) (locs1 : List Loc), WC G Rz H1 → va_S (AB G) H0 H1 locs1 → W p l e R s m args below meth c H1 locs1 (cells + mc) (slots + ms) Q (F0 m (pc + 3) ls rest)) : W p l e R s m args below meth c H locs cells slots Q (F0 m pc ls st) :=
  va_callv (va_runIN C hM cw ⟨preC_blind, fun U hU hW => ⟨rfl, by rw [hU]; exact hP, WKC.moved hW.alike hK⟩⟩ rfl hn hsize hst (lv_room hW) hd hf) hS (fun _ _ h => h) (fun _ h => h) (fun u t H1 locs1 ht hvm hw hB _ _ hS1 => by
    subst hw
    exact kk H1 locs1 (by rw [← ht]; exact hB.1) hS1)
end CROWS2
theorem lw_133 : Cond.methodLink RX11 1 objectInit ∈ LW := inLW 133 (by decide +kernel) (by decide +kernel)
theorem lw_136 : Cond.classLink RX11 13 RX7 ∈ LW := inLW 136 (by decide +kernel) (by decide +kernel)
theorem lw_137 : Cond.instantiable RX7 16 ∈ LW := inLW 137 (by decide +kernel) (by decide +kernel)
theorem lw_138 : Cond.methodLink RX11 15 yX7_init ∈ LW := inLW 138 (by decide +kernel) (by decide +kernel)
theorem lw_139 : Cond.instanceMethod yX7_init ∈ LW := inLW 139 (by decide +kernel) (by decide +kernel)
theorem lw_140 : Cond.code yX7_init cX7_init 1 none ∈ LW := inLW 140 (by decide +kernel) (by decide +kernel)
theorem lw_174 : Cond.arrayClass .byte ∈ LW := inLW 174 (by decide +kernel) (by decide +kernel)
theorem lw_261 : Cond.classLink RX11 23 RX6 ∈ LW := inLW 261 (by decide +kernel) (by decide +kernel)
theorem lw_262 : Cond.instantiable RX6 13 ∈ LW := inLW 262 (by decide +kernel) (by decide +kernel)
theorem lw_263 : Cond.methodLink RX11 25 yX6_init ∈ LW := inLW 263 (by decide +kernel) (by decide +kernel)
theorem lw_264 : Cond.instanceMethod yX6_init ∈ LW := inLW 264 (by decide +kernel) (by decide +kernel)
theorem lw_265 : Cond.code yX6_init cX6_init 6 none ∈ LW := inLW 265 (by decide +kernel) (by decide +kernel)
theorem lw_266 : Cond.methodLink RX6 3 objectInit ∈ LW := inLW 266 (by decide +kernel) (by decide +kernel)
theorem lw_268 : Cond.methodLink RX6 25 yJ0_length_8abf5 ∈ LW := inLW 268 (by decide +kernel) (by decide +kernel)
theorem lw_269 : Cond.instanceMethod yJ0_length_8abf5 ∈ LW := inLW 269 (by decide +kernel) (by decide +kernel)
theorem lw_270 : Cond.selects RJ0 yJ0_length_8abf5 yJ0_length_8abf5 ∈ LW := inLW 270 (by decide +kernel) (by decide +kernel)
theorem lw_271 : Cond.code yJ0_length_8abf5 cJ0_length_8abf5 1 (some .int) ∈ LW := inLW 271 (by decide +kernel) (by decide +kernel)
theorem lw_278 : Cond.methodLink RX6 31 yJ0_charAt_5068e ∈ LW := inLW 278 (by decide +kernel) (by decide +kernel)
theorem lw_279 : Cond.instanceMethod yJ0_charAt_5068e ∈ LW := inLW 279 (by decide +kernel) (by decide +kernel)
theorem lw_280 : Cond.selects RJ0 yJ0_charAt_5068e yJ0_charAt_5068e ∈ LW := inLW 280 (by decide +kernel) (by decide +kernel)
theorem lw_281 : Cond.code yJ0_charAt_5068e cJ0_charAt_5068e 2 (some .char) ∈ LW := inLW 281 (by decide +kernel) (by decide +kernel)
theorem lw_362 : Cond.classLink RX11 32 RX1 ∈ LW := inLW 362 (by decide +kernel) (by decide +kernel)
theorem lw_363 : Cond.instantiable RX1 6 ∈ LW := inLW 363 (by decide +kernel) (by decide +kernel)
theorem lw_364 : Cond.methodLink RX11 34 yX1_init ∈ LW := inLW 364 (by decide +kernel) (by decide +kernel)
theorem lw_365 : Cond.instanceMethod yX1_init ∈ LW := inLW 365 (by decide +kernel) (by decide +kernel)
theorem lw_366 : Cond.code yX1_init cX1_init 2 none ∈ LW := inLW 366 (by decide +kernel) (by decide +kernel)
theorem lw_448 : Cond.classLink RX11 43 RX10 ∈ LW := inLW 448 (by decide +kernel) (by decide +kernel)
theorem lw_449 : Cond.instantiable RX10 7 ∈ LW := inLW 449 (by decide +kernel) (by decide +kernel)
theorem lw_450 : Cond.methodLink RX11 45 yX10_init ∈ LW := inLW 450 (by decide +kernel) (by decide +kernel)
theorem lw_451 : Cond.instanceMethod yX10_init ∈ LW := inLW 451 (by decide +kernel) (by decide +kernel)
theorem lw_452 : Cond.code yX10_init cX10_init 3 none ∈ LW := inLW 452 (by decide +kernel) (by decide +kernel)
theorem lw_479 : Cond.classLink RX11 52 RX0 ∈ LW := inLW 479 (by decide +kernel) (by decide +kernel)
theorem lw_480 : Cond.instantiable RX0 11 ∈ LW := inLW 480 (by decide +kernel) (by decide +kernel)
theorem lw_481 : Cond.methodLink RX11 54 yX0_init ∈ LW := inLW 481 (by decide +kernel) (by decide +kernel)
theorem lw_482 : Cond.instanceMethod yX0_init ∈ LW := inLW 482 (by decide +kernel) (by decide +kernel)
theorem lw_483 : Cond.code yX0_init cX0_init 4 none ∈ LW := inLW 483 (by decide +kernel) (by decide +kernel)
theorem lw_521 : Cond.classLink RX11 61 RX8 ∈ LW := inLW 521 (by decide +kernel) (by decide +kernel)
theorem lw_522 : Cond.instantiable RX8 9 ∈ LW := inLW 522 (by decide +kernel) (by decide +kernel)
theorem lw_523 : Cond.methodLink RX11 63 yX8_init ∈ LW := inLW 523 (by decide +kernel) (by decide +kernel)
theorem lw_524 : Cond.instanceMethod yX8_init ∈ LW := inLW 524 (by decide +kernel) (by decide +kernel)
theorem lw_525 : Cond.code yX8_init cX8_init 3 none ∈ LW := inLW 525 (by decide +kernel) (by decide +kernel)
theorem lw_559 : Cond.classLink RX11 68 RX5 ∈ LW := inLW 559 (by decide +kernel) (by decide +kernel)
theorem lw_560 : Cond.instantiable RX5 16 ∈ LW := inLW 560 (by decide +kernel) (by decide +kernel)
theorem lw_561 : Cond.methodLink RX11 70 yX5_init ∈ LW := inLW 561 (by decide +kernel) (by decide +kernel)
theorem lw_562 : Cond.instanceMethod yX5_init ∈ LW := inLW 562 (by decide +kernel) (by decide +kernel)
theorem lw_563 : Cond.code yX5_init cX5_init 4 none ∈ LW := inLW 563 (by decide +kernel) (by decide +kernel)
theorem lw_621 : Cond.classLink RX11 75 RX3 ∈ LW := inLW 621 (by decide +kernel) (by decide +kernel)
theorem lw_622 : Cond.instantiable RX3 4 ∈ LW := inLW 622 (by decide +kernel) (by decide +kernel)
theorem lw_624 : Cond.instanceMethod yX3_init ∈ LW := inLW 624 (by decide +kernel) (by decide +kernel)
theorem lw_625 : Cond.code yX3_init cX3_init 1 none ∈ LW := inLW 625 (by decide +kernel) (by decide +kernel)
theorem lw_644 : Cond.classLink RX11 82 RX4 ∈ LW := inLW 644 (by decide +kernel) (by decide +kernel)
theorem lw_645 : Cond.instantiable RX4 15 ∈ LW := inLW 645 (by decide +kernel) (by decide +kernel)
theorem lw_646 : Cond.methodLink RX11 84 yX4_init ∈ LW := inLW 646 (by decide +kernel) (by decide +kernel)
theorem lw_647 : Cond.instanceMethod yX4_init ∈ LW := inLW 647 (by decide +kernel) (by decide +kernel)
theorem lw_648 : Cond.code yX4_init cX4_init 3 none ∈ LW := inLW 648 (by decide +kernel) (by decide +kernel)
def fnC_X6_init_82 (n0 : Nat) (k27 : Nat → Int32 → Int32 → SC → Option SC) (p0 : Nat) (v3 : Int32) (v4 : Int32) (z : SC) : Option SC := k27 p0 v3 (v4 + 1) z
set_option maxHeartbeats 4000000 in
set_option maxRecDepth 100000 in
theorem pfC_X6_init_82 {p : Program} {l : Launch} {e : Env} {s : State} {m : MethodId} {args : Array Value} {below : List Frame} {meth : Method} {c : Code} {G : wG} (C : CC p s m args meth c cX6_init 6 (wsU yX6_init cX6_init 6 none) RX6 "<init>" G) {S : JSt} (hJ : JF G S s) {Rz : SC} (n0 : Nat) {k27 : Nat → Int32 → Int32 → SC → Option SC} (hk_27 : ∀ (p0 : Nat) (v3 : Int32) (v4 : Int32) (z : SC) (H : Heap) (locs : List Loc) (ls : Array Slot), WC G z H → va_S (AB G) s.heap H locs → lv_has ls 6 [(0, .ref (G.2.2 p0)), (3, .int v3), (4, .int v4)] → k27 p0 v3 v4 z = some Rz → W p l e (rmc 6 1 19) s m args below meth c H locs (z.1 - n0) (sl n0 z.1) (MQ below (va_Qv (fun u => u = Rz) (PreC G) (AB G)) args s 1 19 (AB G)) (F0 m 27 ls [])) (p0 : Nat) (v3 : Int32) (v4 : Int32) (z : SC) {H : Heap} {locs : List Loc} {ls : Array Slot} (hP : WC G z H) (hS : va_S (AB G) s.heap H locs) (hl : lv_has ls 6 [(0, .ref (G.2.2 p0)), (3, .int v3), (4, .int v4)]) (h : fnC_X6_init_82 n0 k27 p0 v3 v4 z = some Rz) : W p l e (rmc 6 1 19) s m args below meth c H locs (z.1 - n0) (sl n0 z.1) (MQ below (va_Qv (fun u => u = Rz) (PreC G) (AB G)) args s 1 19 (AB G)) (F0 m 82 ls []) := by
  obtain ⟨hx, hb, hml, hown, hts, hr, hlocks, hK, hAO, hG, hin⟩ := id C
  unfold fnC_X6_init_82 at h
  refine lv_iinc (v := (v4 + 1)) (lv' := [(4, .int (v4 + 1)), (0, .ref (G.2.2 p0)), (3, .int v3)]) hx hb dX6_init_82 hl (k := 2) rfl rfl (by decide) rfl (fun ls hl => ?_)
  refine lv_goto (tgt := 27) hx hb dX6_init_85 (by decide) ?_
  exact hk_27 p0 v3 (v4 + 1) z _ _ _ hP hS (lv_sub hl [1, 2, 0] rfl) h
def fnC_X6_init_88 (n0 : Nat) (p0 : Nat) (z : SC) : Option SC := gd (og z p0 6) (nm (cI z p0 12 (-1)) (fun z2 => gd (rg n0 1 19 z2) (some z2)))
set_option maxHeartbeats 4000000 in
set_option maxRecDepth 100000 in
theorem pfC_X6_init_88 {p : Program} {l : Launch} {e : Env} {s : State} {m : MethodId} {args : Array Value} {below : List Frame} {meth : Method} {c : Code} {G : wG} (C : CC p s m args meth c cX6_init 6 (wsU yX6_init cX6_init 6 none) RX6 "<init>" G) {S : JSt} (hJ : JF G S s) {Rz : SC} (n0 : Nat) (p0 : Nat) (z : SC) {H : Heap} {locs : List Loc} {ls : Array Slot} (hP : WC G z H) (hS : va_S (AB G) s.heap H locs) (hl : lv_has ls 6 [(0, .ref (G.2.2 p0))]) (h : fnC_X6_init_88 n0  p0 z = some Rz) : W p l e (rmc 6 1 19) s m args below meth c H locs (z.1 - n0) (sl n0 z.1) (MQ below (va_Qv (fun u => u = Rz) (PreC G) (AB G)) args s 1 19 (AB G)) (F0 m 88 ls []) := by
  obtain ⟨hx, hb, hml, hown, hts, hr, hlocks, hK, hAO, hG, hin⟩ := id C
  unfold fnC_X6_init_88 at h
  refine lv_aload_n hx hb dX6_init_88 rfl (lv_at hl 0 rfl) ?_
  refine lv_iconst (v := (-1)) hx hb dX6_init_89 (by decide) ?_
  obtain ⟨g1, h⟩ := gd_s h
  obtain ⟨z2, e_z2, h⟩ := nm_s h
  refine zp_6_12 hx hb hts (inU inW_X6) hown hK hG hP hS (og_s g1).1 (og_s g1).2 (hts _ (List.mem_cons_of_mem _ lw_333)) dX6_init_90 (fun H locs hP hS => ?_)
  rw [← e_z2] at hP
  refine W.cs (cells' := z2.1 - n0) (slots' := sl n0 z2.1) (by rw [e_z2]; rfl) (by rw [e_z2]; rfl) ?_
  obtain ⟨g3, h⟩ := gd_s h
  exact x_cvret hx hb hr hlocks ⟨hK, hAO⟩ hP hS h (rg_s g3).1 (rg_s g3).2 dX6_init_93
def fnC_X6_init_27 (n0 : Nat) : Nat → Nat → Int32 → Int32 → SC → Option SC
  | 0, _, _, _, _ => none
  | n + 1, p0, v3, v4, z => gd (cg n0 1 19 z 0 0) ((if 99 ≤ v4 then fnC_X6_init_88 n0  p0 z else (if 19 ≤ v3 then fnC_X6_init_88 n0  p0 z else gd (cg n0 1 19 z 0 0) (gd (jok v4) (nm (jch v4) (fun v5_6 => (if v5_6 = 32 then fnC_X6_init_82 n0 (fnC_X6_init_27 n0  n) p0 (v3 + 1) v4 z else gd (og z p0 6) (bo (z.2.2 p0 2) (fun q9 => gd (og z p0 6) (bo (z.2.2 p0 2) (fun q11 => gd (og z q11 15) (gd (ix v3 (ln q11)) (gd (cg n0 1 19 z 0 0) (gd (og z q9 15) (gd (ix v3 (ln q9)) (nm (cJ z q9 (Int32.toNatClampNeg v3) (wLt (z.2.1.2 q11 (Int32.toNatClampNeg v3)) v5_6)) (fun z17 => fnC_X6_init_82 n0 (fnC_X6_init_27 n0  n) p0 v3 v4 z17)))))))))))))))))
set_option maxHeartbeats 4000000 in
set_option maxRecDepth 100000 in
theorem pfC_X6_init_27 {p : Program} {l : Launch} {e : Env} {s : State} {m : MethodId} {args : Array Value} {below : List Frame} {meth : Method} {c : Code} {G : wG} (C : CC p s m args meth c cX6_init 6 (wsU yX6_init cX6_init 6 none) RX6 "<init>" G) {S : JSt} (hJ : JF G S s) {Rz : SC} (n0 : Nat) : ∀ (n : Nat) (p0 : Nat) (v3 : Int32) (v4 : Int32) (z : SC) (H : Heap) (locs : List Loc) (ls : Array Slot), WC G z H → va_S (AB G) s.heap H locs → lv_has ls 6 [(0, .ref (G.2.2 p0)), (3, .int v3), (4, .int v4)] → fnC_X6_init_27 n0  n p0 v3 v4 z = some Rz → W p l e (rmc 6 1 19) s m args below meth c H locs (z.1 - n0) (sl n0 z.1) (MQ below (va_Qv (fun u => u = Rz) (PreC G) (AB G)) args s 1 19 (AB G)) (F0 m 27 ls []) := by
  obtain ⟨hx, hb, hml, hown, hts, hr, hlocks, hK, hAO, hG, hin⟩ := id C
  intro n
  induction n with
  | zero => intro p0 v3 v4 z H locs ls hP hS hl h; cases h
  | succ n ih =>
    intro p0 v3 v4 z H locs ls hP hS hl h
    rw [fnC_X6_init_27] at h
    refine lv_iload hx hb dX6_init_27 (lv_at hl 2 rfl) ?_
    refine va_ldcS hx hb hown hJ.2.1 dX6_init_29 ?_
    obtain ⟨g1, h⟩ := gd_s h
    refine x_JV (S := S) (As := []) (rest := [.int v4]) ⟨hx, hb, hml, hown, hts⟩ (JF.now hJ hS) hS mJ_len (cwV 0 hts (gV lw_268 lw_269 lw_270 lw_113 lw_271) rfl rfl rfl (by decide +kernel) ⟨Nat.le_of_ble_eq_true rfl, Nat.le_of_ble_eq_true rfl⟩) rfl hl.1 rfl (Nat.le_of_ble_eq_true rfl) dX6_init_31 (cg_s g1).2 (fun locs hS => ?_)
    refine lv_icmp_ge (tgt := 88) hx hb dX6_init_34 (by decide) (fun c2 => ?_) (fun c2 => ?_)
    · rw [if_pos c2] at h
      exact pfC_X6_init_88 C hJ n0  p0 z hP hS (lv_sub hl [0] rfl) h
    · rw [if_neg c2] at h
      refine lv_iload_n hx hb dX6_init_37 rfl (lv_at hl 1 rfl) ?_
      refine lv_bipush (v := 19) hx hb dX6_init_38 (by decide) ?_
      refine lv_icmp_ge (tgt := 88) hx hb dX6_init_40 (by decide) (fun c3 => ?_) (fun c3 => ?_)
      · rw [if_pos c3] at h
        exact pfC_X6_init_88 C hJ n0  p0 z hP hS (lv_sub hl [0] rfl) h
      · rw [if_neg c3] at h
        refine va_ldcS hx hb hown hJ.2.1 dX6_init_43 ?_
        refine lv_iload hx hb dX6_init_45 (lv_at hl 2 rfl) ?_
        obtain ⟨g4, h⟩ := gd_s h
        obtain ⟨g5, h⟩ := gd_s h
        refine x_JV (S := S) (As := [.int v4]) (rest := []) ⟨hx, hb, hml, hown, hts⟩ (JF.now hJ hS) hS (mJ_chr (jok_s g5).1 (jok_s g5).2) (cwV 1 hts (gV lw_278 lw_279 lw_280 lw_113 lw_281) rfl rfl rfl (by decide +kernel) ⟨Nat.le_of_ble_eq_true rfl, Nat.le_of_ble_eq_true rfl⟩) rfl hl.1 rfl (Nat.le_of_ble_eq_true rfl) dX6_init_47 (cg_s g4).2 (fun locs hS => ?_)
        obtain ⟨v5_6, e_v5_6, h⟩ := nm_s h
        refine x_top e_v5_6 ?_
        refine lv_istore (lv' := [(5, .int v5_6), (0, .ref (G.2.2 p0)), (3, .int v3), (4, .int v4)]) hx hb dX6_init_50 hl (by decide) rfl (fun ls hl => ?_)
        refine lv_iload hx hb dX6_init_52 (lv_at hl 0 rfl) ?_
        refine lv_bipush (v := 32) hx hb dX6_init_54 (by decide) ?_
        refine lv_icmp_ne (tgt := 65) hx hb dX6_init_56 (by decide) (fun c7 => ?_) (fun c7 => ?_)
        · rw [if_neg c7] at h
          refine lv_aload_n hx hb dX6_init_65 rfl (lv_at hl 1 rfl) ?_
          obtain ⟨g8, h⟩ := gd_s h
          obtain ⟨q9, h_q9, h⟩ := bo_s h
          refine zg_6_2 hx hb hts (inU inW_X6) hown hK hP (og_s g8).1 (og_s g8).2 (hts _ (List.mem_cons_of_mem _ lw_322)) h_q9 dX6_init_66 ?_
          refine lv_iload_n hx hb dX6_init_69 rfl (lv_at hl 2 rfl) ?_
          refine lv_aload_n hx hb dX6_init_70 rfl (lv_at hl 1 rfl) ?_
          obtain ⟨g10, h⟩ := gd_s h
          obtain ⟨q11, h_q11, h⟩ := bo_s h
          refine zg_6_2 hx hb hts (inU inW_X6) hown hK hP (og_s g10).1 (og_s g10).2 (hts _ (List.mem_cons_of_mem _ lw_322)) h_q11 dX6_init_71 ?_
          refine lv_iload_n hx hb dX6_init_74 rfl (lv_at hl 2 rfl) ?_
          obtain ⟨g12, h⟩ := gd_s h
          obtain ⟨g13, h⟩ := gd_s h
          refine zl_15 hx hb hK hP (og_s g12).1 (og_s g12).2 (ix_in g13) dX6_init_75 ?_
          refine lv_iload hx hb dX6_init_76 (lv_at hl 0 rfl) ?_
          obtain ⟨g14, h⟩ := gd_s h
          refine x_PSl (As := [.long (z.2.1.2 q11 (Int32.toNatClampNeg v3)), .int v5_6]) (rest := [.int v3, .ref (G.2.2 q9)]) ⟨hx, hb, hml, hown, hts⟩ hS mP_withLetter (va_cwS 2 hts (gS lw_316 lw_317 lw_112 lw_318) rfl rfl rfl (by decide +kernel) ⟨Nat.le_of_ble_eq_true rfl, Nat.le_of_ble_eq_true rfl⟩) rfl hl.1 rfl (Nat.le_of_ble_eq_true rfl) dX6_init_78 (cg_s g14).2 (fun locs hS => ?_)
          obtain ⟨g15, h⟩ := gd_s h
          obtain ⟨g16, h⟩ := gd_s h
          obtain ⟨z17, e_z17, h⟩ := nm_s h
          refine zs_15 hx hb hK hG hP hS (og_s g15).1 (og_s g15).2 (ix_in g16) dX6_init_81 (fun H locs hP hS => ?_)
          rw [← e_z17] at hP
          refine W.cs (cells' := z17.1 - n0) (slots' := sl n0 z17.1) (by rw [e_z17]; rfl) (by rw [e_z17]; rfl) ?_
          exact pfC_X6_init_82 C hJ n0 ih p0 v3 v4 z17 hP hS (lv_sub hl [1, 2, 3] rfl) h
        · rw [if_pos c7] at h
          refine lv_iinc (v := (v3 + 1)) (lv' := [(3, .int (v3 + 1)), (5, .int v5_6), (0, .ref (G.2.2 p0)), (4, .int v4)]) hx hb dX6_init_59 hl (k := 2) rfl rfl (by decide) rfl (fun ls hl => ?_)
          refine lv_goto (tgt := 82) hx hb dX6_init_62 (by decide) ?_
          exact pfC_X6_init_82 C hJ n0 ih p0 (v3 + 1) v4 z hP hS (lv_sub hl [2, 0, 3] rfl) h
def fnC_X6_init (p0 : Nat) (p1 : Nat) (p2 : Nat) (z : SC) : Option SC := gd (og z p0 6) (nm (cR z p0 0 p1) (fun z2 => gd (og z2 p0 6) (nm (cR z2 p0 1 p2) (fun z4 => gd (ag z.1 1 19 z4 15 19) (gd (ln z4.1 == 19) (nm (cN z4) (fun z7 => gd (og z7 p0 6) (nm (cR z7 p0 2 z4.1) (fun z9 => fnC_X6_init_27 z.1  fu p0 0 0 z9)))))))))
set_option maxHeartbeats 4000000 in
set_option maxRecDepth 100000 in
theorem mC_X6_init {l : Launch} {G : wG} (hG : Gb G) {S : JSt} {p0 : Nat} {p1 : Nat} {p2 : Nat} {z Rz : SC} (h : fnC_X6_init p0 p1 p2 z = some Rz) : Met l yX6_init (wsU yX6_init cX6_init 6 none) (rmc 6 1 19) (va_Pc [.ref (G.2.2 p0), .ref (G.2.2 p1), .ref (G.2.2 p2)] (PreX G S z)) (va_Qv (fun u => u = Rz) (PreC G) (AB G)) 1 19 (AB G) := by
  refine Met.ofW (cc := cX6_init) (maxL := 6) (ret := none) (by decide) rfl ?_
  intro p e s m args below meth c s₁ B hml hv
  obtain ⟨rfl, ⟨hP, hK, hAO⟩, hJ⟩ := hv
  have C : CC p s m ([.ref (G.2.2 p0), .ref (G.2.2 p1), .ref (G.2.2 p2)] : List Value).toArray meth c cX6_init 6 (wsU yX6_init cX6_init 6 none) RX6 "<init>" G := ⟨B.exec, B.bytes, hml, findClass_of_methodNamed B.named, atoms_spec (ws := (wsU yX6_init cX6_init 6 none)) B.pre, B.returns, B.notSynchronized, hK, hAO, hG, (name_of_methodNamed B.named B.method).1⟩
  obtain ⟨hx, hb, -, hown, hts, hr, hlocks, -, -, -, hin⟩ := id C
  have hS : va_S (AB G) s.heap s.heap [] := va_S.rf
  have hl := lv_entry [.ref (G.2.2 p0), .ref (G.2.2 p1), .ref (G.2.2 p2)] (n := 6) (Nat.le_of_ble_eq_true rfl)
  rw [lg_entry_eq]
  generalize (lg_sl [.ref (G.2.2 p0), .ref (G.2.2 p1), .ref (G.2.2 p2)] ++ List.replicate (6 - (lg_sl [.ref (G.2.2 p0), .ref (G.2.2 p1), .ref (G.2.2 p2)]).length) Slot.unset).toArray = ls at hl ⊢
  have hl : lv_has ls 6 [(0, .ref (G.2.2 p0)), (1, .ref (G.2.2 p1)), (2, .ref (G.2.2 p2))] := hl
  refine W.cs (cells' := z.1 - z.1) (slots' := sl z.1 z.1) (Nat.sub_self _).symm (sl_self _).symm ?_
  unfold fnC_X6_init at h
  refine lv_aload_n hx hb dX6_init_0 rfl (lv_at hl 0 rfl) ?_
  refine W.objInit hx hb hown (hts _ (List.mem_cons_of_mem _ lw_266)) (hts _ (List.mem_cons_of_mem _ lw_134)) (hts _ (List.mem_cons_of_mem _ lw_135)) rfl (by rw [hml]; exact hl.1) rfl dX6_init_1 (Nat.le_of_ble_eq_true rfl) (Nat.le_of_ble_eq_true rfl) ?_
  refine W.eq (g2 := F0 m 4 ls []) rfl ?_
  refine lv_aload_n hx hb dX6_init_4 rfl (lv_at hl 0 rfl) ?_
  refine lv_aload_n hx hb dX6_init_5 rfl (lv_at hl 1 rfl) ?_
  obtain ⟨g1, h⟩ := gd_s h
  obtain ⟨z2, e_z2, h⟩ := nm_s h
  refine zp_6_0 hx hb hts (inU inW_X6) hown hK hG hP hS (og_s g1).1 (og_s g1).2 (hts _ (List.mem_cons_of_mem _ lw_320)) hin rfl dX6_init_6 (fun H locs hP hS => ?_)
  rw [← e_z2] at hP
  refine W.cs (cells' := z2.1 - z.1) (slots' := sl z.1 z2.1) (by rw [e_z2]; rfl) (by rw [e_z2]; rfl) ?_
  refine lv_aload_n hx hb dX6_init_9 rfl (lv_at hl 0 rfl) ?_
  refine lv_aload_n hx hb dX6_init_10 rfl (lv_at hl 2 rfl) ?_
  obtain ⟨g3, h⟩ := gd_s h
  obtain ⟨z4, e_z4, h⟩ := nm_s h
  refine zp_6_1 hx hb hts (inU inW_X6) hown hK hG hP hS (og_s g3).1 (og_s g3).2 (hts _ (List.mem_cons_of_mem _ lw_321)) hin rfl dX6_init_11 (fun H locs hP hS => ?_)
  rw [← e_z4] at hP
  refine W.cs (cells' := z4.1 - z.1) (slots' := sl z.1 z4.1) (by rw [e_z4]; rfl) (by rw [e_z4]; rfl) ?_
  refine lv_aload_n hx hb dX6_init_14 rfl (lv_at hl 0 rfl) ?_
  refine lv_bipush (v := 19) hx hb dX6_init_15 (by decide) ?_
  obtain ⟨g5, h⟩ := gd_s h
  obtain ⟨g6, h⟩ := gd_s h
  obtain ⟨z7, e_z7, h⟩ := nm_s h
  refine za_15 hx hb (hts _ (List.mem_cons_of_mem _ lw_175)) hK hG hP hS (ag_s g5).1 (eq_of_beq g6) (by decide) rfl (Nat.le_of_ble_eq_true rfl) (ag_s g5).2.2.2.1 (ag_s g5).2.2.2.2 dX6_init_17 (fun H hP hS => ?_)
  rw [← e_z7] at hP
  refine W.cs (cells' := z7.1 - z.1) (slots' := sl z.1 z7.1) (by rw [e_z7]; exact ag_c g5) (by rw [e_z7]; exact ag_l g5) ?_
  obtain ⟨g8, h⟩ := gd_s h
  obtain ⟨z9, e_z9, h⟩ := nm_s h
  refine zp_6_2 hx hb hts (inU inW_X6) hown hK hG hP hS (og_s g8).1 (og_s g8).2 (hts _ (List.mem_cons_of_mem _ lw_322)) hin rfl dX6_init_19 (fun H locs hP hS => ?_)
  rw [← e_z9] at hP
  refine W.cs (cells' := z9.1 - z.1) (slots' := sl z.1 z9.1) (by rw [e_z9]; rfl) (by rw [e_z9]; rfl) ?_
  refine lv_iconst (v := 0) hx hb dX6_init_22 (by decide) ?_
  refine lv_istore_n (lv' := [(3, .int 0), (0, .ref (G.2.2 p0)), (1, .ref (G.2.2 p1)), (2, .ref (G.2.2 p2))]) hx hb dX6_init_23 rfl hl (by decide) rfl (fun ls hl => ?_)
  refine lv_iconst (v := 0) hx hb dX6_init_24 (by decide) ?_
  refine lv_istore (lv' := [(4, .int 0), (3, .int 0), (0, .ref (G.2.2 p0)), (1, .ref (G.2.2 p1)), (2, .ref (G.2.2 p2))]) hx hb dX6_init_25 hl (by decide) rfl (fun ls hl => ?_)
  exact pfC_X6_init_27 C hJ z.1  fu p0 0 0 z9 _ _ _ hP hS (lv_sub hl [2, 1, 0] rfl) h
def fnC_X11_init_75 (n0 : Nat) : Nat → Nat → Int32 → SC → Option SC
  | 0, _, _, _ => none
  | n + 1, p0, v1, z => (if 3 ≤ v1 then gd (ag n0 171 4516 z 10 7) (nm (cN z) (fun z3 => gd (og z3 p0 11) (bo (z3.2.2 p0 2) (fun q5 => gd (og z3 p0 11) (bo (z3.2.2 p0 5) (fun q7 => gd (cg n0 171 4516 z3 2 43) (bv2 (fnC_X10_init z.1 q5 q7 z3) (fun z10 => gd (pg n0 z3 z10 2 43) (gd (og z10 p0 11) (nm (cR z10 p0 7 z.1) (fun z13 => gd (ag n0 171 4516 z13 0 11) (nm (cN z13) (fun z15 => gd (og z15 p0 11) (bo (z15.2.2 p0 2) (fun q17 => gd (og z15 p0 11) (bo (z15.2.2 p0 5) (fun q19 => gd (og z15 p0 11) (bo (z15.2.2 p0 7) (fun q21 => gd (cg n0 171 4516 z15 6 240) (bv2 (fnC_X0_init z13.1 q17 q19 q21 z15) (fun z24 => gd (pg n0 z15 z24 6 240) (gd (og z24 p0 11) (nm (cR z24 p0 8 z13.1) (fun z27 => gd (ag n0 171 4516 z27 8 9) (nm (cN z27) (fun z29 => gd (og z29 p0 11) (bo (z29.2.2 p0 2) (fun q31 => gd (og z29 p0 11) (bo (z29.2.2 p0 5) (fun q33 => gd (cg n0 171 4516 z29 2 12) (bv2 (fnC_X8_init z27.1 q31 q33 z29) (fun z36 => gd (pg n0 z29 z36 2 12) (gd (og z36 p0 11) (nm (cR z36 p0 9 z27.1) (fun z39 => gd (ag n0 171 4516 z39 5 16) (nm (cN z39) (fun z41 => gd (og z41 p0 11) (bo (z41.2.2 p0 2) (fun q43 => gd (og z41 p0 11) (bo (z41.2.2 p0 5) (fun q45 => gd (og z41 p0 11) (bo (z41.2.2 p0 7) (fun q47 => gd (cg n0 171 4516 z41 4 164) (bv2 (fnC_X5_init z39.1 q43 q45 q47 z41) (fun z50 => gd (pg n0 z41 z50 4 164) (gd (og z50 p0 11) (nm (cR z50 p0 10 z39.1) (fun z53 => gd (ag n0 171 4516 z53 3 4) (nm (cN z53) (fun z55 => gd (cg n0 171 4516 z55 0 0) (bv2 (fnC_X3_init z53.1 z55) (fun z58 => gd (pg n0 z55 z58 0 0) (gd (og z58 p0 11) (nm (cR z58 p0 11 z53.1) (fun z61 => gd (ag n0 171 4516 z61 4 15) (nm (cN z61) (fun z63 => gd (og z63 p0 11) (bo (z63.2.2 p0 2) (fun q65 => gd (og z63 p0 11) (bo (z63.2.2 p0 11) (fun q67 => gd (cg n0 171 4516 z63 8 198) (bv2 (fnC_X4_init z61.1 q65 q67 z63) (fun z70 => gd (pg n0 z63 z70 8 198) (gd (og z70 p0 11) (nm (cR z70 p0 12 z61.1) (fun z73 => gd (ag n0 171 4516 z73 14 6) (gd (ln z73.1 == 6) (nm (cN z73) (fun z76 => gd (og z76 p0 11) (nm (cR z76 p0 13 z73.1) (fun z78 => gd (rg n0 171 4516 z78) (some z78)))))))))))))))))))))))))))))))))))))))))))))))))))))))))))))))))))))))) else gd (og z p0 11) (bo (z.2.2 p0 6) (fun q81 => gd (ag n0 171 4516 z 1 6) (nm (cN z) (fun z83 => gd (cg n0 171 4516 z83 26 198) (bv2 (fnC_X1_init z.1 z83) (fun z86 => gd (pg n0 z83 z86 26 198) (gd (og z86 q81 17) (gd (og z86 z.1 1) (gd (ix v1 (ln q81)) (nm (cR z86 q81 (Int32.toNatClampNeg v1) z.1) (fun z91 => fnC_X11_init_75 n0  n p0 (v1 + 1) z91))))))))))))
set_option maxHeartbeats 4000000 in
set_option maxRecDepth 100000 in
theorem pfC_X11_init_75 {p : Program} {l : Launch} {e : Env} {s : State} {m : MethodId} {args : Array Value} {below : List Frame} {meth : Method} {c : Code} {G : wG} (C : CC p s m args meth c cX11_init 2 (wsU yX11_init cX11_init 2 none) RX11 "<init>" G) {S : JSt} (hJ : JF G S s) {Rz : SC} (n0 : Nat) : ∀ (n : Nat) (p0 : Nat) (v1 : Int32) (z : SC) (H : Heap) (locs : List Loc) (ls : Array Slot), WC G z H → va_S (AB G) s.heap H locs → lv_has ls 2 [(0, .ref (G.2.2 p0)), (1, .int v1)] → fnC_X11_init_75 n0  n p0 v1 z = some Rz → W p l e (rmc 10 171 4516) s m args below meth c H locs (z.1 - n0) (sl n0 z.1) (MQ below (va_Qv (fun u => u = Rz) (PreC G) (AB G)) args s 171 4516 (AB G)) (F0 m 75 ls []) := by
  obtain ⟨hx, hb, hml, hown, hts, hr, hlocks, hK, hAO, hG, hin⟩ := id C
  intro n
  induction n with
  | zero => intro p0 v1 z H locs ls hP hS hl h; cases h
  | succ n ih =>
    intro p0 v1 z H locs ls hP hS hl h
    rw [fnC_X11_init_75] at h
    refine lv_iload_n hx hb dX11_init_75 rfl (lv_at hl 1 rfl) ?_
    refine lv_iconst (v := 3) hx hb dX11_init_76 (by decide) ?_
    refine lv_icmp_ge (tgt := 99) hx hb dX11_init_77 (by decide) (fun c1 => ?_) (fun c1 => ?_)
    · rw [if_pos c1] at h
      refine lv_aload_n hx hb dX11_init_99 rfl (lv_at hl 0 rfl) ?_
      obtain ⟨g2, h⟩ := gd_s h
      obtain ⟨z3, e_z3, h⟩ := nm_s h
      refine zn_10 hx hb hts (inU inW_X10) hown hK hG hP hS (ag_s g2).1 (hts _ (List.mem_cons_of_mem _ lw_448)) (hts _ (List.mem_cons_of_mem _ lw_449)) (hts _ (List.mem_cons_of_mem _ lw_119)) (ag_s g2).2.2.2.1 (ag_s g2).2.2.2.2 dX11_init_100 (fun H hP hS => ?_)
      rw [← e_z3] at hP
      refine W.cs (cells' := z3.1 - n0) (slots' := sl n0 z3.1) (by rw [e_z3]; exact ag_c g2) (by rw [e_z3]; exact ag_l g2) ?_
      refine lv_dup hx hb dX11_init_103 rfl ?_
      refine lv_aload_n hx hb dX11_init_104 rfl (lv_at hl 0 rfl) ?_
      obtain ⟨g4, h⟩ := gd_s h
      obtain ⟨q5, h_q5, h⟩ := bo_s h
      refine zg_11_2 hx hb hts (inU inW_X11) hown hK hP (og_s g4).1 (og_s g4).2 (hts _ (List.mem_cons_of_mem _ lw_705)) h_q5 dX11_init_105 ?_
      refine lv_aload_n hx hb dX11_init_108 rfl (lv_at hl 0 rfl) ?_
      obtain ⟨g6, h⟩ := gd_s h
      obtain ⟨q7, h_q7, h⟩ := bo_s h
      refine zg_11_5 hx hb hts (inU inW_X11) hown hK hP (og_s g6).1 (og_s g6).2 (hts _ (List.mem_cons_of_mem _ lw_708)) h_q7 dX11_init_109 ?_
      obtain ⟨g8, h⟩ := gd_s h
      obtain ⟨z10, h9, h⟩ := bv2_s h
      obtain ⟨g11, h⟩ := gd_s h
      refine x_CI (Rz := z10) (As := [.ref (G.2.2 q5), .ref (G.2.2 q7)]) (rest := [.ref (G.2.2 (z.1)), .ref (G.2.2 p0)]) ⟨hx, hb, hml, hown, hts⟩ ⟨hK, hAO⟩ hP hS (mC_X10_init hG h9) (cwI 2 hts (gU (fun _ h => List.mem_cons_of_mem _ h) lw_452) rfl rfl rfl (hts _ (List.mem_cons_of_mem _ lw_119)) (hts _ (List.mem_cons_of_mem _ lw_450)) (hts _ (List.mem_cons_of_mem _ lw_451)) rfl (by decide +kernel) (rmc_ok (by decide) (by decide))) rfl hl.1 rfl (Nat.le_of_ble_eq_true rfl) dX11_init_112 (cg_s g8).2 (fun H locs hP hS => ?_)
      refine W.cs (cells' := z10.1 - n0) (slots' := sl n0 z10.1) (pg_s g11).1 (pg_s g11).2 ?_
      obtain ⟨g12, h⟩ := gd_s h
      obtain ⟨z13, e_z13, h⟩ := nm_s h
      refine zp_11_7 hx hb hts (inU inW_X11) hown hK hG hP hS (og_s g12).1 (og_s g12).2 (hts _ (List.mem_cons_of_mem _ lw_710)) hin rfl dX11_init_115 (fun H locs hP hS => ?_)
      rw [← e_z13] at hP
      refine W.cs (cells' := z13.1 - n0) (slots' := sl n0 z13.1) (by rw [e_z13]; rfl) (by rw [e_z13]; rfl) ?_
      refine lv_aload_n hx hb dX11_init_118 rfl (lv_at hl 0 rfl) ?_
      obtain ⟨g14, h⟩ := gd_s h
      obtain ⟨z15, e_z15, h⟩ := nm_s h
      refine zn_0 hx hb hts (inU inW_X0) hown hK hG hP hS (ag_s g14).1 (hts _ (List.mem_cons_of_mem _ lw_479)) (hts _ (List.mem_cons_of_mem _ lw_480)) (hts _ (List.mem_cons_of_mem _ lw_120)) (ag_s g14).2.2.2.1 (ag_s g14).2.2.2.2 dX11_init_119 (fun H hP hS => ?_)
      rw [← e_z15] at hP
      refine W.cs (cells' := z15.1 - n0) (slots' := sl n0 z15.1) (by rw [e_z15]; exact ag_c g14) (by rw [e_z15]; exact ag_l g14) ?_
      refine lv_dup hx hb dX11_init_122 rfl ?_
      refine lv_aload_n hx hb dX11_init_123 rfl (lv_at hl 0 rfl) ?_
      obtain ⟨g16, h⟩ := gd_s h
      obtain ⟨q17, h_q17, h⟩ := bo_s h
      refine zg_11_2 hx hb hts (inU inW_X11) hown hK hP (og_s g16).1 (og_s g16).2 (hts _ (List.mem_cons_of_mem _ lw_705)) h_q17 dX11_init_124 ?_
      refine lv_aload_n hx hb dX11_init_127 rfl (lv_at hl 0 rfl) ?_
      obtain ⟨g18, h⟩ := gd_s h
      obtain ⟨q19, h_q19, h⟩ := bo_s h
      refine zg_11_5 hx hb hts (inU inW_X11) hown hK hP (og_s g18).1 (og_s g18).2 (hts _ (List.mem_cons_of_mem _ lw_708)) h_q19 dX11_init_128 ?_
      refine lv_aload_n hx hb dX11_init_131 rfl (lv_at hl 0 rfl) ?_
      obtain ⟨g20, h⟩ := gd_s h
      obtain ⟨q21, h_q21, h⟩ := bo_s h
      refine zg_11_7 hx hb hts (inU inW_X11) hown hK hP (og_s g20).1 (og_s g20).2 (hts _ (List.mem_cons_of_mem _ lw_710)) h_q21 dX11_init_132 ?_
      obtain ⟨g22, h⟩ := gd_s h
      obtain ⟨z24, h23, h⟩ := bv2_s h
      obtain ⟨g25, h⟩ := gd_s h
      refine x_CI (Rz := z24) (As := [.ref (G.2.2 q17), .ref (G.2.2 q19), .ref (G.2.2 q21)]) (rest := [.ref (G.2.2 (z13.1)), .ref (G.2.2 p0)]) ⟨hx, hb, hml, hown, hts⟩ ⟨hK, hAO⟩ hP hS (mC_X0_init hG h23) (cwI 3 hts (gU (fun _ h => List.mem_cons_of_mem _ h) lw_483) rfl rfl rfl (hts _ (List.mem_cons_of_mem _ lw_120)) (hts _ (List.mem_cons_of_mem _ lw_481)) (hts _ (List.mem_cons_of_mem _ lw_482)) rfl (by decide +kernel) (rmc_ok (by decide) (by decide))) rfl hl.1 rfl (Nat.le_of_ble_eq_true rfl) dX11_init_135 (cg_s g22).2 (fun H locs hP hS => ?_)
      refine W.cs (cells' := z24.1 - n0) (slots' := sl n0 z24.1) (pg_s g25).1 (pg_s g25).2 ?_
      obtain ⟨g26, h⟩ := gd_s h
      obtain ⟨z27, e_z27, h⟩ := nm_s h
      refine zp_11_8 hx hb hts (inU inW_X11) hown hK hG hP hS (og_s g26).1 (og_s g26).2 (hts _ (List.mem_cons_of_mem _ lw_711)) hin rfl dX11_init_138 (fun H locs hP hS => ?_)
      rw [← e_z27] at hP
      refine W.cs (cells' := z27.1 - n0) (slots' := sl n0 z27.1) (by rw [e_z27]; rfl) (by rw [e_z27]; rfl) ?_
      refine lv_aload_n hx hb dX11_init_141 rfl (lv_at hl 0 rfl) ?_
      obtain ⟨g28, h⟩ := gd_s h
      obtain ⟨z29, e_z29, h⟩ := nm_s h
      refine zn_8 hx hb hts (inU inW_X8) hown hK hG hP hS (ag_s g28).1 (hts _ (List.mem_cons_of_mem _ lw_521)) (hts _ (List.mem_cons_of_mem _ lw_522)) (hts _ (List.mem_cons_of_mem _ lw_121)) (ag_s g28).2.2.2.1 (ag_s g28).2.2.2.2 dX11_init_142 (fun H hP hS => ?_)
      rw [← e_z29] at hP
      refine W.cs (cells' := z29.1 - n0) (slots' := sl n0 z29.1) (by rw [e_z29]; exact ag_c g28) (by rw [e_z29]; exact ag_l g28) ?_
      refine lv_dup hx hb dX11_init_145 rfl ?_
      refine lv_aload_n hx hb dX11_init_146 rfl (lv_at hl 0 rfl) ?_
      obtain ⟨g30, h⟩ := gd_s h
      obtain ⟨q31, h_q31, h⟩ := bo_s h
      refine zg_11_2 hx hb hts (inU inW_X11) hown hK hP (og_s g30).1 (og_s g30).2 (hts _ (List.mem_cons_of_mem _ lw_705)) h_q31 dX11_init_147 ?_
      refine lv_aload_n hx hb dX11_init_150 rfl (lv_at hl 0 rfl) ?_
      obtain ⟨g32, h⟩ := gd_s h
      obtain ⟨q33, h_q33, h⟩ := bo_s h
      refine zg_11_5 hx hb hts (inU inW_X11) hown hK hP (og_s g32).1 (og_s g32).2 (hts _ (List.mem_cons_of_mem _ lw_708)) h_q33 dX11_init_151 ?_
      obtain ⟨g34, h⟩ := gd_s h
      obtain ⟨z36, h35, h⟩ := bv2_s h
      obtain ⟨g37, h⟩ := gd_s h
      refine x_CI (Rz := z36) (As := [.ref (G.2.2 q31), .ref (G.2.2 q33)]) (rest := [.ref (G.2.2 (z27.1)), .ref (G.2.2 p0)]) ⟨hx, hb, hml, hown, hts⟩ ⟨hK, hAO⟩ hP hS (mC_X8_init hG h35) (cwI 2 hts (gU (fun _ h => List.mem_cons_of_mem _ h) lw_525) rfl rfl rfl (hts _ (List.mem_cons_of_mem _ lw_121)) (hts _ (List.mem_cons_of_mem _ lw_523)) (hts _ (List.mem_cons_of_mem _ lw_524)) rfl (by decide +kernel) (rmc_ok (by decide) (by decide))) rfl hl.1 rfl (Nat.le_of_ble_eq_true rfl) dX11_init_154 (cg_s g34).2 (fun H locs hP hS => ?_)
      refine W.cs (cells' := z36.1 - n0) (slots' := sl n0 z36.1) (pg_s g37).1 (pg_s g37).2 ?_
      obtain ⟨g38, h⟩ := gd_s h
      obtain ⟨z39, e_z39, h⟩ := nm_s h
      refine zp_11_9 hx hb hts (inU inW_X11) hown hK hG hP hS (og_s g38).1 (og_s g38).2 (hts _ (List.mem_cons_of_mem _ lw_712)) hin rfl dX11_init_157 (fun H locs hP hS => ?_)
      rw [← e_z39] at hP
      refine W.cs (cells' := z39.1 - n0) (slots' := sl n0 z39.1) (by rw [e_z39]; rfl) (by rw [e_z39]; rfl) ?_
      refine lv_aload_n hx hb dX11_init_160 rfl (lv_at hl 0 rfl) ?_
      obtain ⟨g40, h⟩ := gd_s h
      obtain ⟨z41, e_z41, h⟩ := nm_s h
      refine zn_5 hx hb hts (inU inW_X5) hown hK hG hP hS (ag_s g40).1 (hts _ (List.mem_cons_of_mem _ lw_559)) (hts _ (List.mem_cons_of_mem _ lw_560)) (hts _ (List.mem_cons_of_mem _ lw_122)) (ag_s g40).2.2.2.1 (ag_s g40).2.2.2.2 dX11_init_161 (fun H hP hS => ?_)
      rw [← e_z41] at hP
      refine W.cs (cells' := z41.1 - n0) (slots' := sl n0 z41.1) (by rw [e_z41]; exact ag_c g40) (by rw [e_z41]; exact ag_l g40) ?_
      refine lv_dup hx hb dX11_init_164 rfl ?_
      refine lv_aload_n hx hb dX11_init_165 rfl (lv_at hl 0 rfl) ?_
      obtain ⟨g42, h⟩ := gd_s h
      obtain ⟨q43, h_q43, h⟩ := bo_s h
      refine zg_11_2 hx hb hts (inU inW_X11) hown hK hP (og_s g42).1 (og_s g42).2 (hts _ (List.mem_cons_of_mem _ lw_705)) h_q43 dX11_init_166 ?_
      refine lv_aload_n hx hb dX11_init_169 rfl (lv_at hl 0 rfl) ?_
      obtain ⟨g44, h⟩ := gd_s h
      obtain ⟨q45, h_q45, h⟩ := bo_s h
      refine zg_11_5 hx hb hts (inU inW_X11) hown hK hP (og_s g44).1 (og_s g44).2 (hts _ (List.mem_cons_of_mem _ lw_708)) h_q45 dX11_init_170 ?_
      refine lv_aload_n hx hb dX11_init_173 rfl (lv_at hl 0 rfl) ?_
      obtain ⟨g46, h⟩ := gd_s h
      obtain ⟨q47, h_q47, h⟩ := bo_s h
      refine zg_11_7 hx hb hts (inU inW_X11) hown hK hP (og_s g46).1 (og_s g46).2 (hts _ (List.mem_cons_of_mem _ lw_710)) h_q47 dX11_init_174 ?_
      obtain ⟨g48, h⟩ := gd_s h
      obtain ⟨z50, h49, h⟩ := bv2_s h
      obtain ⟨g51, h⟩ := gd_s h
      refine x_CI (Rz := z50) (As := [.ref (G.2.2 q43), .ref (G.2.2 q45), .ref (G.2.2 q47)]) (rest := [.ref (G.2.2 (z39.1)), .ref (G.2.2 p0)]) ⟨hx, hb, hml, hown, hts⟩ ⟨hK, hAO⟩ hP hS (mC_X5_init hG h49) (cwI 3 hts (gU (fun _ h => List.mem_cons_of_mem _ h) lw_563) rfl rfl rfl (hts _ (List.mem_cons_of_mem _ lw_122)) (hts _ (List.mem_cons_of_mem _ lw_561)) (hts _ (List.mem_cons_of_mem _ lw_562)) rfl (by decide +kernel) (rmc_ok (by decide) (by decide))) rfl hl.1 rfl (Nat.le_of_ble_eq_true rfl) dX11_init_177 (cg_s g48).2 (fun H locs hP hS => ?_)
      refine W.cs (cells' := z50.1 - n0) (slots' := sl n0 z50.1) (pg_s g51).1 (pg_s g51).2 ?_
      obtain ⟨g52, h⟩ := gd_s h
      obtain ⟨z53, e_z53, h⟩ := nm_s h
      refine zp_11_10 hx hb hts (inU inW_X11) hown hK hG hP hS (og_s g52).1 (og_s g52).2 (hts _ (List.mem_cons_of_mem _ lw_713)) hin rfl dX11_init_180 (fun H locs hP hS => ?_)
      rw [← e_z53] at hP
      refine W.cs (cells' := z53.1 - n0) (slots' := sl n0 z53.1) (by rw [e_z53]; rfl) (by rw [e_z53]; rfl) ?_
      refine lv_aload_n hx hb dX11_init_183 rfl (lv_at hl 0 rfl) ?_
      obtain ⟨g54, h⟩ := gd_s h
      obtain ⟨z55, e_z55, h⟩ := nm_s h
      refine zn_3 hx hb hts (inU inW_X3) hown hK hG hP hS (ag_s g54).1 (hts _ (List.mem_cons_of_mem _ lw_621)) (hts _ (List.mem_cons_of_mem _ lw_622)) (hts _ (List.mem_cons_of_mem _ lw_123)) (ag_s g54).2.2.2.1 (ag_s g54).2.2.2.2 dX11_init_184 (fun H hP hS => ?_)
      rw [← e_z55] at hP
      refine W.cs (cells' := z55.1 - n0) (slots' := sl n0 z55.1) (by rw [e_z55]; exact ag_c g54) (by rw [e_z55]; exact ag_l g54) ?_
      refine lv_dup hx hb dX11_init_187 rfl ?_
      obtain ⟨g56, h⟩ := gd_s h
      obtain ⟨z58, h57, h⟩ := bv2_s h
      obtain ⟨g59, h⟩ := gd_s h
      refine x_CIN (Rz := z58) (As := []) (rest := [.ref (G.2.2 (z53.1)), .ref (G.2.2 p0)]) ⟨hx, hb, hml, hown, hts⟩ ⟨hK, hAO⟩ hP hS (mC_X3_init hG h57) ⟨va_cnB 0 hts (gU (fun _ h => List.mem_cons_of_mem _ h) lw_625) rfl rfl rfl hJ.2.2 (hts _ (List.mem_cons_of_mem _ lw_123)) (by decide +kernel) (rmc_ok (by decide) (by decide)), rfl, hts _ (List.mem_cons_of_mem _ lw_624)⟩ rfl hl.1 rfl (Nat.le_of_ble_eq_true rfl) dX11_init_188 (cg_s g56).2 (fun H locs hP hS => ?_)
      refine W.cs (cells' := z58.1 - n0) (slots' := sl n0 z58.1) (pg_s g59).1 (pg_s g59).2 ?_
      obtain ⟨g60, h⟩ := gd_s h
      obtain ⟨z61, e_z61, h⟩ := nm_s h
      refine zp_11_11 hx hb hts (inU inW_X11) hown hK hG hP hS (og_s g60).1 (og_s g60).2 (hts _ (List.mem_cons_of_mem _ lw_714)) hin rfl dX11_init_191 (fun H locs hP hS => ?_)
      rw [← e_z61] at hP
      refine W.cs (cells' := z61.1 - n0) (slots' := sl n0 z61.1) (by rw [e_z61]; rfl) (by rw [e_z61]; rfl) ?_
      refine lv_aload_n hx hb dX11_init_194 rfl (lv_at hl 0 rfl) ?_
      obtain ⟨g62, h⟩ := gd_s h
      obtain ⟨z63, e_z63, h⟩ := nm_s h
      refine zn_4 hx hb hts (inU inW_X4) hown hK hG hP hS (ag_s g62).1 (hts _ (List.mem_cons_of_mem _ lw_644)) (hts _ (List.mem_cons_of_mem _ lw_645)) (hts _ (List.mem_cons_of_mem _ lw_124)) (ag_s g62).2.2.2.1 (ag_s g62).2.2.2.2 dX11_init_195 (fun H hP hS => ?_)
      rw [← e_z63] at hP
      refine W.cs (cells' := z63.1 - n0) (slots' := sl n0 z63.1) (by rw [e_z63]; exact ag_c g62) (by rw [e_z63]; exact ag_l g62) ?_
      refine lv_dup hx hb dX11_init_198 rfl ?_
      refine lv_aload_n hx hb dX11_init_199 rfl (lv_at hl 0 rfl) ?_
      obtain ⟨g64, h⟩ := gd_s h
      obtain ⟨q65, h_q65, h⟩ := bo_s h
      refine zg_11_2 hx hb hts (inU inW_X11) hown hK hP (og_s g64).1 (og_s g64).2 (hts _ (List.mem_cons_of_mem _ lw_705)) h_q65 dX11_init_200 ?_
      refine lv_aload_n hx hb dX11_init_203 rfl (lv_at hl 0 rfl) ?_
      obtain ⟨g66, h⟩ := gd_s h
      obtain ⟨q67, h_q67, h⟩ := bo_s h
      refine zg_11_11 hx hb hts (inU inW_X11) hown hK hP (og_s g66).1 (og_s g66).2 (hts _ (List.mem_cons_of_mem _ lw_714)) h_q67 dX11_init_204 ?_
      obtain ⟨g68, h⟩ := gd_s h
      obtain ⟨z70, h69, h⟩ := bv2_s h
      obtain ⟨g71, h⟩ := gd_s h
      refine x_CI (Rz := z70) (As := [.ref (G.2.2 q65), .ref (G.2.2 q67)]) (rest := [.ref (G.2.2 (z61.1)), .ref (G.2.2 p0)]) ⟨hx, hb, hml, hown, hts⟩ ⟨hK, hAO⟩ hP hS (mC_X4_init hG h69) (cwI 2 hts (gU (fun _ h => List.mem_cons_of_mem _ h) lw_648) rfl rfl rfl (hts _ (List.mem_cons_of_mem _ lw_124)) (hts _ (List.mem_cons_of_mem _ lw_646)) (hts _ (List.mem_cons_of_mem _ lw_647)) rfl (by decide +kernel) (rmc_ok (by decide) (by decide))) rfl hl.1 rfl (Nat.le_of_ble_eq_true rfl) dX11_init_207 (cg_s g68).2 (fun H locs hP hS => ?_)
      refine W.cs (cells' := z70.1 - n0) (slots' := sl n0 z70.1) (pg_s g71).1 (pg_s g71).2 ?_
      obtain ⟨g72, h⟩ := gd_s h
      obtain ⟨z73, e_z73, h⟩ := nm_s h
      refine zp_11_12 hx hb hts (inU inW_X11) hown hK hG hP hS (og_s g72).1 (og_s g72).2 (hts _ (List.mem_cons_of_mem _ lw_715)) hin rfl dX11_init_210 (fun H locs hP hS => ?_)
      rw [← e_z73] at hP
      refine W.cs (cells' := z73.1 - n0) (slots' := sl n0 z73.1) (by rw [e_z73]; rfl) (by rw [e_z73]; rfl) ?_
      refine lv_aload_n hx hb dX11_init_213 rfl (lv_at hl 0 rfl) ?_
      refine lv_bipush (v := 6) hx hb dX11_init_214 (by decide) ?_
      obtain ⟨g74, h⟩ := gd_s h
      obtain ⟨g75, h⟩ := gd_s h
      obtain ⟨z76, e_z76, h⟩ := nm_s h
      refine za_14 hx hb (hts _ (List.mem_cons_of_mem _ lw_176)) hK hG hP hS (ag_s g74).1 (eq_of_beq g75) (by decide) rfl (Nat.le_of_ble_eq_true rfl) (ag_s g74).2.2.2.1 (ag_s g74).2.2.2.2 dX11_init_216 (fun H hP hS => ?_)
      rw [← e_z76] at hP
      refine W.cs (cells' := z76.1 - n0) (slots' := sl n0 z76.1) (by rw [e_z76]; exact ag_c g74) (by rw [e_z76]; exact ag_l g74) ?_
      obtain ⟨g77, h⟩ := gd_s h
      obtain ⟨z78, e_z78, h⟩ := nm_s h
      refine zp_11_13 hx hb hts (inU inW_X11) hown hK hG hP hS (og_s g77).1 (og_s g77).2 (hts _ (List.mem_cons_of_mem _ lw_716)) hin rfl dX11_init_218 (fun H locs hP hS => ?_)
      rw [← e_z78] at hP
      refine W.cs (cells' := z78.1 - n0) (slots' := sl n0 z78.1) (by rw [e_z78]; rfl) (by rw [e_z78]; rfl) ?_
      obtain ⟨g79, h⟩ := gd_s h
      exact x_cvret hx hb hr hlocks ⟨hK, hAO⟩ hP hS h (rg_s g79).1 (rg_s g79).2 dX11_init_221
    · rw [if_neg c1] at h
      refine lv_aload_n hx hb dX11_init_80 rfl (lv_at hl 0 rfl) ?_
      obtain ⟨g80, h⟩ := gd_s h
      obtain ⟨q81, h_q81, h⟩ := bo_s h
      refine zg_11_6 hx hb hts (inU inW_X11) hown hK hP (og_s g80).1 (og_s g80).2 (hts _ (List.mem_cons_of_mem _ lw_709)) h_q81 dX11_init_81 ?_
      refine lv_iload_n hx hb dX11_init_84 rfl (lv_at hl 1 rfl) ?_
      obtain ⟨g82, h⟩ := gd_s h
      obtain ⟨z83, e_z83, h⟩ := nm_s h
      refine zn_1 hx hb hts (inU inW_X1) hown hK hG hP hS (ag_s g82).1 (hts _ (List.mem_cons_of_mem _ lw_362)) (hts _ (List.mem_cons_of_mem _ lw_363)) (hts _ (List.mem_cons_of_mem _ lw_117)) (ag_s g82).2.2.2.1 (ag_s g82).2.2.2.2 dX11_init_85 (fun H hP hS => ?_)
      rw [← e_z83] at hP
      refine W.cs (cells' := z83.1 - n0) (slots' := sl n0 z83.1) (by rw [e_z83]; exact ag_c g82) (by rw [e_z83]; exact ag_l g82) ?_
      refine lv_dup hx hb dX11_init_88 rfl ?_
      obtain ⟨g84, h⟩ := gd_s h
      obtain ⟨z86, h85, h⟩ := bv2_s h
      obtain ⟨g87, h⟩ := gd_s h
      refine x_CI (Rz := z86) (As := []) (rest := [.ref (G.2.2 (z.1)), .int v1, .ref (G.2.2 q81)]) ⟨hx, hb, hml, hown, hts⟩ ⟨hK, hAO⟩ hP hS (mC_X1_init hG h85) (cwI 0 hts (gU (fun _ h => List.mem_cons_of_mem _ h) lw_366) rfl rfl rfl (hts _ (List.mem_cons_of_mem _ lw_117)) (hts _ (List.mem_cons_of_mem _ lw_364)) (hts _ (List.mem_cons_of_mem _ lw_365)) rfl (by decide +kernel) (rmc_ok (by decide) (by decide))) rfl hl.1 rfl (Nat.le_of_ble_eq_true rfl) dX11_init_89 (cg_s g84).2 (fun H locs hP hS => ?_)
      refine W.cs (cells' := z86.1 - n0) (slots' := sl n0 z86.1) (pg_s g87).1 (pg_s g87).2 ?_
      obtain ⟨g88, h⟩ := gd_s h
      obtain ⟨g89, h⟩ := gd_s h
      obtain ⟨g90, h⟩ := gd_s h
      obtain ⟨z91, e_z91, h⟩ := nm_s h
      refine zs_17 hx hb hK hG hP hS (og_s g88).1 (og_s g88).2 (og_s g89).1 (og_s g89).2 (ix_in g90) dX11_init_92 (fun H locs hP hS => ?_)
      rw [← e_z91] at hP
      refine W.cs (cells' := z91.1 - n0) (slots' := sl n0 z91.1) (by rw [e_z91]; rfl) (by rw [e_z91]; rfl) ?_
      refine lv_iinc (v := (v1 + 1)) (lv' := [(1, .int (v1 + 1)), (0, .ref (G.2.2 p0))]) hx hb dX11_init_93 hl (k := 1) rfl rfl (by decide) rfl (fun ls hl => ?_)
      refine lv_goto (tgt := 75) hx hb dX11_init_96 (by decide) ?_
      exact ih p0 (v1 + 1) z91 _ _ _ hP hS (lv_sub hl [1, 0] rfl) h
def fnC_X11_init (p0 : Nat) (z : SC) : Option SC := gd (ag z.1 171 4516 z 13 1600) (gd (ln z.1 == 1600) (nm (cN z) (fun z3 => gd (og z3 p0 11) (nm (cR z3 p0 0 z.1) (fun z5 => gd (ag z.1 171 4516 z5 7 16) (nm (cN z5) (fun z7 => gd (cg z.1 171 4516 z7 14 654) (bv2 (fnC_X7_init z5.1 z7) (fun z10 => gd (pg z.1 z7 z10 14 654) (gd (og z10 p0 11) (nm (cR z10 p0 2 z5.1) (fun z13 => gd (ag z.1 171 4516 z13 7 16) (nm (cN z13) (fun z15 => gd (cg z.1 171 4516 z15 14 654) (bv2 (fnC_X7_init z13.1 z15) (fun z18 => gd (pg z.1 z15 z18 14 654) (gd (og z18 p0 11) (nm (cR z18 p0 3 z13.1) (fun z21 => gd (ag z.1 171 4516 z21 6 13) (nm (cN z21) (fun z23 => gd (og z23 p0 11) (bo (z23.2.2 p0 0) (fun q25 => gd (og z23 p0 11) (bo (z23.2.2 p0 3) (fun q27 => gd (cg z.1 171 4516 z23 1 19) (bv2 (fnC_X6_init z21.1 q25 q27 z23) (fun z30 => gd (pg z.1 z23 z30 1 19) (gd (og z30 p0 11) (nm (cR z30 p0 4 z21.1) (fun z33 => gd (ag z.1 171 4516 z33 1 6) (nm (cN z33) (fun z35 => gd (cg z.1 171 4516 z35 26 198) (bv2 (fnC_X1_init z33.1 z35) (fun z38 => gd (pg z.1 z35 z38 26 198) (gd (og z38 p0 11) (nm (cR z38 p0 5 z33.1) (fun z41 => gd (ag z.1 171 4516 z41 17 3) (gd (ln z41.1 == 3) (nm (cN z41) (fun z44 => gd (og z44 p0 11) (nm (cR z44 p0 6 z41.1) (fun z46 => fnC_X11_init_75 z.1  fu p0 0 z46))))))))))))))))))))))))))))))))))))))))))
set_option maxHeartbeats 4000000 in
set_option maxRecDepth 100000 in
theorem mC_X11_init {l : Launch} {G : wG} (hG : Gb G) {S : JSt} {p0 : Nat} {z Rz : SC} (h : fnC_X11_init p0 z = some Rz) : Met l yX11_init (wsU yX11_init cX11_init 2 none) (rmc 10 171 4516) (va_Pc [.ref (G.2.2 p0)] (PreX G S z)) (va_Qv (fun u => u = Rz) (PreC G) (AB G)) 171 4516 (AB G) := by
  refine Met.ofW (cc := cX11_init) (maxL := 2) (ret := none) (by decide) rfl ?_
  intro p e s m args below meth c s₁ B hml hv
  obtain ⟨rfl, ⟨hP, hK, hAO⟩, hJ⟩ := hv
  have C : CC p s m ([.ref (G.2.2 p0)] : List Value).toArray meth c cX11_init 2 (wsU yX11_init cX11_init 2 none) RX11 "<init>" G := ⟨B.exec, B.bytes, hml, findClass_of_methodNamed B.named, atoms_spec (ws := (wsU yX11_init cX11_init 2 none)) B.pre, B.returns, B.notSynchronized, hK, hAO, hG, (name_of_methodNamed B.named B.method).1⟩
  obtain ⟨hx, hb, -, hown, hts, hr, hlocks, -, -, -, hin⟩ := id C
  have hS : va_S (AB G) s.heap s.heap [] := va_S.rf
  have hl := lv_entry [.ref (G.2.2 p0)] (n := 2) (Nat.le_of_ble_eq_true rfl)
  rw [lg_entry_eq]
  generalize (lg_sl [.ref (G.2.2 p0)] ++ List.replicate (2 - (lg_sl [.ref (G.2.2 p0)]).length) Slot.unset).toArray = ls at hl ⊢
  have hl : lv_has ls 2 [(0, .ref (G.2.2 p0))] := hl
  refine W.cs (cells' := z.1 - z.1) (slots' := sl z.1 z.1) (Nat.sub_self _).symm (sl_self _).symm ?_
  unfold fnC_X11_init at h
  refine lv_aload_n hx hb dX11_init_0 rfl (lv_at hl 0 rfl) ?_
  refine W.objInit hx hb hown (hts _ (List.mem_cons_of_mem _ lw_133)) (hts _ (List.mem_cons_of_mem _ lw_134)) (hts _ (List.mem_cons_of_mem _ lw_135)) rfl (by rw [hml]; exact hl.1) rfl dX11_init_1 (Nat.le_of_ble_eq_true rfl) (Nat.le_of_ble_eq_true rfl) ?_
  refine W.eq (g2 := F0 m 4 ls []) rfl ?_
  refine lv_aload_n hx hb dX11_init_4 rfl (lv_at hl 0 rfl) ?_
  refine lv_sipush (v := 1600) hx hb dX11_init_5 (by decide) ?_
  obtain ⟨g1, h⟩ := gd_s h
  obtain ⟨g2, h⟩ := gd_s h
  obtain ⟨z3, e_z3, h⟩ := nm_s h
  refine za_13 hx hb (hts _ (List.mem_cons_of_mem _ lw_174)) hK hG hP hS (ag_s g1).1 (eq_of_beq g2) (by decide) rfl (Nat.le_of_ble_eq_true rfl) (ag_s g1).2.2.2.1 (ag_s g1).2.2.2.2 dX11_init_8 (fun H hP hS => ?_)
  rw [← e_z3] at hP
  refine W.cs (cells' := z3.1 - z.1) (slots' := sl z.1 z3.1) (by rw [e_z3]; exact ag_c g1) (by rw [e_z3]; exact ag_l g1) ?_
  obtain ⟨g4, h⟩ := gd_s h
  obtain ⟨z5, e_z5, h⟩ := nm_s h
  refine zp_11_0 hx hb hts (inU inW_X11) hown hK hG hP hS (og_s g4).1 (og_s g4).2 (hts _ (List.mem_cons_of_mem _ lw_703)) hin rfl dX11_init_10 (fun H locs hP hS => ?_)
  rw [← e_z5] at hP
  refine W.cs (cells' := z5.1 - z.1) (slots' := sl z.1 z5.1) (by rw [e_z5]; rfl) (by rw [e_z5]; rfl) ?_
  refine lv_aload_n hx hb dX11_init_13 rfl (lv_at hl 0 rfl) ?_
  obtain ⟨g6, h⟩ := gd_s h
  obtain ⟨z7, e_z7, h⟩ := nm_s h
  refine zn_7 hx hb hts (inU inW_X7) hown hK hG hP hS (ag_s g6).1 (hts _ (List.mem_cons_of_mem _ lw_136)) (hts _ (List.mem_cons_of_mem _ lw_137)) (hts _ (List.mem_cons_of_mem _ lw_110)) (ag_s g6).2.2.2.1 (ag_s g6).2.2.2.2 dX11_init_14 (fun H hP hS => ?_)
  rw [← e_z7] at hP
  refine W.cs (cells' := z7.1 - z.1) (slots' := sl z.1 z7.1) (by rw [e_z7]; exact ag_c g6) (by rw [e_z7]; exact ag_l g6) ?_
  refine lv_dup hx hb dX11_init_17 rfl ?_
  obtain ⟨g8, h⟩ := gd_s h
  obtain ⟨z10, h9, h⟩ := bv2_s h
  obtain ⟨g11, h⟩ := gd_s h
  refine x_CI (Rz := z10) (As := []) (rest := [.ref (G.2.2 (z5.1)), .ref (G.2.2 p0)]) ⟨hx, hb, hml, hown, hts⟩ ⟨hK, hAO⟩ hP hS (mC_X7_init hG h9) (cwI 0 hts (gU (fun _ h => List.mem_cons_of_mem _ h) lw_140) rfl rfl rfl (hts _ (List.mem_cons_of_mem _ lw_110)) (hts _ (List.mem_cons_of_mem _ lw_138)) (hts _ (List.mem_cons_of_mem _ lw_139)) rfl (by decide +kernel) (rmc_ok (by decide) (by decide))) rfl hl.1 rfl (Nat.le_of_ble_eq_true rfl) dX11_init_18 (cg_s g8).2 (fun H locs hP hS => ?_)
  refine W.cs (cells' := z10.1 - z.1) (slots' := sl z.1 z10.1) (pg_s g11).1 (pg_s g11).2 ?_
  obtain ⟨g12, h⟩ := gd_s h
  obtain ⟨z13, e_z13, h⟩ := nm_s h
  refine zp_11_2 hx hb hts (inU inW_X11) hown hK hG hP hS (og_s g12).1 (og_s g12).2 (hts _ (List.mem_cons_of_mem _ lw_705)) hin rfl dX11_init_21 (fun H locs hP hS => ?_)
  rw [← e_z13] at hP
  refine W.cs (cells' := z13.1 - z.1) (slots' := sl z.1 z13.1) (by rw [e_z13]; rfl) (by rw [e_z13]; rfl) ?_
  refine lv_aload_n hx hb dX11_init_24 rfl (lv_at hl 0 rfl) ?_
  obtain ⟨g14, h⟩ := gd_s h
  obtain ⟨z15, e_z15, h⟩ := nm_s h
  refine zn_7 hx hb hts (inU inW_X7) hown hK hG hP hS (ag_s g14).1 (hts _ (List.mem_cons_of_mem _ lw_136)) (hts _ (List.mem_cons_of_mem _ lw_137)) (hts _ (List.mem_cons_of_mem _ lw_110)) (ag_s g14).2.2.2.1 (ag_s g14).2.2.2.2 dX11_init_25 (fun H hP hS => ?_)
  rw [← e_z15] at hP
  refine W.cs (cells' := z15.1 - z.1) (slots' := sl z.1 z15.1) (by rw [e_z15]; exact ag_c g14) (by rw [e_z15]; exact ag_l g14) ?_
  refine lv_dup hx hb dX11_init_28 rfl ?_
  obtain ⟨g16, h⟩ := gd_s h
  obtain ⟨z18, h17, h⟩ := bv2_s h
  obtain ⟨g19, h⟩ := gd_s h
  refine x_CI (Rz := z18) (As := []) (rest := [.ref (G.2.2 (z13.1)), .ref (G.2.2 p0)]) ⟨hx, hb, hml, hown, hts⟩ ⟨hK, hAO⟩ hP hS (mC_X7_init hG h17) (cwI 0 hts (gU (fun _ h => List.mem_cons_of_mem _ h) lw_140) rfl rfl rfl (hts _ (List.mem_cons_of_mem _ lw_110)) (hts _ (List.mem_cons_of_mem _ lw_138)) (hts _ (List.mem_cons_of_mem _ lw_139)) rfl (by decide +kernel) (rmc_ok (by decide) (by decide))) rfl hl.1 rfl (Nat.le_of_ble_eq_true rfl) dX11_init_29 (cg_s g16).2 (fun H locs hP hS => ?_)
  refine W.cs (cells' := z18.1 - z.1) (slots' := sl z.1 z18.1) (pg_s g19).1 (pg_s g19).2 ?_
  obtain ⟨g20, h⟩ := gd_s h
  obtain ⟨z21, e_z21, h⟩ := nm_s h
  refine zp_11_3 hx hb hts (inU inW_X11) hown hK hG hP hS (og_s g20).1 (og_s g20).2 (hts _ (List.mem_cons_of_mem _ lw_706)) hin rfl dX11_init_32 (fun H locs hP hS => ?_)
  rw [← e_z21] at hP
  refine W.cs (cells' := z21.1 - z.1) (slots' := sl z.1 z21.1) (by rw [e_z21]; rfl) (by rw [e_z21]; rfl) ?_
  refine lv_aload_n hx hb dX11_init_35 rfl (lv_at hl 0 rfl) ?_
  obtain ⟨g22, h⟩ := gd_s h
  obtain ⟨z23, e_z23, h⟩ := nm_s h
  refine zn_6 hx hb hts (inU inW_X6) hown hK hG hP hS (ag_s g22).1 (hts _ (List.mem_cons_of_mem _ lw_261)) (hts _ (List.mem_cons_of_mem _ lw_262)) (hts _ (List.mem_cons_of_mem _ lw_112)) (ag_s g22).2.2.2.1 (ag_s g22).2.2.2.2 dX11_init_36 (fun H hP hS => ?_)
  rw [← e_z23] at hP
  refine W.cs (cells' := z23.1 - z.1) (slots' := sl z.1 z23.1) (by rw [e_z23]; exact ag_c g22) (by rw [e_z23]; exact ag_l g22) ?_
  refine lv_dup hx hb dX11_init_39 rfl ?_
  refine lv_aload_n hx hb dX11_init_40 rfl (lv_at hl 0 rfl) ?_
  obtain ⟨g24, h⟩ := gd_s h
  obtain ⟨q25, h_q25, h⟩ := bo_s h
  refine zg_11_0 hx hb hts (inU inW_X11) hown hK hP (og_s g24).1 (og_s g24).2 (hts _ (List.mem_cons_of_mem _ lw_703)) h_q25 dX11_init_41 ?_
  refine lv_aload_n hx hb dX11_init_44 rfl (lv_at hl 0 rfl) ?_
  obtain ⟨g26, h⟩ := gd_s h
  obtain ⟨q27, h_q27, h⟩ := bo_s h
  refine zg_11_3 hx hb hts (inU inW_X11) hown hK hP (og_s g26).1 (og_s g26).2 (hts _ (List.mem_cons_of_mem _ lw_706)) h_q27 dX11_init_45 ?_
  obtain ⟨g28, h⟩ := gd_s h
  obtain ⟨z30, h29, h⟩ := bv2_s h
  obtain ⟨g31, h⟩ := gd_s h
  refine x_CIX (Rz := z30) (S := S) (As := [.ref (G.2.2 q25), .ref (G.2.2 q27)]) (rest := [.ref (G.2.2 (z21.1)), .ref (G.2.2 p0)]) ⟨hx, hb, hml, hown, hts⟩ ⟨hK, hAO⟩ hJ hP hS (mC_X6_init hG h29) (cwI 2 hts (gU (fun _ h => List.mem_cons_of_mem _ h) lw_265) rfl rfl rfl (hts _ (List.mem_cons_of_mem _ lw_112)) (hts _ (List.mem_cons_of_mem _ lw_263)) (hts _ (List.mem_cons_of_mem _ lw_264)) rfl (by decide +kernel) (rmc_ok (by decide) (by decide))) rfl hl.1 rfl (Nat.le_of_ble_eq_true rfl) dX11_init_48 (cg_s g28).2 (fun H locs hP hS => ?_)
  refine W.cs (cells' := z30.1 - z.1) (slots' := sl z.1 z30.1) (pg_s g31).1 (pg_s g31).2 ?_
  obtain ⟨g32, h⟩ := gd_s h
  obtain ⟨z33, e_z33, h⟩ := nm_s h
  refine zp_11_4 hx hb hts (inU inW_X11) hown hK hG hP hS (og_s g32).1 (og_s g32).2 (hts _ (List.mem_cons_of_mem _ lw_707)) hin rfl dX11_init_51 (fun H locs hP hS => ?_)
  rw [← e_z33] at hP
  refine W.cs (cells' := z33.1 - z.1) (slots' := sl z.1 z33.1) (by rw [e_z33]; rfl) (by rw [e_z33]; rfl) ?_
  refine lv_aload_n hx hb dX11_init_54 rfl (lv_at hl 0 rfl) ?_
  obtain ⟨g34, h⟩ := gd_s h
  obtain ⟨z35, e_z35, h⟩ := nm_s h
  refine zn_1 hx hb hts (inU inW_X1) hown hK hG hP hS (ag_s g34).1 (hts _ (List.mem_cons_of_mem _ lw_362)) (hts _ (List.mem_cons_of_mem _ lw_363)) (hts _ (List.mem_cons_of_mem _ lw_117)) (ag_s g34).2.2.2.1 (ag_s g34).2.2.2.2 dX11_init_55 (fun H hP hS => ?_)
  rw [← e_z35] at hP
  refine W.cs (cells' := z35.1 - z.1) (slots' := sl z.1 z35.1) (by rw [e_z35]; exact ag_c g34) (by rw [e_z35]; exact ag_l g34) ?_
  refine lv_dup hx hb dX11_init_58 rfl ?_
  obtain ⟨g36, h⟩ := gd_s h
  obtain ⟨z38, h37, h⟩ := bv2_s h
  obtain ⟨g39, h⟩ := gd_s h
  refine x_CI (Rz := z38) (As := []) (rest := [.ref (G.2.2 (z33.1)), .ref (G.2.2 p0)]) ⟨hx, hb, hml, hown, hts⟩ ⟨hK, hAO⟩ hP hS (mC_X1_init hG h37) (cwI 0 hts (gU (fun _ h => List.mem_cons_of_mem _ h) lw_366) rfl rfl rfl (hts _ (List.mem_cons_of_mem _ lw_117)) (hts _ (List.mem_cons_of_mem _ lw_364)) (hts _ (List.mem_cons_of_mem _ lw_365)) rfl (by decide +kernel) (rmc_ok (by decide) (by decide))) rfl hl.1 rfl (Nat.le_of_ble_eq_true rfl) dX11_init_59 (cg_s g36).2 (fun H locs hP hS => ?_)
  refine W.cs (cells' := z38.1 - z.1) (slots' := sl z.1 z38.1) (pg_s g39).1 (pg_s g39).2 ?_
  obtain ⟨g40, h⟩ := gd_s h
  obtain ⟨z41, e_z41, h⟩ := nm_s h
  refine zp_11_5 hx hb hts (inU inW_X11) hown hK hG hP hS (og_s g40).1 (og_s g40).2 (hts _ (List.mem_cons_of_mem _ lw_708)) hin rfl dX11_init_62 (fun H locs hP hS => ?_)
  rw [← e_z41] at hP
  refine W.cs (cells' := z41.1 - z.1) (slots' := sl z.1 z41.1) (by rw [e_z41]; rfl) (by rw [e_z41]; rfl) ?_
  refine lv_aload_n hx hb dX11_init_65 rfl (lv_at hl 0 rfl) ?_
  refine lv_iconst (v := 3) hx hb dX11_init_66 (by decide) ?_
  obtain ⟨g42, h⟩ := gd_s h
  obtain ⟨g43, h⟩ := gd_s h
  obtain ⟨z44, e_z44, h⟩ := nm_s h
  refine za_17 hx hb hown (hts _ (List.mem_cons_of_mem _ lw_362)) (va_AO.use hAO.1) hK hG hP hS (ag_s g42).1 (eq_of_beq g43) (by decide) rfl (Nat.le_of_ble_eq_true rfl) (ag_s g42).2.2.2.1 (ag_s g42).2.2.2.2 dX11_init_67 (fun H hP hS => ?_)
  rw [← e_z44] at hP
  refine W.cs (cells' := z44.1 - z.1) (slots' := sl z.1 z44.1) (by rw [e_z44]; exact ag_c g42) (by rw [e_z44]; exact ag_l g42) ?_
  obtain ⟨g45, h⟩ := gd_s h
  obtain ⟨z46, e_z46, h⟩ := nm_s h
  refine zp_11_6 hx hb hts (inU inW_X11) hown hK hG hP hS (og_s g45).1 (og_s g45).2 (hts _ (List.mem_cons_of_mem _ lw_709)) hin rfl dX11_init_70 (fun H locs hP hS => ?_)
  rw [← e_z46] at hP
  refine W.cs (cells' := z46.1 - z.1) (slots' := sl z.1 z46.1) (by rw [e_z46]; rfl) (by rw [e_z46]; rfl) ?_
  refine lv_iconst (v := 0) hx hb dX11_init_73 (by decide) ?_
  refine lv_istore_n (lv' := [(1, .int 0), (0, .ref (G.2.2 p0))]) hx hb dX11_init_74 rfl hl (by decide) rfl (fun ls hl => ?_)
  exact pfC_X11_init_75 C hJ z.1  fu p0 0 z46 _ _ _ hP hS (lv_sub hl [1, 0] rfl) h
