/-! rows over the store: the ends of methods, and calls -/
abbrev QI (below : List Frame) (args : Array Value) (s : State) (G : wG) (Rz : Int32 × St) : State → Prop := MQ below (va_Qi (fun r u => (r, u) = Rz) (Pre G) (AW G)) args s 0 0 (AW G)
abbrev QJ (below : List Frame) (args : Array Value) (s : State) (G : wG) (Rz : Int64 × St) : State → Prop := MQ below (va_Ql (fun r u => (r, u) = Rz) (Pre G) (AW G)) args s 0 0 (AW G)
abbrev QV (below : List Frame) (args : Array Value) (s : State) (G : wG) (Rz : St) : State → Prop := MQ below (va_Qv (fun u => u = Rz) (Pre G) (AW G)) args s 0 0 (AW G)
/-- what holds all through a method's body -/
def CX (p : Program) (s : State) (m : MethodId) (args : Array Value) (meth : Method) (c : Code) (cc : ByteArray) (nL : Nat) (Ts : List Cond) (own : String) (ret : Option FieldType) (G : wG) : Prop :=
  p.tables.exec = Jvm.exec ∧ c.code = cc ∧ c.maxLocals = nL ∧ s.vm.findClass own = some m.cls ∧ (∀ w ∈ Ts, w.before args s = true) ∧ meth.sig.returnType = ret ∧ meth.locks = false ∧ WK G s ∧ Ok G
theorem pre_blind {G : wG} {σ : St} {av : List Value} : FrameBlind (va_Pc av (Pre G σ)) := fun a U g mk q => ⟨q.1, q.2.1, va_K.moved (u := U) (U := U.calling g mk a) (Vm.Alike.refl U.vm) q.2.2⟩
section XROWS
variable {p : Program} {l : Launch} {e : Env} {R : Room} {s : State} {m : MethodId} {args : Array Value} {below : List Frame} {meth : Method} {c : Code} {H : Heap} {locs : List Loc} {cells slots : Nat} {Q : State → Prop}
variable {cc : ByteArray} {pc : Nat} {ls : Array Slot} {rest st : List Value} {H0 : Heap} {G : wG} {σ : St}
theorem x_iret {Rz : Int32 × St} (hx : p.tables.exec = Jvm.exec) (hb : c.code = cc) (hr : meth.sig.returnType = some .int) (hlocks : meth.locks = false) (hK : WK G s) (hP : WP G σ H) (hS : va_S (AW G) s.heap H locs) {v : Int32} (h : some (v, σ) = some Rz) (hd : decode cc pc = .ok (.ireturn, 1)) : W p l e R s m args below meth c H locs 0 0 (QI below args s G Rz) (F0 m pc ls [.int v]) :=
  W.iret hx hb hr (fun t ht hW => ⟨⟨v, σ, rfl, Option.some.inj h, by rw [ht]; exact hP, va_K.moved hW.alike hK⟩, hS.F ht⟩) hS.2.2 hd hlocks
theorem x_zret {Rz : Int32 × St} (hx : p.tables.exec = Jvm.exec) (hb : c.code = cc) (hr : meth.sig.returnType = some .boolean) (hlocks : meth.locks = false) (hK : WK G s) (hP : WP G σ H) (hS : va_S (AW G) s.heap H locs) {v : Int32} (hz : zok v = true) (h : some (v, σ) = some Rz) (hd : decode cc pc = .ok (.ireturn, 1)) : W p l e R s m args below meth c H locs 0 0 (QI below args s G Rz) (F0 m pc ls [.int v]) :=
  W.zret hx hb hr (zok_n hz).1 (fun t ht hW => ⟨⟨v, σ, rfl, Option.some.inj h, by rw [ht]; exact hP, va_K.moved hW.alike hK⟩, hS.F ht⟩) hS.2.2 hd hlocks
theorem x_lret {Rz : Int64 × St} (hx : p.tables.exec = Jvm.exec) (hb : c.code = cc) (hr : meth.sig.returnType = some .long) (hlocks : meth.locks = false) (hK : WK G s) (hP : WP G σ H) (hS : va_S (AW G) s.heap H locs) {v : Int64} (h : some (v, σ) = some Rz) (hd : decode cc pc = .ok (.lreturn, 1)) : W p l e R s m args below meth c H locs 0 0 (QJ below args s G Rz) (F0 m pc ls [.long v]) :=
  W.lret hx hb hr (fun t ht hW => ⟨⟨v, σ, rfl, Option.some.inj h, by rw [ht]; exact hP, va_K.moved hW.alike hK⟩, hS.F ht⟩) hS.2.2 hd hlocks
theorem x_vret {Rz : St} (hx : p.tables.exec = Jvm.exec) (hb : c.code = cc) (hr : meth.sig.returnType = none) (hlocks : meth.locks = false) (hK : WK G s) (hP : WP G σ H) (hS : va_S (AW G) s.heap H locs) (h : some σ = some Rz) (hd : decode cc pc = .ok (.return_, 1)) : W p l e R s m args below meth c H locs 0 0 (QV below args s G Rz) (F0 m pc ls []) :=
  W.vret hx hb hr (fun t ht hW => ⟨⟨σ, rfl, Option.some.inj h, by rw [ht]; exact hP, va_K.moved hW.alike hK⟩, hS.F ht⟩) hS.2.2 hd hlocks
variable {y : MethodName} {ws : List Cond} {rm : Room} {nL n index maxL q ci N : Nat} {own C : String} {Ts : List Cond} {bytes : ByteArray} {ret : Option FieldType} {As : List Value} {fs : List Value} {T : u_T}
theorem x_Vi {Rz : Int32 × St} (S : CallFix p m c cc nL s args Ts own) (hK : WK G s) (hP : WP G σ H) (hS : va_S (AW G) H0 H locs) (hq : q < NP) (hc : cell G σ q = .inr (ci, fs)) (hcl : vwCl[ci]? = some (C, T, N))
    (hM : Met l y ws rm (va_Pc (.ref (G.2.2 q) :: As) (Pre G σ)) (va_Qi (fun r u => (r, u) = Rz) (Pre G) (AW G)) 0 0 (AW G)) (cw : CallW R s args own C index y bytes maxL ret ws rm 0 0 n) (hn : As.length = n) (hsize : ls.size = nL) (hst : st = As.reverse ++ .ref (G.2.2 q) :: rest) (hW : (rest.map fun v => v.category).sum ≤ 8) (hd : decode cc pc = .ok (.invokevirtual index, 3)) (hf : cells ≤ R.cells ∧ slots ≤ R.slots)
    (kk : ∀ (H1 : Heap) (locs1 : List Loc), WP G Rz.2 H1 → va_S (AW G) H0 H1 locs1 → W p l e R s m args below meth c H1 locs1 cells slots Q (F0 m (pc + 3) ls (.int Rz.1 :: rest))) : W p l e R s m args below meth c H locs cells slots Q (F0 m pc ls st) :=
  va_calli (va_runV S hM cw ⟨pre_blind, va_recv hK hP hcl (by rw [wl_at hq, hc]), fun U hU hW => ⟨rfl, by rw [hU]; exact hP, va_K.moved hW.alike hK⟩⟩ rfl hn hsize hst (lv_room hW) hd hf) hS (fun _ _ h => h) (fun _ h => h) (fun r u t H1 locs1 ht hvm hw hB _ _ hS1 => by
    subst hw
    exact kk H1 locs1 (by rw [← ht]; exact hB.1) hS1)
theorem x_Vl {Rz : Int64 × St} (S : CallFix p m c cc nL s args Ts own) (hK : WK G s) (hP : WP G σ H) (hS : va_S (AW G) H0 H locs) (hq : q < NP) (hc : cell G σ q = .inr (ci, fs)) (hcl : vwCl[ci]? = some (C, T, N))
    (hM : Met l y ws rm (va_Pc (.ref (G.2.2 q) :: As) (Pre G σ)) (va_Ql (fun r u => (r, u) = Rz) (Pre G) (AW G)) 0 0 (AW G)) (cw : CallW R s args own C index y bytes maxL ret ws rm 0 0 n) (hn : As.length = n) (hsize : ls.size = nL) (hst : st = As.reverse ++ .ref (G.2.2 q) :: rest) (hW : (rest.map fun v => v.category).sum ≤ 8) (hd : decode cc pc = .ok (.invokevirtual index, 3)) (hf : cells ≤ R.cells ∧ slots ≤ R.slots)
    (kk : ∀ (H1 : Heap) (locs1 : List Loc), WP G Rz.2 H1 → va_S (AW G) H0 H1 locs1 → W p l e R s m args below meth c H1 locs1 cells slots Q (F0 m (pc + 3) ls (.long Rz.1 :: rest))) : W p l e R s m args below meth c H locs cells slots Q (F0 m pc ls st) :=
  va_calll (va_runV S hM cw ⟨pre_blind, va_recv hK hP hcl (by rw [wl_at hq, hc]), fun U hU hW => ⟨rfl, by rw [hU]; exact hP, va_K.moved hW.alike hK⟩⟩ rfl hn hsize hst (lv_room hW) hd hf) hS (fun _ _ h => h) (fun _ h => h) (fun r u t H1 locs1 ht hvm hw hB _ _ hS1 => by
    subst hw
    exact kk H1 locs1 (by rw [← ht]; exact hB.1) hS1)
theorem x_Vv {Rz : St} (S : CallFix p m c cc nL s args Ts own) (hK : WK G s) (hP : WP G σ H) (hS : va_S (AW G) H0 H locs) (hq : q < NP) (hc : cell G σ q = .inr (ci, fs)) (hcl : vwCl[ci]? = some (C, T, N))
    (hM : Met l y ws rm (va_Pc (.ref (G.2.2 q) :: As) (Pre G σ)) (va_Qv (fun u => u = Rz) (Pre G) (AW G)) 0 0 (AW G)) (cw : CallW R s args own C index y bytes maxL ret ws rm 0 0 n) (hn : As.length = n) (hsize : ls.size = nL) (hst : st = As.reverse ++ .ref (G.2.2 q) :: rest) (hW : (rest.map fun v => v.category).sum ≤ 8) (hd : decode cc pc = .ok (.invokevirtual index, 3)) (hf : cells ≤ R.cells ∧ slots ≤ R.slots)
    (kk : ∀ (H1 : Heap) (locs1 : List Loc), WP G Rz H1 → va_S (AW G) H0 H1 locs1 → W p l e R s m args below meth c H1 locs1 cells slots Q (F0 m (pc + 3) ls rest)) : W p l e R s m args below meth c H locs cells slots Q (F0 m pc ls st) :=
  va_callv (va_runV S hM cw ⟨pre_blind, va_recv hK hP hcl (by rw [wl_at hq, hc]), fun U hU hW => ⟨rfl, by rw [hU]; exact hP, va_K.moved hW.alike hK⟩⟩ rfl hn hsize hst (lv_room hW) hd hf) hS (fun _ _ h => h) (fun _ h => h) (fun u t H1 locs1 ht hvm hw hB _ _ hS1 => by
    subst hw
    exact kk H1 locs1 (by rw [← ht]; exact hB.1) hS1)
theorem x_Si {Rz : Int32 × St} (S : CallFix p m c cc nL s args Ts own) (hK : WK G s) (hP : WP G σ H) (hS : va_S (AW G) H0 H locs)
    (hM : Met l y ws rm (va_Pc As (Pre G σ)) (va_Qi (fun r u => (r, u) = Rz) (Pre G) (AW G)) 0 0 (AW G)) (cw : CallB R s args own index y bytes maxL ret ws rm 0 0 n ∧ (Cond.static y).before args s = true) (hn : As.length = n) (hsize : ls.size = nL) (hst : st = As.reverse ++ rest) (hW : (rest.map fun v => v.category).sum ≤ 8) (hd : decode cc pc = .ok (.invokestatic index, 3)) (hf : cells ≤ R.cells ∧ slots ≤ R.slots)
    (kk : ∀ (H1 : Heap) (locs1 : List Loc), WP G Rz.2 H1 → va_S (AW G) H0 H1 locs1 → W p l e R s m args below meth c H1 locs1 cells slots Q (F0 m (pc + 3) ls (.int Rz.1 :: rest))) : W p l e R s m args below meth c H locs cells slots Q (F0 m pc ls st) :=
  va_calli (va_runS S hM cw ⟨pre_blind, fun U hU hW => ⟨rfl, by rw [hU]; exact hP, va_K.moved hW.alike hK⟩⟩ rfl hn hsize hst (lv_room hW) hd hf) hS (fun _ _ h => h) (fun _ h => h) (fun r u t H1 locs1 ht hvm hw hB _ _ hS1 => by
    subst hw
    exact kk H1 locs1 (by rw [← ht]; exact hB.1) hS1)
theorem x_Sl {Rz : Int64 × St} (S : CallFix p m c cc nL s args Ts own) (hK : WK G s) (hP : WP G σ H) (hS : va_S (AW G) H0 H locs)
    (hM : Met l y ws rm (va_Pc As (Pre G σ)) (va_Ql (fun r u => (r, u) = Rz) (Pre G) (AW G)) 0 0 (AW G)) (cw : CallB R s args own index y bytes maxL ret ws rm 0 0 n ∧ (Cond.static y).before args s = true) (hn : As.length = n) (hsize : ls.size = nL) (hst : st = As.reverse ++ rest) (hW : (rest.map fun v => v.category).sum ≤ 8) (hd : decode cc pc = .ok (.invokestatic index, 3)) (hf : cells ≤ R.cells ∧ slots ≤ R.slots)
    (kk : ∀ (H1 : Heap) (locs1 : List Loc), WP G Rz.2 H1 → va_S (AW G) H0 H1 locs1 → W p l e R s m args below meth c H1 locs1 cells slots Q (F0 m (pc + 3) ls (.long Rz.1 :: rest))) : W p l e R s m args below meth c H locs cells slots Q (F0 m pc ls st) :=
  va_calll (va_runS S hM cw ⟨pre_blind, fun U hU hW => ⟨rfl, by rw [hU]; exact hP, va_K.moved hW.alike hK⟩⟩ rfl hn hsize hst (lv_room hW) hd hf) hS (fun _ _ h => h) (fun _ h => h) (fun r u t H1 locs1 ht hvm hw hB _ _ hS1 => by
    subst hw
    exact kk H1 locs1 (by rw [← ht]; exact hB.1) hS1)
theorem x_Sv {Rz : St} (S : CallFix p m c cc nL s args Ts own) (hK : WK G s) (hP : WP G σ H) (hS : va_S (AW G) H0 H locs)
    (hM : Met l y ws rm (va_Pc As (Pre G σ)) (va_Qv (fun u => u = Rz) (Pre G) (AW G)) 0 0 (AW G)) (cw : CallB R s args own index y bytes maxL ret ws rm 0 0 n ∧ (Cond.static y).before args s = true) (hn : As.length = n) (hsize : ls.size = nL) (hst : st = As.reverse ++ rest) (hW : (rest.map fun v => v.category).sum ≤ 8) (hd : decode cc pc = .ok (.invokestatic index, 3)) (hf : cells ≤ R.cells ∧ slots ≤ R.slots)
    (kk : ∀ (H1 : Heap) (locs1 : List Loc), WP G Rz H1 → va_S (AW G) H0 H1 locs1 → W p l e R s m args below meth c H1 locs1 cells slots Q (F0 m (pc + 3) ls rest)) : W p l e R s m args below meth c H locs cells slots Q (F0 m pc ls st) :=
  va_callv (va_runS S hM cw ⟨pre_blind, fun U hU hW => ⟨rfl, by rw [hU]; exact hP, va_K.moved hW.alike hK⟩⟩ rfl hn hsize hst (lv_room hW) hd hf) hS (fun _ _ h => h) (fun _ h => h) (fun u t H1 locs1 ht hvm hw hB _ _ hS1 => by
    subst hw
    exact kk H1 locs1 (by rw [← ht]; exact hB.1) hS1)
end XROWS
section XTOP
variable {p : Program} {l : Launch} {e : Env} {R : Room} {s : State} {m : MethodId} {args : Array Value} {below : List Frame} {meth : Method} {c : Code} {H : Heap} {locs : List Loc} {cells slots : Nat} {Q : State → Prop} {pc : Nat} {ls : Array Slot} {rest : List Value}
theorem x_top {x w : Int32} (h : w = x) (k : W p l e R s m args below meth c H locs cells slots Q (F0 m pc ls (.int w :: rest))) : W p l e R s m args below meth c H locs cells slots Q (F0 m pc ls (.int x :: rest)) := by subst h; exact k
theorem x_topl {x w : Int64} (h : w = x) (k : W p l e R s m args below meth c H locs cells slots Q (F0 m pc ls (.long w :: rest))) : W p l e R s m args below meth c H locs cells slots Q (F0 m pc ls (.long x :: rest)) := by subst h; exact k
end XTOP
theorem bne_z {x : Int32} (h : (x != 0) = true) : ¬ x = 0 := by
  intro q
  rw [q] at h
  exact absurd h (by decide)
theorem rmd_ok {a b k : Nat} (h : a + 1 ≤ b) (hk : k ≤ 21) : (rmd a).frames + 1 ≤ (rmd b).frames ∧ 8 + (k + 11) + (rmd a).locals ≤ (rmd b).locals := by
  refine ⟨h, ?_⟩
  show 8 + (k + 11) + 40 * a ≤ 40 * b
  omega
theorem rmd_f {b : Nat} (h : 1 ≤ b) : 1 ≤ (rmd b).frames := h
theorem rmd_l {b k : Nat} (h : 1 ≤ b) (hk : k ≤ 27) : k + 13 ≤ (rmd b).locals := by
  show k + 13 ≤ 40 * b
  omega
