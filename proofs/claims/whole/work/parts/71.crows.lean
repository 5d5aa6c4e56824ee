section CROWS
variable {p : Program} {l : Launch} {e : Env} {R : Room} {s : State} {m : MethodId} {args : Array Value} {below : List Frame} {meth : Method} {c : Code} {H : Heap} {locs : List Loc} {cells slots : Nat} {Q : State → Prop}
variable {cc : ByteArray} {pc : Nat} {ls : Array Slot} {rest st : List Value} {H0 : Heap} {G : wG} {z : SC} {a : Nat}
theorem zl_15 (hx : p.tables.exec = Jvm.exec) (hb : c.code = cc) (hK : WK G s) (hP : WC G z H) (hk : kd a = 15) (ha : a < z.1) {i : Int32} (hi : vp_in i (ln a)) (hd : decode cc pc = .ok (.laload, 1)) (kk : W p l e R s m args below meth c H locs cells slots Q (F0 m (pc + 1) ls (.long (z.2.1.2 a i.toNatClampNeg) :: rest))) : W p l e R s m args below meth c H locs cells slots Q (F0 m pc ls (.int i :: .ref (G.2.2 a) :: rest)) :=
  va_lald hx hb hK hP.1 a 2 (by rw [wlC_at ha, cellC_15 hk]) rfl hi hd kk
theorem zl_n (hx : p.tables.exec = Jvm.exec) (hb : c.code = cc) (hK : WK G s) (hP : WC G z H) (hk : kd a = 14) (ha : a < z.1) (hd : decode cc pc = .ok (.arraylength, 1)) (kk : W p l e R s m args below meth c H locs cells slots Q (F0 m (pc + 1) ls (.int (Int32.ofNat (ln a)) :: rest))) : W p l e R s m args below meth c H locs cells slots Q (F0 m pc ls (.ref (G.2.2 a) :: rest)) :=
  va_alen hx hb hK hP.1 a 1 (by rw [wlC_at ha, cellC_14 hk]) rfl rfl hd kk
theorem zs_14 (hx : p.tables.exec = Jvm.exec) (hb : c.code = cc) (hK : WK G s) (hG : Gb G) (hP : WC G z H) (hS : va_S (AB G) H0 H locs) (hk : kd a = 14) (ha : a < z.1) {i x : Int32} (hi : vp_in i (ln a)) (hd : decode cc pc = .ok (.iastore, 1)) (kk : ∀ (H1 : Heap) (locs1 : List Loc), WC G (cI z a i.toNatClampNeg x) H1 → va_S (AB G) H0 H1 locs1 → W p l e R s m args below meth c H1 locs1 cells slots Q (F0 m (pc + 1) ls rest)) : W p l e R s m args below meth c H locs cells slots Q (F0 m pc ls (.int x :: .int i :: .ref (G.2.2 a) :: rest)) := by
  have h0 : (wlC G z)[a]? = some (G.2.2 a, .inl (G.2.1 14, ln a, .inl (z.2.1.1 a))) := by rw [wlC_at ha, cellC_14 hk]
  refine W.iast hx hb (hP.1 a _ h0) ((hK.2 1 _ (show (tyl G)[1]? = some (G.2.1 14, .int) from rfl)).1 (ln a) (fun j => .int (z.2.1.1 a j))) (fun q => by cases q) (by show ¬ (i < 0 ∨ (arrV _ _ _).slots.size ≤ _); rw [arrV_size]; exact hi) rfl rfl hd fun H1 e1 z1 oq => ?_
  have h1 : va_P G.1 vwCl ((wlC G z).set a (G.2.2 a, .inl (G.2.1 14, ln a, .inl (upd (z.2.1.1 a) i.toNatClampNeg x)))) H1 := by
    refine hP.1.set (wlC_D hG) h0 ?_ oq
    show H1[G.2.2 a]? = some (vp_cell _ _)
    rw [e1, vp_cell_i, vp_cell_i, arrV_store]
    congr 2
    funext q
    by_cases hq : q = i.toNatClampNeg
    · subst hq; simp [updV, upd]
    · simp [updV, upd, hq]
  refine kk H1 _ ⟨?_, z1.trans hP.2.1, zr_I hP.2.2 ha⟩ (hS.put z1 oq ((wlC_D hG).2 a _ h0))
  have h4 : cellC G (cI z a i.toNatClampNeg x) a = .inl (G.2.1 14, ln a, .inl (upd (z.2.1.1 a) i.toNatClampNeg x)) := by
    rw [cellC_14 hk, show (cI z a i.toNatClampNeg x).2.1.1 a = upd (z.2.1.1 a) i.toNatClampNeg x from sI_row z.2.1 a _ x]
  rw [← h4, wlC_I ha] at h1
  exact h1
theorem zs_15 (hx : p.tables.exec = Jvm.exec) (hb : c.code = cc) (hK : WK G s) (hG : Gb G) (hP : WC G z H) (hS : va_S (AB G) H0 H locs) (hk : kd a = 15) (ha : a < z.1) {i : Int32} {x : Int64} (hi : vp_in i (ln a)) (hd : decode cc pc = .ok (.lastore, 1)) (kk : ∀ (H1 : Heap) (locs1 : List Loc), WC G (cJ z a i.toNatClampNeg x) H1 → va_S (AB G) H0 H1 locs1 → W p l e R s m args below meth c H1 locs1 cells slots Q (F0 m (pc + 1) ls rest)) : W p l e R s m args below meth c H locs cells slots Q (F0 m pc ls (.long x :: .int i :: .ref (G.2.2 a) :: rest)) := by
  have h0 : (wlC G z)[a]? = some (G.2.2 a, .inl (G.2.1 15, ln a, .inr (.inl (z.2.1.2 a)))) := by rw [wlC_at ha, cellC_15 hk]
  refine W.last hx hb (hP.1 a _ h0) ((hK.2 2 _ (show (tyl G)[2]? = some (G.2.1 15, .long) from rfl)).1 (ln a) (fun j => .long (z.2.1.2 a j))) (fun q => by cases q) (by show ¬ (i < 0 ∨ (arrV _ _ _).slots.size ≤ _); rw [arrV_size]; exact hi) rfl rfl hd fun H1 e1 z1 oq => ?_
  have h1 : va_P G.1 vwCl ((wlC G z).set a (G.2.2 a, .inl (G.2.1 15, ln a, .inr (.inl (vp_updL (z.2.1.2 a) i.toNatClampNeg x))))) H1 := by
    refine hP.1.set (wlC_D hG) h0 ?_ oq
    show H1[G.2.2 a]? = some (vp_cell _ _)
    rw [e1, vp_cell_l, vp_cell_l, arrV_store]
    congr 2
    funext q
    by_cases hq : q = i.toNatClampNeg
    · subst hq; simp [updV, vp_updL]
    · simp [updV, vp_updL, hq]
  refine kk H1 _ ⟨?_, z1.trans hP.2.1, zr_J hP.2.2 ha⟩ (hS.put z1 oq ((wlC_D hG).2 a _ h0))
  have h4 : cellC G (cJ z a i.toNatClampNeg x) a = .inl (G.2.1 15, ln a, .inr (.inl (vp_updL (z.2.1.2 a) i.toNatClampNeg x))) := by
    rw [cellC_15 hk, show (cJ z a i.toNatClampNeg x).2.1.2 a = vp_updL (z.2.1.2 a) i.toNatClampNeg x from sJ_row z.2.1 a _ x]
  rw [← h4, wlC_J ha] at h1
  exact h1
theorem zs_17 (hx : p.tables.exec = Jvm.exec) (hb : c.code = cc) (hK : WK G s) (hG : Gb G) (hP : WC G z H) (hS : va_S (AB G) H0 H locs) (hk : kd a = 17) (ha : a < z.1) {b : Nat} (hkb : kd b = 1) (hbz : b < z.1) {i : Int32} (hi : vp_in i (ln a)) (hd : decode cc pc = .ok (.aastore, 1)) (kk : ∀ (H1 : Heap) (locs1 : List Loc), WC G (cR z a i.toNatClampNeg b) H1 → va_S (AB G) H0 H1 locs1 → W p l e R s m args below meth c H1 locs1 cells slots Q (F0 m (pc + 1) ls rest)) : W p l e R s m args below meth c H locs cells slots Q (F0 m pc ls (.ref (G.2.2 b) :: .int i :: .ref (G.2.2 a) :: rest)) := by
  have h0 : (wlC G z)[a]? = some (G.2.2 a, .inl (G.2.1 17, ln a, .inr (.inr (.inr (.inr (fun j => (z.2.2 a j).map G.2.2)))))) := by rw [wlC_at ha, cellC_17 hk]
  have hv := (wlC_at (G := G) hbz).trans (by rw [cellC_1 hkb])
  obtain ⟨r', hr', cellV, g1, g2, g3, -⟩ := hP.1 b _ hv
  have hlt : i.toNatClampNeg < ln a := Nat.not_le.mp fun q => hi (Or.inr q)
  have hi0 : ¬ i < 0 := fun q => hi (Or.inl q)
  have hcls := (hK.1 1 _ (show vwCl[1]? = some (RX1, TX1, 6) from rfl)).2
  obtain ⟨kA, comp, k1, k2, k3, -⟩ := (hK.2 4 _ (show (tyl G)[4]? = some (G.2.1 17, .object "ThreeTiers$Board") from rfl)).2
  have hcomp : comp = G.1.1 1 := Option.some.inj (k3.symm.trans hcls.1)
  subst hcomp
  obtain ⟨kC, hkC, -⟩ := hcls.2
  refine W.aast hx hb (hP.1 a _ h0) (fun q h => by cases h) (fun h => by cases h) k1 k2 rfl hkC ⟨hi0, by show _ < (arrV _ _ _).slots.size; rw [arrV_size]; exact hlt⟩ g1 (fun q h => by rw [g3] at h; cases h) (by rw [g2]; exact hkC) (by rw [g2]; exact va_assign hcls) rfl rfl hd fun H1 e1 z1 oq => ?_
  have h1 : va_P G.1 vwCl ((wlC G z).set a (G.2.2 a, .inl (G.2.1 17, ln a, .inr (.inr (.inr (.inr (fun j => ((cR z a i.toNatClampNeg b).2.2 a j).map G.2.2))))))) H1 := by
    refine hP.1.set (wlC_D hG) h0 ?_ oq
    show H1[G.2.2 a]? = some (vp_cell _ _)
    rw [e1, vp_cell_q, vp_cell_q, arrV_store]
    congr 2
    funext q
    rw [cR_at]
    by_cases hq : q = i.toNatClampNeg
    · subst hq; simp [updV, va_rf]
    · simp [updV, hq]
  refine kk H1 _ ⟨?_, z1.trans hP.2.1, zr_R hP.2.2 ha⟩ (hS.put z1 oq ((wlC_D hG).2 a _ h0))
  have h4 : cellC G (cR z a i.toNatClampNeg b) a = .inl (G.2.1 17, ln a, .inr (.inr (.inr (.inr (fun j => ((cR z a i.toNatClampNeg b).2.2 a j).map G.2.2))))) := cellC_17 hk
  rw [← h4, wlC_R ha] at h1
  exact h1
theorem zs_18 (hx : p.tables.exec = Jvm.exec) (hb : c.code = cc) (hK : WK G s) (hG : Gb G) (hP : WC G z H) (hS : va_S (AB G) H0 H locs) (hk : kd a = 18) (ha : a < z.1) {b : Nat} (hkb : kd b = 9) (hbz : b < z.1) {i : Int32} (hi : vp_in i (ln a)) (hd : decode cc pc = .ok (.aastore, 1)) (kk : ∀ (H1 : Heap) (locs1 : List Loc), WC G (cR z a i.toNatClampNeg b) H1 → va_S (AB G) H0 H1 locs1 → W p l e R s m args below meth c H1 locs1 cells slots Q (F0 m (pc + 1) ls rest)) : W p l e R s m args below meth c H locs cells slots Q (F0 m pc ls (.ref (G.2.2 b) :: .int i :: .ref (G.2.2 a) :: rest)) := by
  have h0 : (wlC G z)[a]? = some (G.2.2 a, .inl (G.2.1 18, ln a, .inr (.inr (.inr (.inr (fun j => (z.2.2 a j).map G.2.2)))))) := by rw [wlC_at ha, cellC_18 hk]
  have hv := (wlC_at (G := G) hbz).trans (by rw [cellC_9 hkb])
  obtain ⟨r', hr', cellV, g1, g2, g3, -⟩ := hP.1 b _ hv
  have hlt : i.toNatClampNeg < ln a := Nat.not_le.mp fun q => hi (Or.inr q)
  have hi0 : ¬ i < 0 := fun q => hi (Or.inl q)
  have hcls := (hK.1 9 _ (show vwCl[9]? = some (RX9, TX9, 7) from rfl)).2
  obtain ⟨kA, comp, k1, k2, k3, -⟩ := (hK.2 5 _ (show (tyl G)[5]? = some (G.2.1 18, .object "ThreeTiers$Slab") from rfl)).2
  have hcomp : comp = G.1.1 9 := Option.some.inj (k3.symm.trans hcls.1)
  subst hcomp
  obtain ⟨kC, hkC, -⟩ := hcls.2
  refine W.aast hx hb (hP.1 a _ h0) (fun q h => by cases h) (fun h => by cases h) k1 k2 rfl hkC ⟨hi0, by show _ < (arrV _ _ _).slots.size; rw [arrV_size]; exact hlt⟩ g1 (fun q h => by rw [g3] at h; cases h) (by rw [g2]; exact hkC) (by rw [g2]; exact va_assign hcls) rfl rfl hd fun H1 e1 z1 oq => ?_
  have h1 : va_P G.1 vwCl ((wlC G z).set a (G.2.2 a, .inl (G.2.1 18, ln a, .inr (.inr (.inr (.inr (fun j => ((cR z a i.toNatClampNeg b).2.2 a j).map G.2.2))))))) H1 := by
    refine hP.1.set (wlC_D hG) h0 ?_ oq
    show H1[G.2.2 a]? = some (vp_cell _ _)
    rw [e1, vp_cell_q, vp_cell_q, arrV_store]
    congr 2
    funext q
    rw [cR_at]
    by_cases hq : q = i.toNatClampNeg
    · subst hq; simp [updV, va_rf]
    · simp [updV, hq]
  refine kk H1 _ ⟨?_, z1.trans hP.2.1, zr_R hP.2.2 ha⟩ (hS.put z1 oq ((wlC_D hG).2 a _ h0))
  have h4 : cellC G (cR z a i.toNatClampNeg b) a = .inl (G.2.1 18, ln a, .inr (.inr (.inr (.inr (fun j => ((cR z a i.toNatClampNeg b).2.2 a j).map G.2.2))))) := cellC_18 hk
  rw [← h4, wlC_R ha] at h1
  exact h1
variable {y : MethodName} {ws : List Cond} {rm : Room} {nL n index maxL q ci N mc ms : Nat} {own C : String} {Ts : List Cond} {bytes : ByteArray} {ret : Option FieldType} {As : List Value} {fs : List Value} {T : u_T}
theorem x_CI {Rz : SC} (S : CallFix p m c cc nL s args Ts own) (hK : WKC G s) (hP : WC G z H) (hS : va_S (AB G) H0 H locs) (hM : Met l y ws rm (va_Pc (.ref (G.2.2 q) :: As) (PreC G z)) (va_Qv (fun u => u = Rz) (PreC G) (AB G)) mc ms (AB G)) (cw : CallB R s args own index y bytes maxL none ws rm mc ms n ∧ y.name = "<init>" ∧ (Cond.instanceMethod y).before args s = true) (hn : As.length = n) (hsize : ls.size = nL) (hst : st = As.reverse ++ .ref (G.2.2 q) :: rest) (hW : (rest.map fun v => v.category).sum ≤ 8) (hd : decode cc pc = .ok (.invokespecial index, 3)) (hf : cells + mc ≤ R.cells ∧ slots + ms ≤ R.slots)
    (kk : ∀ (H1 : Heap) (locs1 : List Loc), WC G Rz H1 → va_S (AB G) H0 H1 locs1 → W p l e R s m args below meth c H1 locs1 (cells + mc) (slots + ms) Q (F0 m (pc + 3) ls rest)) : W p l e R s m args below meth c H locs cells slots Q (F0 m pc ls st) :=
  va_callv (va_runI S hM cw ⟨preC_blind, fun U hU hW => ⟨rfl, by rw [hU]; exact hP, WKC.moved hW.alike hK⟩⟩ rfl hn hsize hst (lv_room hW) hd hf) hS (fun _ _ h => h) (fun _ h => h) (fun u t H1 locs1 ht hvm hw hB _ _ hS1 => by
    subst hw
    exact kk H1 locs1 (by rw [← ht]; exact hB.1) hS1)
theorem x_CV {Rz : SC} (S : CallFix p m c cc nL s args Ts own) (hK : WKC G s) (hP : WC G z H) (hS : va_S (AB G) H0 H locs) (hq : q < z.1) (hc : cellC G z q = .inr (ci, fs)) (hcl : vwCl[ci]? = some (C, T, N)) (hM : Met l y ws rm (va_Pc (.ref (G.2.2 q) :: As) (PreC G z)) (va_Qv (fun u => u = Rz) (PreC G) (AB G)) mc ms (AB G)) (cw : CallW R s args own C index y bytes maxL ret ws rm mc ms n) (hn : As.length = n) (hsize : ls.size = nL) (hst : st = As.reverse ++ .ref (G.2.2 q) :: rest) (hW : (rest.map fun v => v.category).sum ≤ 8) (hd : decode cc pc = .ok (.invokevirtual index, 3)) (hf : cells + mc ≤ R.cells ∧ slots + ms ≤ R.slots)
    (kk : ∀ (H1 : Heap) (locs1 : List Loc), WC G Rz H1 → va_S (AB G) H0 H1 locs1 → W p l e R s m args below meth c H1 locs1 (cells + mc) (slots + ms) Q (F0 m (pc + 3) ls rest)) : W p l e R s m args below meth c H locs cells slots Q (F0 m pc ls st) :=
  va_callv (va_runV S hM cw ⟨preC_blind, va_recv hK.1 hP.1 hcl (by rw [wlC_at hq, hc]), fun U hU hW => ⟨rfl, by rw [hU]; exact hP, WKC.moved hW.alike hK⟩⟩ rfl hn hsize hst (lv_room hW) hd hf) hS (fun _ _ h => h) (fun _ h => h) (fun u t H1 locs1 ht hvm hw hB _ _ hS1 => by
    subst hw
    exact kk H1 locs1 (by rw [← ht]; exact hB.1) hS1)
theorem x_cvret {Rz : SC} {k n : Nat} (hx : p.tables.exec = Jvm.exec) (hb : c.code = cc) (hr : meth.sig.returnType = none) (hlocks : meth.locks = false) (hK : WKC G s) (hP : WC G z H) (hS : va_S (AB G) s.heap H locs) (h : some z = some Rz) (hk : cells = k) (hn : slots = n) (hd : decode cc pc = .ok (.return_, 1)) : W p l e R s m args below meth c H locs cells slots (MQ below (va_Qv (fun u => u = Rz) (PreC G) (AB G)) args s k n (AB G)) (F0 m pc ls []) := by
  subst hk
  subst hn
  exact W.vret hx hb hr (fun t ht hW => ⟨⟨z, rfl, Option.some.inj h, by rw [ht]; exact hP, WKC.moved hW.alike hK⟩, hS.F ht⟩) hS.2.2 hd hlocks
theorem sl_self (a : Nat) : sl a a = 0 := by
  cases a with
  | zero => rfl
  | succ n => simp [sl]
theorem sl_next {a n : Nat} (h : a ≤ n) : sl a (n + 1) = sl a n + sz n := by
  simp only [sl]
  rw [if_neg (by omega)]
end CROWS
def ag (n0 MC MS : Nat) (z : SC) (c N : Nat) : Bool := kd z.1 == c && sz z.1 == N && decide (n0 ≤ z.1 ∧ z.1 - n0 + 1 ≤ MC ∧ sl n0 z.1 + N ≤ MS)
theorem ag_s {n0 MC MS c N : Nat} {z : SC} (h : ag n0 MC MS z c N = true) : kd z.1 = c ∧ sz z.1 = N ∧ n0 ≤ z.1 ∧ z.1 - n0 + 1 ≤ MC ∧ sl n0 z.1 + N ≤ MS := by
  unfold ag at h
  obtain ⟨h1, h2⟩ := (Bool.and_eq_true _ _).mp h
  obtain ⟨h3, h4⟩ := (Bool.and_eq_true _ _).mp h1
  exact ⟨eq_of_beq h3, eq_of_beq h4, of_decide_eq_true h2⟩
theorem ag_c {n0 MC MS c N : Nat} {z : SC} (h : ag n0 MC MS z c N = true) : z.1 - n0 + 1 = (cN z).1 - n0 := by
  have := (ag_s h).2.2.1
  show z.1 - n0 + 1 = z.1 + 1 - n0
  omega
theorem ag_l {n0 MC MS c N : Nat} {z : SC} (h : ag n0 MC MS z c N = true) : sl n0 z.1 + N = sl n0 (cN z).1 := by
  obtain ⟨-, h2, h3, -⟩ := ag_s h
  show sl n0 z.1 + N = sl n0 (z.1 + 1)
  rw [sl_next h3, h2]
def cg (n0 MC MS : Nat) (z : SC) (k n : Nat) : Bool := decide (n0 ≤ z.1 ∧ z.1 - n0 + k ≤ MC ∧ sl n0 z.1 + n ≤ MS)
theorem cg_s {n0 MC MS k n : Nat} {z : SC} (h : cg n0 MC MS z k n = true) : n0 ≤ z.1 ∧ z.1 - n0 + k ≤ MC ∧ sl n0 z.1 + n ≤ MS := of_decide_eq_true h
def pg (n0 : Nat) (z w : SC) (k n : Nat) : Bool := decide (z.1 - n0 + k = w.1 - n0 ∧ sl n0 z.1 + n = sl n0 w.1)
theorem pg_s {n0 k n : Nat} {z w : SC} (h : pg n0 z w k n = true) : z.1 - n0 + k = w.1 - n0 ∧ sl n0 z.1 + n = sl n0 w.1 := of_decide_eq_true h
def rg (n0 MC MS : Nat) (z : SC) : Bool := decide (z.1 - n0 = MC ∧ sl n0 z.1 = MS)
theorem rg_s {n0 MC MS : Nat} {z : SC} (h : rg n0 MC MS z = true) : z.1 - n0 = MC ∧ sl n0 z.1 = MS := of_decide_eq_true h
theorem rmc_ok {a b k MC MS mc ms : Nat} (h : a + 1 ≤ b) (hk : k ≤ 21) : (rmc a mc ms).frames + 1 ≤ (rmc b MC MS).frames ∧ 8 + (k + 11) + (rmc a mc ms).locals ≤ (rmc b MC MS).locals := by
  refine ⟨h, ?_⟩
  show 8 + (k + 11) + 40 * a ≤ 40 * b
  omega
def bv2 {β : Type} (x : Option SC) (f : SC → Option β) : Option β := match x with
  | none => none
  | some q => f q
theorem bv2_s {β : Type} {x : Option SC} {f : SC → Option β} {y : β} (h : bv2 x f = some y) : ∃ τ, x = some τ ∧ f τ = some y := by
  cases x with
  | none => cases h
  | some q => exact ⟨q, rfl, h⟩
/-- what holds all through the body of a method that makes -/
def CC (p : Program) (s : State) (m : MethodId) (args : Array Value) (meth : Method) (c : Code) (cc : ByteArray) (nL : Nat) (Ts : List Cond) (own nm : String) (G : wG) : Prop :=
  p.tables.exec = Jvm.exec ∧ c.code = cc ∧ c.maxLocals = nL ∧ s.vm.findClass own = some m.cls ∧ (∀ w ∈ Ts, w.before args s = true) ∧ meth.sig.returnType = none ∧ meth.locks = false ∧ WK G s ∧ (va_AO "ThreeTiers$Board" s ∧ va_AO "ThreeTiers$Slab" s) ∧ Gb G ∧ meth.name = nm
