/-! the one string constant, and what the JDK's own methods answer of it -/
def kB : List Int32 := [116, 105, 101, 114, 32, 98, 121, 32, 104, 105, 103, 104, 32, 103, 117, 101, 115, 116, 32, 119, 97, 110, 116, 115, 32, 115, 119, 101, 101, 116, 32, 99, 111, 109, 101, 115, 32, 119, 111, 114, 116, 104, 32, 115, 108, 105, 112, 32, 112, 97, 99, 101, 32, 100, 114, 97, 119, 32, 111, 114, 32, 97, 110, 100, 32, 110, 111, 116, 32, 97, 114, 101, 97, 32, 105, 99, 105, 110, 103, 32, 98, 114, 111, 107, 101, 110, 32, 108, 111, 110, 103, 32, 109, 105, 110, 117, 116, 101, 32]
def kT : String := "tier by high guest wants sweet comes worth slip pace draw or and not area icing broken long minute "
abbrev JSt : Type := Nat × Nat × Option Nat
def NF : Nat → Prop := fun _ => False
/-- the string at its place, its bytes, two statics -/
def Sf (S : JSt) (A : Nat → Prop) (U : State) (H : Heap) : Prop := vk_S 1 [99] [kB] (fun _ => S.1) (fun _ => S.2.1) A U H ∧ va_Z "java/lang/String" "COMPACT_STRINGS" "Z" (.int 1) A U H ∧ va_Z "jdk/internal/util/Preconditions" "SIOOBE_FORMATTER" "Ljava/util/function/BiFunction;" (va_rf S.2.2) A U H
theorem Sf.moved {S : JSt} {A : Nat → Prop} {u U : State} {H : Heap} (h : u.vm.Alike U.vm) (k : Sf S A u H) : Sf S A U H := ⟨vk_S.moved h k.1, va_Z.moved h k.2.1, va_Z.moved h k.2.2⟩
theorem Sf.kept {S : JSt} {A : Nat → Prop} {U : State} {H H1 : Heap} (k : Sf S A U H) (hq : ∀ a : Nat, a < H.size → ¬ A a → H1[a]? = H[a]?) : Sf S A U H1 := ⟨k.1.kept hq, k.2.1.kept hq, k.2.2.kept hq⟩
theorem Sf.narrow {S : JSt} {A B : Nat → Prop} {U : State} {H : Heap} (k : Sf S A U H) (hAB : ∀ q, B q → A q) : Sf S B U H := ⟨k.1.narrow hAB, k.2.1.narrow hAB, k.2.2.narrow hAB⟩
theorem Sf.nf {S : JSt} {A : Nat → Prop} {U : State} {H : Heap} (k : Sf S A U H) : Sf S NF U H := k.narrow (fun _ h => h.elim)
def PJ (S : JSt) (Hx : Heap) (U : State) : Prop := U.heap = Hx ∧ Sf S NF U Hx
theorem pj_blind {S : JSt} {Hx : Heap} {av : List Value} : FrameBlind (va_Pc av (PJ S Hx)) := fun a U g mk q => ⟨q.1, q.2.1, Sf.moved (u := U) (U := U.calling g mk a) (Vm.Alike.refl U.vm) q.2.2⟩
def P0 (Hx : Heap) (U : State) : Prop := U.heap = Hx
theorem p0_blind {Hx : Heap} {av : List Value} : FrameBlind (va_Pc av (P0 Hx)) := fun _ _ _ _ q => q
def jch (i : Int32) : Int32 := (((kB.getD i.toNatClampNeg 0) &&& 255).toUInt32 % 65536).toInt32
section JROWS
variable {p : Program} {l : Launch} {e : Env} {R : Room} {s : State} {m : MethodId} {args : Array Value} {below : List Frame} {meth : Method} {c : Code} {H : Heap} {locs : List Loc} {cells slots : Nat} {Q : State → Prop}
variable {cc : ByteArray} {pc : Nat} {ls : Array Slot} {rest st : List Value} {H0 : Heap} {A0 : Nat → Prop}
variable {y : MethodName} {ws : List Cond} {rm : Room} {nL n index maxL : Nat} {own : String} {Ts : List Cond} {bytes : ByteArray} {ret : Option FieldType} {As : List Value} {S : JSt} {rv : Int32} {rl : Int64}
theorem x_JV (C : CallFix p m c cc nL s args Ts own) (hJ : Sf S NF s H) (hS : va_S A0 H0 H locs) (hM : Met l y ws rm (va_Pc (.ref S.1 :: As) (PJ S H)) (va_Qi (fun r (_ : Unit) => r = rv) (fun _ t => t.heap = H) NF) 0 0 NF) (cw : CallW R s args own "java/lang/String" index y bytes maxL ret ws rm 0 0 n) (hn : As.length = n) (hsize : ls.size = nL) (hst : st = As.reverse ++ .ref S.1 :: rest) (hW : (rest.map fun v => v.category).sum ≤ 8) (hd : decode cc pc = .ok (.invokevirtual index, 3)) (hf : cells + 0 ≤ R.cells ∧ slots + 0 ≤ R.slots)
    (kk : ∀ locs1 : List Loc, va_S A0 H0 H locs1 → W p l e R s m args below meth c H locs1 cells slots Q (F0 m (pc + 3) ls (.int rv :: rest))) : W p l e R s m args below meth c H locs cells slots Q (F0 m pc ls st) := by
  have hrec : ∃ cell : Cell, H[S.1]? = some cell ∧ cell.vm.isStatics = false ∧ s.vm.findClass "java/lang/String" = some cell.cls := by
    obtain ⟨cell, h1, h2, h3, -⟩ := (hJ.1.1 0 Nat.zero_lt_one).1
    exact ⟨cell, h1, h2, h3⟩
  exact va_calli (va_runV C hM cw ⟨pj_blind, hrec, fun U hU hW => ⟨rfl, hU, Sf.moved hW.alike hJ⟩⟩ rfl hn hsize hst (lv_room hW) hd hf) hS (fun _ _ h => h.elim) (fun _ h => h.elim) (fun r u t H1 locs1 ht hvm hp hB _ _ hS1 => by
    subst hp
    have e1 : H1 = H := ht.symm.trans hB
    subst e1
    exact kk locs1 hS1)
theorem x_JS (C : CallFix p m c cc nL s args Ts own) (hJ : Sf S NF s H) (hS : va_S A0 H0 H locs) (hM : Met l y ws rm (va_Pc As (PJ S H)) (va_Qi (fun r (_ : Unit) => r = rv) (fun _ t => t.heap = H) NF) 0 0 NF) (cw : CallB R s args own index y bytes maxL ret ws rm 0 0 n ∧ (Cond.static y).before args s = true) (hn : As.length = n) (hsize : ls.size = nL) (hst : st = As.reverse ++ rest) (hW : (rest.map fun v => v.category).sum ≤ 8) (hd : decode cc pc = .ok (.invokestatic index, 3)) (hf : cells + 0 ≤ R.cells ∧ slots + 0 ≤ R.slots)
    (kk : ∀ locs1 : List Loc, va_S A0 H0 H locs1 → W p l e R s m args below meth c H locs1 cells slots Q (F0 m (pc + 3) ls (.int rv :: rest))) : W p l e R s m args below meth c H locs cells slots Q (F0 m pc ls st) :=
  va_calli (va_runS C hM cw ⟨pj_blind, fun U hU hW => ⟨rfl, hU, Sf.moved hW.alike hJ⟩⟩ rfl hn hsize hst (lv_room hW) hd hf) hS (fun _ _ h => h.elim) (fun _ h => h.elim) (fun r u t H1 locs1 ht hvm hp hB _ _ hS1 => by
    subst hp
    have e1 : H1 = H := ht.symm.trans hB
    subst e1
    exact kk locs1 hS1)
theorem x_JSv (C : CallFix p m c cc nL s args Ts own) (hJ : Sf S NF s H) (hS : va_S A0 H0 H locs) (hM : Met l y ws rm (va_Pc As (PJ S H)) (va_Qv (fun (_ : Unit) => True) (fun _ t => t.heap = H) NF) 0 0 NF) (cw : CallB R s args own index y bytes maxL ret ws rm 0 0 n ∧ (Cond.static y).before args s = true) (hn : As.length = n) (hsize : ls.size = nL) (hst : st = As.reverse ++ rest) (hW : (rest.map fun v => v.category).sum ≤ 8) (hd : decode cc pc = .ok (.invokestatic index, 3)) (hf : cells + 0 ≤ R.cells ∧ slots + 0 ≤ R.slots)
    (kk : ∀ locs1 : List Loc, va_S A0 H0 H locs1 → W p l e R s m args below meth c H locs1 cells slots Q (F0 m (pc + 3) ls rest)) : W p l e R s m args below meth c H locs cells slots Q (F0 m pc ls st) :=
  va_callv (va_runS C hM cw ⟨pj_blind, fun U hU hW => ⟨rfl, hU, Sf.moved hW.alike hJ⟩⟩ rfl hn hsize hst (lv_room hW) hd hf) hS (fun _ _ h => h.elim) (fun _ h => h.elim) (fun u t H1 locs1 ht hvm hp hB _ _ hS1 => by
    have e1 : H1 = H := ht.symm.trans hB
    subst e1
    exact kk locs1 hS1)
theorem x_PSl (C : CallFix p m c cc nL s args Ts own) (hS : va_S A0 H0 H locs) (hM : Met l y ws rm (va_Pc As (P0 H)) (va_Ql (fun r (_ : Unit) => r = rl) (fun _ t => t.heap = H) NF) 0 0 NF) (cw : CallB R s args own index y bytes maxL ret ws rm 0 0 n ∧ (Cond.static y).before args s = true) (hn : As.length = n) (hsize : ls.size = nL) (hst : st = As.reverse ++ rest) (hW : (rest.map fun v => v.category).sum ≤ 8) (hd : decode cc pc = .ok (.invokestatic index, 3)) (hf : cells + 0 ≤ R.cells ∧ slots + 0 ≤ R.slots)
    (kk : ∀ locs1 : List Loc, va_S A0 H0 H locs1 → W p l e R s m args below meth c H locs1 cells slots Q (F0 m (pc + 3) ls (.long rl :: rest))) : W p l e R s m args below meth c H locs cells slots Q (F0 m pc ls st) :=
  va_calll (va_runS C hM cw ⟨p0_blind, fun U hU hW => ⟨rfl, hU⟩⟩ rfl hn hsize hst (lv_room hW) hd hf) hS (fun _ _ h => h.elim) (fun _ h => h.elim) (fun r u t H1 locs1 ht hvm hp hB _ _ hS1 => by
    subst hp
    have e1 : H1 = H := ht.symm.trans hB
    subst e1
    exact kk locs1 hS1)
end JROWS
theorem lw_113 : Cond.initialized RJ0 ∈ LW := inLW 113 (by decide +kernel) (by decide +kernel)
theorem lw_114 : Cond.initialized RJ1 ∈ LW := inLW 114 (by decide +kernel) (by decide +kernel)
theorem lw_115 : Cond.initialized RJ3 ∈ LW := inLW 115 (by decide +kernel) (by decide +kernel)
theorem lw_272 : Cond.methodLink RJ0 335 yJ0_coder_7d493 ∈ LW := inLW 272 (by decide +kernel) (by decide +kernel)
theorem lw_273 : Cond.instanceMethod yJ0_coder_7d493 ∈ LW := inLW 273 (by decide +kernel) (by decide +kernel)
theorem lw_274 : Cond.selects RJ0 yJ0_coder_7d493 yJ0_coder_7d493 ∈ LW := inLW 274 (by decide +kernel) (by decide +kernel)
theorem lw_275 : Cond.code yJ0_coder_7d493 cJ0_coder_7d493 1 (some .byte) ∈ LW := inLW 275 (by decide +kernel) (by decide +kernel)
theorem lw_276 : Cond.fieldLink RJ0 38 "java/lang/String" "COMPACT_STRINGS" "Z" ∈ LW := inLW 276 (by decide +kernel) (by decide +kernel)
theorem lw_282 : Cond.methodLink RJ0 492 yJ0_isLatin1_aae02 ∈ LW := inLW 282 (by decide +kernel) (by decide +kernel)
theorem lw_283 : Cond.instanceMethod yJ0_isLatin1_aae02 ∈ LW := inLW 283 (by decide +kernel) (by decide +kernel)
theorem lw_284 : Cond.selects RJ0 yJ0_isLatin1_aae02 yJ0_isLatin1_aae02 ∈ LW := inLW 284 (by decide +kernel) (by decide +kernel)
theorem lw_285 : Cond.code yJ0_isLatin1_aae02 cJ0_isLatin1_aae02 1 (some .boolean) ∈ LW := inLW 285 (by decide +kernel) (by decide +kernel)
theorem lw_286 : Cond.methodLink RJ0 495 yJ1_charAt_3b067 ∈ LW := inLW 286 (by decide +kernel) (by decide +kernel)
theorem lw_287 : Cond.static yJ1_charAt_3b067 ∈ LW := inLW 287 (by decide +kernel) (by decide +kernel)
theorem lw_288 : Cond.code yJ1_charAt_3b067 cJ1_charAt_3b067 2 (some .char) ∈ LW := inLW 288 (by decide +kernel) (by decide +kernel)
theorem lw_289 : Cond.methodLink RJ1 9 yJ0_checkIndex_df160 ∈ LW := inLW 289 (by decide +kernel) (by decide +kernel)
theorem lw_290 : Cond.static yJ0_checkIndex_df160 ∈ LW := inLW 290 (by decide +kernel) (by decide +kernel)
theorem lw_291 : Cond.code yJ0_checkIndex_df160 cJ0_checkIndex_df160 2 none ∈ LW := inLW 291 (by decide +kernel) (by decide +kernel)
theorem lw_292 : Cond.fieldLink RJ0 1053 "jdk/internal/util/Preconditions" "SIOOBE_FORMATTER" "Ljava/util/function/BiFunction;" ∈ LW := inLW 292 (by decide +kernel) (by decide +kernel)
theorem lw_294 : Cond.methodLink RJ0 1059 yJ3_checkIndex_8e157 ∈ LW := inLW 294 (by decide +kernel) (by decide +kernel)
theorem lw_295 : Cond.static yJ3_checkIndex_8e157 ∈ LW := inLW 295 (by decide +kernel) (by decide +kernel)
theorem lw_296 : Cond.code yJ3_checkIndex_8e157 cJ3_checkIndex_8e157 3 (some .int) ∈ LW := inLW 296 (by decide +kernel) (by decide +kernel)
theorem lw_2153 : Cond.fieldLink RJ0 9 "java/lang/String" "value" "[B" ∈ LW := inLW 2153 (by decide +kernel) (by decide +kernel)
theorem lw_2154 : Cond.fieldLink RJ0 15 "java/lang/String" "coder" "B" ∈ LW := inLW 2154 (by decide +kernel) (by decide +kernel)
theorem dJ0_length_8abf5_0 : decode cJ0_length_8abf5 0 = .ok (.aload_n 0, 1) := by decide +kernel
theorem dJ0_length_8abf5_1 : decode cJ0_length_8abf5 1 = .ok (.getfield 9, 3) := by decide +kernel
theorem dJ0_length_8abf5_4 : decode cJ0_length_8abf5 4 = .ok (.arraylength, 1) := by decide +kernel
theorem dJ0_length_8abf5_5 : decode cJ0_length_8abf5 5 = .ok (.aload_n 0, 1) := by decide +kernel
theorem dJ0_length_8abf5_6 : decode cJ0_length_8abf5 6 = .ok (.invokevirtual 335, 3) := by decide +kernel
theorem dJ0_length_8abf5_9 : decode cJ0_length_8abf5 9 = .ok (.ishr, 1) := by decide +kernel
theorem dJ0_length_8abf5_10 : decode cJ0_length_8abf5 10 = .ok (.ireturn, 1) := by decide +kernel
theorem dJ0_coder_7d493_0 : decode cJ0_coder_7d493 0 = .ok (.getstatic 38, 3) := by decide +kernel
theorem dJ0_coder_7d493_3 : decode cJ0_coder_7d493 3 = .ok (.ifCond .eq 10, 3) := by decide +kernel
theorem dJ0_coder_7d493_6 : decode cJ0_coder_7d493 6 = .ok (.aload_n 0, 1) := by decide +kernel
theorem dJ0_coder_7d493_7 : decode cJ0_coder_7d493 7 = .ok (.getfield 15, 3) := by decide +kernel
theorem dJ0_coder_7d493_10 : decode cJ0_coder_7d493 10 = .ok (.goto 4, 3) := by decide +kernel
theorem dJ0_coder_7d493_13 : decode cJ0_coder_7d493 13 = .ok (.iconst 1, 1) := by decide +kernel
theorem dJ0_coder_7d493_14 : decode cJ0_coder_7d493 14 = .ok (.ireturn, 1) := by decide +kernel
theorem dJ0_charAt_5068e_0 : decode cJ0_charAt_5068e 0 = .ok (.aload_n 0, 1) := by decide +kernel
theorem dJ0_charAt_5068e_1 : decode cJ0_charAt_5068e 1 = .ok (.invokevirtual 492, 3) := by decide +kernel
theorem dJ0_charAt_5068e_4 : decode cJ0_charAt_5068e 4 = .ok (.ifCond .eq 12, 3) := by decide +kernel
theorem dJ0_charAt_5068e_7 : decode cJ0_charAt_5068e 7 = .ok (.aload_n 0, 1) := by decide +kernel
theorem dJ0_charAt_5068e_8 : decode cJ0_charAt_5068e 8 = .ok (.getfield 9, 3) := by decide +kernel
theorem dJ0_charAt_5068e_11 : decode cJ0_charAt_5068e 11 = .ok (.iload_n 1, 1) := by decide +kernel
theorem dJ0_charAt_5068e_12 : decode cJ0_charAt_5068e 12 = .ok (.invokestatic 495, 3) := by decide +kernel
theorem dJ0_charAt_5068e_15 : decode cJ0_charAt_5068e 15 = .ok (.ireturn, 1) := by decide +kernel
theorem dJ0_charAt_5068e_16 : decode cJ0_charAt_5068e 16 = .ok (.aload_n 0, 1) := by decide +kernel
theorem dJ0_charAt_5068e_17 : decode cJ0_charAt_5068e 17 = .ok (.getfield 9, 3) := by decide +kernel
theorem dJ0_charAt_5068e_20 : decode cJ0_charAt_5068e 20 = .ok (.iload_n 1, 1) := by decide +kernel
theorem dJ0_charAt_5068e_21 : decode cJ0_charAt_5068e 21 = .ok (.invokestatic 498, 3) := by decide +kernel
theorem dJ0_charAt_5068e_24 : decode cJ0_charAt_5068e 24 = .ok (.ireturn, 1) := by decide +kernel
theorem dJ0_isLatin1_aae02_0 : decode cJ0_isLatin1_aae02 0 = .ok (.getstatic 38, 3) := by decide +kernel
theorem dJ0_isLatin1_aae02_3 : decode cJ0_isLatin1_aae02 3 = .ok (.ifCond .eq 14, 3) := by decide +kernel
theorem dJ0_isLatin1_aae02_6 : decode cJ0_isLatin1_aae02 6 = .ok (.aload_n 0, 1) := by decide +kernel
theorem dJ0_isLatin1_aae02_7 : decode cJ0_isLatin1_aae02 7 = .ok (.getfield 15, 3) := by decide +kernel
theorem dJ0_isLatin1_aae02_10 : decode cJ0_isLatin1_aae02 10 = .ok (.ifCond .ne 7, 3) := by decide +kernel
theorem dJ0_isLatin1_aae02_13 : decode cJ0_isLatin1_aae02 13 = .ok (.iconst 1, 1) := by decide +kernel
theorem dJ0_isLatin1_aae02_14 : decode cJ0_isLatin1_aae02 14 = .ok (.goto 4, 3) := by decide +kernel
theorem dJ0_isLatin1_aae02_17 : decode cJ0_isLatin1_aae02 17 = .ok (.iconst 0, 1) := by decide +kernel
theorem dJ0_isLatin1_aae02_18 : decode cJ0_isLatin1_aae02 18 = .ok (.ireturn, 1) := by decide +kernel
theorem dJ0_checkIndex_df160_0 : decode cJ0_checkIndex_df160 0 = .ok (.iload_n 0, 1) := by decide +kernel
theorem dJ0_checkIndex_df160_1 : decode cJ0_checkIndex_df160 1 = .ok (.iload_n 1, 1) := by decide +kernel
theorem dJ0_checkIndex_df160_2 : decode cJ0_checkIndex_df160 2 = .ok (.getstatic 1053, 3) := by decide +kernel
theorem dJ0_checkIndex_df160_5 : decode cJ0_checkIndex_df160 5 = .ok (.invokestatic 1059, 3) := by decide +kernel
theorem dJ0_checkIndex_df160_8 : decode cJ0_checkIndex_df160 8 = .ok (.pop, 1) := by decide +kernel
theorem dJ0_checkIndex_df160_9 : decode cJ0_checkIndex_df160 9 = .ok (.return_, 1) := by decide +kernel
theorem dJ1_charAt_3b067_0 : decode cJ1_charAt_3b067 0 = .ok (.iload_n 1, 1) := by decide +kernel
theorem dJ1_charAt_3b067_1 : decode cJ1_charAt_3b067 1 = .ok (.aload_n 0, 1) := by decide +kernel
theorem dJ1_charAt_3b067_2 : decode cJ1_charAt_3b067 2 = .ok (.arraylength, 1) := by decide +kernel
theorem dJ1_charAt_3b067_3 : decode cJ1_charAt_3b067 3 = .ok (.invokestatic 9, 3) := by decide +kernel
theorem dJ1_charAt_3b067_6 : decode cJ1_charAt_3b067 6 = .ok (.aload_n 0, 1) := by decide +kernel
theorem dJ1_charAt_3b067_7 : decode cJ1_charAt_3b067 7 = .ok (.iload_n 1, 1) := by decide +kernel
theorem dJ1_charAt_3b067_8 : decode cJ1_charAt_3b067 8 = .ok (.baload, 1) := by decide +kernel
theorem dJ1_charAt_3b067_9 : decode cJ1_charAt_3b067 9 = .ok (.sipush 255, 3) := by decide +kernel
theorem dJ1_charAt_3b067_12 : decode cJ1_charAt_3b067 12 = .ok (.iand, 1) := by decide +kernel
theorem dJ1_charAt_3b067_13 : decode cJ1_charAt_3b067 13 = .ok (.i2c, 1) := by decide +kernel
theorem dJ1_charAt_3b067_14 : decode cJ1_charAt_3b067 14 = .ok (.ireturn, 1) := by decide +kernel
theorem dJ3_checkIndex_8e157_0 : decode cJ3_checkIndex_8e157 0 = .ok (.iload_n 0, 1) := by decide +kernel
theorem dJ3_checkIndex_8e157_1 : decode cJ3_checkIndex_8e157 1 = .ok (.ifCond .lt 8, 3) := by decide +kernel
theorem dJ3_checkIndex_8e157_4 : decode cJ3_checkIndex_8e157 4 = .ok (.iload_n 0, 1) := by decide +kernel
theorem dJ3_checkIndex_8e157_5 : decode cJ3_checkIndex_8e157 5 = .ok (.iload_n 1, 1) := by decide +kernel
theorem dJ3_checkIndex_8e157_6 : decode cJ3_checkIndex_8e157 6 = .ok (.if_icmp .lt 10, 3) := by decide +kernel
theorem dJ3_checkIndex_8e157_9 : decode cJ3_checkIndex_8e157 9 = .ok (.aload_n 2, 1) := by decide +kernel
theorem dJ3_checkIndex_8e157_10 : decode cJ3_checkIndex_8e157 10 = .ok (.iload_n 0, 1) := by decide +kernel
theorem dJ3_checkIndex_8e157_11 : decode cJ3_checkIndex_8e157 11 = .ok (.iload_n 1, 1) := by decide +kernel
theorem dJ3_checkIndex_8e157_12 : decode cJ3_checkIndex_8e157 12 = .ok (.invokestatic 95, 3) := by decide +kernel
theorem dJ3_checkIndex_8e157_15 : decode cJ3_checkIndex_8e157 15 = .ok (.athrow, 1) := by decide +kernel
theorem dJ3_checkIndex_8e157_16 : decode cJ3_checkIndex_8e157 16 = .ok (.iload_n 0, 1) := by decide +kernel
theorem dJ3_checkIndex_8e157_17 : decode cJ3_checkIndex_8e157 17 = .ok (.ireturn, 1) := by decide +kernel
set_option maxHeartbeats 4000000 in
set_option maxRecDepth 100000 in
theorem mJ_pren {l : Launch} {S : JSt} {Hx : Heap} {i n : Int32} (h0 : ¬ i < 0) (h1 : i < n) : Met l yJ3_checkIndex_8e157 (wsU yJ3_checkIndex_8e157 cJ3_checkIndex_8e157 3 (some .int)) (rmd 1) (va_Pc [.int i, .int n, .null] (PJ S Hx)) (va_Qi (fun r (_ : Unit) => r = i) (fun _ t => t.heap = Hx) NF) 0 0 NF := by
  refine Met.ofW (cc := cJ3_checkIndex_8e157) (maxL := 3) (ret := (some .int)) (by decide) rfl ?_
  intro p e s m args below meth c s₁ B hml hv
  obtain ⟨rfl, rfl, hJ⟩ := hv
  have hx := B.exec
  have hb := B.bytes
  have hown := findClass_of_methodNamed B.named
  have hts := atoms_spec (ws := (wsU yJ3_checkIndex_8e157 cJ3_checkIndex_8e157 3 (some .int))) B.pre
  have hr := B.returns
  have hlocks := B.notSynchronized
  have hS : va_S NF s.heap s.heap [] := va_S.rf
  have hl := lv_entry [.int i, .int n, .null] (n := 3) (Nat.le_of_ble_eq_true rfl)
  rw [lg_entry_eq]
  generalize (lg_sl [.int i, .int n, .null] ++ List.replicate (3 - (lg_sl [.int i, .int n, .null]).length) Slot.unset).toArray = ls at hl ⊢
  have hl : lv_has ls 3 [(0, .int i), (1, .int n), (2, .null)] := hl
  refine lv_iload_n hx hb dJ3_checkIndex_8e157_0 rfl (lv_at hl 0 rfl) ?_
  refine lv_if_lt (tgt := 9) hx hb dJ3_checkIndex_8e157_1 (by decide) (fun q => absurd q h0) (fun _ => ?_)
  refine lv_iload_n hx hb dJ3_checkIndex_8e157_4 rfl (lv_at hl 0 rfl) ?_
  refine lv_iload_n hx hb dJ3_checkIndex_8e157_5 rfl (lv_at hl 1 rfl) ?_
  refine lv_icmp_lt (tgt := 16) hx hb dJ3_checkIndex_8e157_6 (by decide) (fun _ => ?_) (fun q => absurd h1 q)
  refine lv_iload_n hx hb dJ3_checkIndex_8e157_16 rfl (lv_at hl 0 rfl) ?_
  exact W.iret hx hb hr (fun t ht hW => ⟨⟨i, (), rfl, rfl, ht⟩, hS.F ht⟩) hS.2.2 dJ3_checkIndex_8e157_17 hlocks
set_option maxHeartbeats 4000000 in
set_option maxRecDepth 100000 in
theorem mJ_prer {l : Launch} {S : JSt} {Hx : Heap} {a : Nat} {i n : Int32} (h0 : ¬ i < 0) (h1 : i < n) : Met l yJ3_checkIndex_8e157 (wsU yJ3_checkIndex_8e157 cJ3_checkIndex_8e157 3 (some .int)) (rmd 1) (va_Pc [.int i, .int n, .ref a] (PJ S Hx)) (va_Qi (fun r (_ : Unit) => r = i) (fun _ t => t.heap = Hx) NF) 0 0 NF := by
  refine Met.ofW (cc := cJ3_checkIndex_8e157) (maxL := 3) (ret := (some .int)) (by decide) rfl ?_
  intro p e s m args below meth c s₁ B hml hv
  obtain ⟨rfl, rfl, hJ⟩ := hv
  have hx := B.exec
  have hb := B.bytes
  have hown := findClass_of_methodNamed B.named
  have hts := atoms_spec (ws := (wsU yJ3_checkIndex_8e157 cJ3_checkIndex_8e157 3 (some .int))) B.pre
  have hr := B.returns
  have hlocks := B.notSynchronized
  have hS : va_S NF s.heap s.heap [] := va_S.rf
  have hl := lv_entry [.int i, .int n, .ref a] (n := 3) (Nat.le_of_ble_eq_true rfl)
  rw [lg_entry_eq]
  generalize (lg_sl [.int i, .int n, .ref a] ++ List.replicate (3 - (lg_sl [.int i, .int n, .ref a]).length) Slot.unset).toArray = ls at hl ⊢
  have hl : lv_has ls 3 [(0, .int i), (1, .int n), (2, .ref a)] := hl
  refine lv_iload_n hx hb dJ3_checkIndex_8e157_0 rfl (lv_at hl 0 rfl) ?_
  refine lv_if_lt (tgt := 9) hx hb dJ3_checkIndex_8e157_1 (by decide) (fun q => absurd q h0) (fun _ => ?_)
  refine lv_iload_n hx hb dJ3_checkIndex_8e157_4 rfl (lv_at hl 0 rfl) ?_
  refine lv_iload_n hx hb dJ3_checkIndex_8e157_5 rfl (lv_at hl 1 rfl) ?_
  refine lv_icmp_lt (tgt := 16) hx hb dJ3_checkIndex_8e157_6 (by decide) (fun _ => ?_) (fun q => absurd h1 q)
  refine lv_iload_n hx hb dJ3_checkIndex_8e157_16 rfl (lv_at hl 0 rfl) ?_
  exact W.iret hx hb hr (fun t ht hW => ⟨⟨i, (), rfl, rfl, ht⟩, hS.F ht⟩) hS.2.2 dJ3_checkIndex_8e157_17 hlocks
set_option maxHeartbeats 4000000 in
set_option maxRecDepth 100000 in
theorem mJ_chk {l : Launch} {S : JSt} {Hx : Heap} {i n : Int32} (h0 : ¬ i < 0) (h1 : i < n) : Met l yJ0_checkIndex_df160 (wsU yJ0_checkIndex_df160 cJ0_checkIndex_df160 2 none) (rmd 2) (va_Pc [.int i, .int n] (PJ S Hx)) (va_Qv (fun (_ : Unit) => True) (fun _ t => t.heap = Hx) NF) 0 0 NF := by
  refine Met.ofW (cc := cJ0_checkIndex_df160) (maxL := 2) (ret := none) (by decide) rfl ?_
  intro p e s m args below meth c s₁ B hml hv
  obtain ⟨rfl, rfl, hJ⟩ := hv
  have hx := B.exec
  have hb := B.bytes
  have hown := findClass_of_methodNamed B.named
  have hts := atoms_spec (ws := (wsU yJ0_checkIndex_df160 cJ0_checkIndex_df160 2 none)) B.pre
  have hr := B.returns
  have hlocks := B.notSynchronized
  have hS : va_S NF s.heap s.heap [] := va_S.rf
  have hl := lv_entry [.int i, .int n] (n := 2) (Nat.le_of_ble_eq_true rfl)
  rw [lg_entry_eq]
  generalize (lg_sl [.int i, .int n] ++ List.replicate (2 - (lg_sl [.int i, .int n]).length) Slot.unset).toArray = ls at hl ⊢
  have hl : lv_has ls 2 [(0, .int i), (1, .int n)] := hl
  obtain ⟨S1, S2, S3⟩ := S
  cases S3 with
  | none =>
    have hJ : Sf (S1, S2, none) NF s s.heap := hJ
    refine lv_iload_n hx hb dJ0_checkIndex_df160_0 rfl (lv_at hl 0 rfl) ?_
    refine lv_iload_n hx hb dJ0_checkIndex_df160_1 rfl (lv_at hl 1 rfl) ?_
    refine va_gets hx hb hJ.2.2 hS hown (hts _ (List.mem_cons_of_mem _ lw_292)) (fun _ h => h) dJ0_checkIndex_df160_2 ?_
    refine x_JS (As := [.int i, .int n, .null]) (rest := []) ⟨hx, hb, hml, hown, hts⟩ hJ hS (mJ_pren h0 h1) (va_cwS 3 hts (gS lw_294 lw_295 lw_115 lw_296) rfl rfl rfl (by decide +kernel) ⟨Nat.le_of_ble_eq_true rfl, Nat.le_of_ble_eq_true rfl⟩) rfl hl.1 rfl (Nat.le_of_ble_eq_true rfl) dJ0_checkIndex_df160_5 ⟨Nat.le_refl _, Nat.le_refl _⟩ (fun locs hS => ?_)
    refine lv_pop hx hb dJ0_checkIndex_df160_8 rfl ?_
    exact W.vret hx hb hr (fun t ht hW => ⟨⟨(), rfl, trivial, ht⟩, hS.F ht⟩) hS.2.2 dJ0_checkIndex_df160_9 hlocks
  | some a =>
    have hJ : Sf (S1, S2, some a) NF s s.heap := hJ
    refine lv_iload_n hx hb dJ0_checkIndex_df160_0 rfl (lv_at hl 0 rfl) ?_
    refine lv_iload_n hx hb dJ0_checkIndex_df160_1 rfl (lv_at hl 1 rfl) ?_
    refine va_gets hx hb hJ.2.2 hS hown (hts _ (List.mem_cons_of_mem _ lw_292)) (fun _ h => h) dJ0_checkIndex_df160_2 ?_
    refine x_JS (As := [.int i, .int n, .ref a]) (rest := []) ⟨hx, hb, hml, hown, hts⟩ hJ hS (mJ_prer h0 h1) (va_cwS 3 hts (gS lw_294 lw_295 lw_115 lw_296) rfl rfl rfl (by decide +kernel) ⟨Nat.le_of_ble_eq_true rfl, Nat.le_of_ble_eq_true rfl⟩) rfl hl.1 rfl (Nat.le_of_ble_eq_true rfl) dJ0_checkIndex_df160_5 ⟨Nat.le_refl _, Nat.le_refl _⟩ (fun locs hS => ?_)
    refine lv_pop hx hb dJ0_checkIndex_df160_8 rfl ?_
    exact W.vret hx hb hr (fun t ht hW => ⟨⟨(), rfl, trivial, ht⟩, hS.F ht⟩) hS.2.2 dJ0_checkIndex_df160_9 hlocks
set_option maxHeartbeats 4000000 in
set_option maxRecDepth 100000 in
theorem mJ_cod {l : Launch} {S : JSt} {Hx : Heap}  : Met l yJ0_coder_7d493 (wsU yJ0_coder_7d493 cJ0_coder_7d493 1 (some .byte)) (rmd 1) (va_Pc [.ref S.1] (PJ S Hx)) (va_Qi (fun r (_ : Unit) => r = 0) (fun _ t => t.heap = Hx) NF) 0 0 NF := by
  refine Met.ofW (cc := cJ0_coder_7d493) (maxL := 1) (ret := (some .byte)) (by decide) rfl ?_
  intro p e s m args below meth c s₁ B hml hv
  obtain ⟨rfl, rfl, hJ⟩ := hv
  have hx := B.exec
  have hb := B.bytes
  have hown := findClass_of_methodNamed B.named
  have hts := atoms_spec (ws := (wsU yJ0_coder_7d493 cJ0_coder_7d493 1 (some .byte))) B.pre
  have hr := B.returns
  have hlocks := B.notSynchronized
  have hS : va_S NF s.heap s.heap [] := va_S.rf
  have hl := lv_entry [.ref S.1] (n := 1) (Nat.le_of_ble_eq_true rfl)
  rw [lg_entry_eq]
  generalize (lg_sl [.ref S.1] ++ List.replicate (1 - (lg_sl [.ref S.1]).length) Slot.unset).toArray = ls at hl ⊢
  have hl : lv_has ls 1 [(0, .ref S.1)] := hl
  refine va_gets hx hb hJ.2.1 hS hown (hts _ (List.mem_cons_of_mem _ lw_276)) (fun _ h => h) dJ0_coder_7d493_0 ?_
  refine lv_if_eq (tgt := 13) hx hb dJ0_coder_7d493_3 (by decide) (fun q => absurd q (by decide)) (fun _ => ?_)
  refine lv_aload_n hx hb dJ0_coder_7d493_6 rfl (lv_at hl 0 rfl) ?_
  refine vk_getf hx hb (hJ.1.1 0 Nat.zero_lt_one).2.1 hS hown (hts _ (List.mem_cons_of_mem _ lw_2154)) (fun _ h => h) dJ0_coder_7d493_7 ?_
  refine lv_goto (tgt := 14) hx hb dJ0_coder_7d493_10 (by decide) ?_
  exact W.zret (v := 0) hx hb hr rfl (fun t ht hW => ⟨⟨0, (), rfl, rfl, ht⟩, hS.F ht⟩) hS.2.2 dJ0_coder_7d493_14 hlocks
set_option maxHeartbeats 4000000 in
set_option maxRecDepth 100000 in
theorem mJ_lat {l : Launch} {S : JSt} {Hx : Heap}  : Met l yJ0_isLatin1_aae02 (wsU yJ0_isLatin1_aae02 cJ0_isLatin1_aae02 1 (some .boolean)) (rmd 1) (va_Pc [.ref S.1] (PJ S Hx)) (va_Qi (fun r (_ : Unit) => r = 1) (fun _ t => t.heap = Hx) NF) 0 0 NF := by
  refine Met.ofW (cc := cJ0_isLatin1_aae02) (maxL := 1) (ret := (some .boolean)) (by decide) rfl ?_
  intro p e s m args below meth c s₁ B hml hv
  obtain ⟨rfl, rfl, hJ⟩ := hv
  have hx := B.exec
  have hb := B.bytes
  have hown := findClass_of_methodNamed B.named
  have hts := atoms_spec (ws := (wsU yJ0_isLatin1_aae02 cJ0_isLatin1_aae02 1 (some .boolean))) B.pre
  have hr := B.returns
  have hlocks := B.notSynchronized
  have hS : va_S NF s.heap s.heap [] := va_S.rf
  have hl := lv_entry [.ref S.1] (n := 1) (Nat.le_of_ble_eq_true rfl)
  rw [lg_entry_eq]
  generalize (lg_sl [.ref S.1] ++ List.replicate (1 - (lg_sl [.ref S.1]).length) Slot.unset).toArray = ls at hl ⊢
  have hl : lv_has ls 1 [(0, .ref S.1)] := hl
  refine va_gets hx hb hJ.2.1 hS hown (hts _ (List.mem_cons_of_mem _ lw_276)) (fun _ h => h) dJ0_isLatin1_aae02_0 ?_
  refine lv_if_eq (tgt := 17) hx hb dJ0_isLatin1_aae02_3 (by decide) (fun q => absurd q (by decide)) (fun _ => ?_)
  refine lv_aload_n hx hb dJ0_isLatin1_aae02_6 rfl (lv_at hl 0 rfl) ?_
  refine vk_getf hx hb (hJ.1.1 0 Nat.zero_lt_one).2.1 hS hown (hts _ (List.mem_cons_of_mem _ lw_2154)) (fun _ h => h) dJ0_isLatin1_aae02_7 ?_
  refine lv_if_ne (tgt := 17) hx hb dJ0_isLatin1_aae02_10 (by decide) (fun q => absurd rfl q) (fun _ => ?_)
  refine lv_iconst (v := 1) hx hb dJ0_isLatin1_aae02_13 (by decide) ?_
  refine lv_goto (tgt := 18) hx hb dJ0_isLatin1_aae02_14 (by decide) ?_
  exact W.zret (v := 1) hx hb hr rfl (fun t ht hW => ⟨⟨1, (), rfl, rfl, ht⟩, hS.F ht⟩) hS.2.2 dJ0_isLatin1_aae02_18 hlocks
set_option maxHeartbeats 4000000 in
set_option maxRecDepth 100000 in
theorem mJ_len {l : Launch} {S : JSt} {Hx : Heap}  : Met l yJ0_length_8abf5 (wsU yJ0_length_8abf5 cJ0_length_8abf5 1 (some .int)) (rmd 2) (va_Pc [.ref S.1] (PJ S Hx)) (va_Qi (fun r (_ : Unit) => r = 99) (fun _ t => t.heap = Hx) NF) 0 0 NF := by
  refine Met.ofW (cc := cJ0_length_8abf5) (maxL := 1) (ret := (some .int)) (by decide) rfl ?_
  intro p e s m args below meth c s₁ B hml hv
  obtain ⟨rfl, rfl, hJ⟩ := hv
  have hx := B.exec
  have hb := B.bytes
  have hown := findClass_of_methodNamed B.named
  have hts := atoms_spec (ws := (wsU yJ0_length_8abf5 cJ0_length_8abf5 1 (some .int))) B.pre
  have hr := B.returns
  have hlocks := B.notSynchronized
  have hS : va_S NF s.heap s.heap [] := va_S.rf
  have hl := lv_entry [.ref S.1] (n := 1) (Nat.le_of_ble_eq_true rfl)
  rw [lg_entry_eq]
  generalize (lg_sl [.ref S.1] ++ List.replicate (1 - (lg_sl [.ref S.1]).length) Slot.unset).toArray = ls at hl ⊢
  have hl : lv_has ls 1 [(0, .ref S.1)] := hl
  refine lv_aload_n hx hb dJ0_length_8abf5_0 rfl (lv_at hl 0 rfl) ?_
  refine vk_getf hx hb (hJ.1.1 0 Nat.zero_lt_one).2.2.1 hS hown (hts _ (List.mem_cons_of_mem _ lw_2153)) (fun _ h => h) dJ0_length_8abf5_1 ?_
  refine va_tlen (v := 99) hx hb (hJ.1.1 0 Nat.zero_lt_one).2.2.2 hS rfl dJ0_length_8abf5_4 ?_
  refine lv_aload_n hx hb dJ0_length_8abf5_5 rfl (lv_at hl 0 rfl) ?_
  refine x_JV (As := []) (rest := [.int 99]) ⟨hx, hb, hml, hown, hts⟩ hJ hS mJ_cod (cwV 0 hts (gV lw_272 lw_273 lw_274 lw_113 lw_275) rfl rfl rfl (by decide +kernel) ⟨Nat.le_of_ble_eq_true rfl, Nat.le_of_ble_eq_true rfl⟩) rfl hl.1 rfl (Nat.le_of_ble_eq_true rfl) dJ0_length_8abf5_6 ⟨Nat.le_refl _, Nat.le_refl _⟩ (fun locs hS => ?_)
  refine lv_ishr hx hb dJ0_length_8abf5_9 ?_
  exact W.iret hx hb hr (fun t ht hW => ⟨⟨_, (), rfl, by decide, ht⟩, hS.F ht⟩) hS.2.2 dJ0_length_8abf5_10 hlocks
theorem in99 {i : Int32} (h0 : ¬ i < 0) (h1 : i < 99) : vp_in i 99 := by
  have a0 : ¬ i.toInt < 0 := fun q => h0 (Int32.lt_iff_toInt_lt.mpr q)
  have a1 : i.toInt < 99 := Int32.lt_iff_toInt_lt.mp h1
  have a2 : i.toNatClampNeg = i.toInt.toNat := rfl
  intro q
  rcases q with q | q
  · exact h0 q
  · rw [a2] at q; omega
set_option maxHeartbeats 4000000 in
set_option maxRecDepth 100000 in
theorem mJ_c1 {l : Launch} {S : JSt} {Hx : Heap} {i : Int32} (h0 : ¬ i < 0) (h1 : i < 99) : Met l yJ1_charAt_3b067 (wsU yJ1_charAt_3b067 cJ1_charAt_3b067 2 (some .char)) (rmd 3) (va_Pc [.ref S.2.1, .int i] (PJ S Hx)) (va_Qi (fun r (_ : Unit) => r = jch i) (fun _ t => t.heap = Hx) NF) 0 0 NF := by
  refine Met.ofW (cc := cJ1_charAt_3b067) (maxL := 2) (ret := (some .char)) (by decide) rfl ?_
  intro p e s m args below meth c s₁ B hml hv
  obtain ⟨rfl, rfl, hJ⟩ := hv
  have hx := B.exec
  have hb := B.bytes
  have hown := findClass_of_methodNamed B.named
  have hts := atoms_spec (ws := (wsU yJ1_charAt_3b067 cJ1_charAt_3b067 2 (some .char))) B.pre
  have hr := B.returns
  have hlocks := B.notSynchronized
  have hS : va_S NF s.heap s.heap [] := va_S.rf
  have hl := lv_entry [.ref S.2.1, .int i] (n := 2) (Nat.le_of_ble_eq_true rfl)
  rw [lg_entry_eq]
  generalize (lg_sl [.ref S.2.1, .int i] ++ List.replicate (2 - (lg_sl [.ref S.2.1, .int i]).length) Slot.unset).toArray = ls at hl ⊢
  have hl : lv_has ls 2 [(0, .ref S.2.1), (1, .int i)] := hl
  refine lv_iload_n hx hb dJ1_charAt_3b067_0 rfl (lv_at hl 1 rfl) ?_
  refine lv_aload_n hx hb dJ1_charAt_3b067_1 rfl (lv_at hl 0 rfl) ?_
  refine va_tlen (v := 99) hx hb (hJ.1.1 0 Nat.zero_lt_one).2.2.2 hS rfl dJ1_charAt_3b067_2 ?_
  refine x_JSv (As := [.int i, .int 99]) (rest := []) ⟨hx, hb, hml, hown, hts⟩ hJ hS (mJ_chk h0 h1) (va_cwS 2 hts (gS lw_289 lw_290 lw_113 lw_291) rfl rfl rfl (by decide +kernel) ⟨Nat.le_of_ble_eq_true rfl, Nat.le_of_ble_eq_true rfl⟩) rfl hl.1 rfl (Nat.le_of_ble_eq_true rfl) dJ1_charAt_3b067_3 ⟨Nat.le_refl _, Nat.le_refl _⟩ (fun locs hS => ?_)
  refine lv_aload_n hx hb dJ1_charAt_3b067_6 rfl (lv_at hl 0 rfl) ?_
  refine lv_iload_n hx hb dJ1_charAt_3b067_7 rfl (lv_at hl 1 rfl) ?_
  refine va_tb (v := .int (kB.getD i.toNatClampNeg 0)) hx hb (hJ.1.1 0 Nat.zero_lt_one).2.2.2 hS (in99 h0 h1) rfl dJ1_charAt_3b067_8 ?_
  refine lv_sipush (v := 255) hx hb dJ1_charAt_3b067_9 (by decide) ?_
  refine lv_iand hx hb dJ1_charAt_3b067_12 ?_
  refine lv_i2c hx hb dJ1_charAt_3b067_13 rfl ?_
  exact W.zret (v := jch i) hx hb hr (pk_nc _) (fun t ht hW => ⟨⟨jch i, (), rfl, rfl, ht⟩, hS.F ht⟩) hS.2.2 dJ1_charAt_3b067_14 hlocks
set_option maxHeartbeats 4000000 in
set_option maxRecDepth 100000 in
theorem mJ_chr {l : Launch} {S : JSt} {Hx : Heap} {i : Int32} (h0 : ¬ i < 0) (h1 : i < 99) : Met l yJ0_charAt_5068e (wsU yJ0_charAt_5068e cJ0_charAt_5068e 2 (some .char)) (rmd 4) (va_Pc [.ref S.1, .int i] (PJ S Hx)) (va_Qi (fun r (_ : Unit) => r = jch i) (fun _ t => t.heap = Hx) NF) 0 0 NF := by
  refine Met.ofW (cc := cJ0_charAt_5068e) (maxL := 2) (ret := (some .char)) (by decide) rfl ?_
  intro p e s m args below meth c s₁ B hml hv
  obtain ⟨rfl, rfl, hJ⟩ := hv
  have hx := B.exec
  have hb := B.bytes
  have hown := findClass_of_methodNamed B.named
  have hts := atoms_spec (ws := (wsU yJ0_charAt_5068e cJ0_charAt_5068e 2 (some .char))) B.pre
  have hr := B.returns
  have hlocks := B.notSynchronized
  have hS : va_S NF s.heap s.heap [] := va_S.rf
  have hl := lv_entry [.ref S.1, .int i] (n := 2) (Nat.le_of_ble_eq_true rfl)
  rw [lg_entry_eq]
  generalize (lg_sl [.ref S.1, .int i] ++ List.replicate (2 - (lg_sl [.ref S.1, .int i]).length) Slot.unset).toArray = ls at hl ⊢
  have hl : lv_has ls 2 [(0, .ref S.1), (1, .int i)] := hl
  refine lv_aload_n hx hb dJ0_charAt_5068e_0 rfl (lv_at hl 0 rfl) ?_
  refine x_JV (As := []) (rest := []) ⟨hx, hb, hml, hown, hts⟩ hJ hS mJ_lat (cwV 0 hts (gV lw_282 lw_283 lw_284 lw_113 lw_285) rfl rfl rfl (by decide +kernel) ⟨Nat.le_of_ble_eq_true rfl, Nat.le_of_ble_eq_true rfl⟩) rfl hl.1 rfl (Nat.le_of_ble_eq_true rfl) dJ0_charAt_5068e_1 ⟨Nat.le_refl _, Nat.le_refl _⟩ (fun locs hS => ?_)
  refine lv_if_eq (tgt := 16) hx hb dJ0_charAt_5068e_4 (by decide) (fun q => absurd q (by decide)) (fun _ => ?_)
  refine lv_aload_n hx hb dJ0_charAt_5068e_7 rfl (lv_at hl 0 rfl) ?_
  refine vk_getf hx hb (hJ.1.1 0 Nat.zero_lt_one).2.2.1 hS hown (hts _ (List.mem_cons_of_mem _ lw_2153)) (fun _ h => h) dJ0_charAt_5068e_8 ?_
  refine lv_iload_n hx hb dJ0_charAt_5068e_11 rfl (lv_at hl 1 rfl) ?_
  refine x_JS (As := [.ref S.2.1, .int i]) (rest := []) ⟨hx, hb, hml, hown, hts⟩ hJ hS (mJ_c1 h0 h1) (va_cwS 2 hts (gS lw_286 lw_287 lw_114 lw_288) rfl rfl rfl (by decide +kernel) ⟨Nat.le_of_ble_eq_true rfl, Nat.le_of_ble_eq_true rfl⟩) rfl hl.1 rfl (Nat.le_of_ble_eq_true rfl) dJ0_charAt_5068e_12 ⟨Nat.le_refl _, Nat.le_refl _⟩ (fun locs hS => ?_)
  exact W.zret (v := jch i) hx hb hr (pk_nc _) (fun t ht hW => ⟨⟨jch i, (), rfl, rfl, ht⟩, hS.F ht⟩) hS.2.2 dJ0_charAt_5068e_15 hlocks
def wLt (a : Int64) (c : Int32) : Int64 := (a * 32) + (Int32.toInt64 ((c - 97) + 1))
set_option maxHeartbeats 4000000 in
set_option maxRecDepth 100000 in
theorem mP_withLetter {l : Launch} {Hx : Heap} {v0 : Int64} {v2 : Int32} : Met l yX6_withLetter (wsU yX6_withLetter cX6_withLetter 3 (some .long)) (rmd 1) (va_Pc [.long v0, .int v2] (P0 Hx)) (va_Ql (fun r (_ : Unit) => r = wLt v0 v2) (fun _ t => t.heap = Hx) NF) 0 0 NF := by
  refine Met.ofW (cc := cX6_withLetter) (maxL := 3) (ret := (some .long)) (by decide) rfl ?_
  intro p e s m args below meth c s₁ B hml hv
  obtain ⟨rfl, rfl⟩ := hv
  have hx := B.exec
  have hb := B.bytes
  have hown := findClass_of_methodNamed B.named
  have hts := atoms_spec (ws := (wsU yX6_withLetter cX6_withLetter 3 (some .long))) B.pre
  have hr := B.returns
  have hlocks := B.notSynchronized
  have hS : va_S NF s.heap s.heap [] := va_S.rf
  have hl := lv_entry [.long v0, .int v2] (n := 3) (Nat.le_of_ble_eq_true rfl)
  rw [lg_entry_eq]
  generalize (lg_sl [.long v0, .int v2] ++ List.replicate (3 - (lg_sl [.long v0, .int v2]).length) Slot.unset).toArray = ls at hl ⊢
  have hl : lv_has ls 3 [(0, .long v0), (2, .int v2)] := hl
  refine lv_lload_n hx hb dX6_withLetter_0 rfl (lv_at hl 0 rfl) ?_
  refine lv_ldc2 (v := 32) hx hb hown (hts _ (List.mem_cons_of_mem _ lw_319)) dX6_withLetter_1 ?_
  refine lv_lmul hx hb dX6_withLetter_4 ?_
  refine lv_iload_n hx hb dX6_withLetter_5 rfl (lv_at hl 1 rfl) ?_
  refine lv_bipush (v := 97) hx hb dX6_withLetter_6 (by decide) ?_
  refine lv_isub hx hb dX6_withLetter_8 ?_
  refine lv_iconst (v := 1) hx hb dX6_withLetter_9 (by decide) ?_
  refine lv_iadd hx hb dX6_withLetter_10 ?_
  refine lv_i2l hx hb dX6_withLetter_11 rfl ?_
  refine lv_ladd hx hb dX6_withLetter_12 ?_
  exact W.lret hx hb hr (fun t ht hW => ⟨⟨_, (), rfl, rfl, ht⟩, hS.F ht⟩) hS.2.2 dX6_withLetter_13 hlocks
