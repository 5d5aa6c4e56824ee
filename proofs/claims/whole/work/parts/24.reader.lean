def fn_X6_withLetter (v0 : Int64) (v2 : Int32) (z : St) : Option (Int64 × St) := some (((v0 * 32) + (Int32.toInt64 ((v2 - 97) + 1))), z)
set_option maxHeartbeats 4000000 in
set_option maxRecDepth 100000 in
theorem m_X6_withLetter {l : Launch} {G : wG} (hG : Ok G) {v0 : Int64} {v2 : Int32} {z : St} {Rz : Int64 × St}  (h : fn_X6_withLetter  v0 v2 z = some Rz) : Met l yX6_withLetter (wsU yX6_withLetter cX6_withLetter 3 (some .long)) (rmd 1) (va_Pc [.long v0, .int v2] (Pre G z)) (va_Ql (fun r u => (r, u) = Rz) (Pre G) (AW G)) 0 0 (AW G) := by
  refine Met.ofW (cc := cX6_withLetter) (maxL := 3) (ret := (some .long)) (by decide) rfl ?_
  intro p e s m args below meth c s₁ B hml hv
  obtain ⟨rfl, hP, hK⟩ := hv
  have C : CX p s m ([.long v0, .int v2] : List Value).toArray meth c cX6_withLetter 3 (wsU yX6_withLetter cX6_withLetter 3 (some .long)) RX6 (some .long) G := ⟨B.exec, B.bytes, hml, findClass_of_methodNamed B.named, atoms_spec (ws := (wsU yX6_withLetter cX6_withLetter 3 (some .long))) B.pre, B.returns, B.notSynchronized, hK, hG⟩
  obtain ⟨hx, hb, -, hown, hts, hr, hlocks, -, -⟩ := id C
  have hS : va_S (AW G) s.heap s.heap [] := va_S.rf
  have hl := lv_entry [.long v0, .int v2] (n := 3) (Nat.le_of_ble_eq_true rfl)
  rw [lg_entry_eq]
  generalize (lg_sl [.long v0, .int v2] ++ List.replicate (3 - (lg_sl [.long v0, .int v2]).length) Slot.unset).toArray = ls at hl ⊢
  have hl : lv_has ls 3 [(0, .long v0), (2, .int v2)] := hl
  unfold fn_X6_withLetter at h
  refine lv_lload_n hx hb dX6_withLetter_0 rfl (lv_at hl 0 rfl) ?_
  refine lv_ldc2 (v := 32) hx hb hown (hts _ (List.mem_cons_of_mem _ lw_319)) dX6_withLetter_1 ?_
  refine lv_lmul hx hb dX6_withLetter_4 ?_
  refine lv_iload_n hx hb dX6_withLetter_5 rfl (lv_at hl 1 rfl) ?_
  refine lv_bipush (v := 97) hx hb dX6_withLetter_6 (by decide) ?_
  refine lv_isub hx hb dX6_withLetter_8 ?_
  refine lv_iconst (v := 1) hx hb dX6_withLetter_9 (by decide) ?_
  refine lv_iadd hx hb dX6_withLetter_10 ?_
  refine lv_i2l hx hb dX6_withLetter_11 rfl ?_
  refine lv_ladd hx hb dX6_withLetter_12 ?_
  exact x_lret hx hb hr hlocks hK hP hS h dX6_withLetter_13
def fn_X6_isBlank (v0 : Int32) (z : St) : Option (Int32 × St) := (if v0 = 32 then some (1, z) else (if v0 = 10 then some (1, z) else some (0, z)))
set_option maxHeartbeats 4000000 in
set_option maxRecDepth 100000 in
theorem m_X6_isBlank {l : Launch} {G : wG} (hG : Ok G) {v0 : Int32} {z : St} {Rz : Int32 × St}  (h : fn_X6_isBlank  v0 z = some Rz) : Met l yX6_isBlank (wsU yX6_isBlank cX6_isBlank 1 (some .boolean)) (rmd 1) (va_Pc [.int v0] (Pre G z)) (va_Qi (fun r u => (r, u) = Rz) (Pre G) (AW G)) 0 0 (AW G) := by
  refine Met.ofW (cc := cX6_isBlank) (maxL := 1) (ret := (some .boolean)) (by decide) rfl ?_
  intro p e s m args below meth c s₁ B hml hv
  obtain ⟨rfl, hP, hK⟩ := hv
  have C : CX p s m ([.int v0] : List Value).toArray meth c cX6_isBlank 1 (wsU yX6_isBlank cX6_isBlank 1 (some .boolean)) RX6 (some .boolean) G := ⟨B.exec, B.bytes, hml, findClass_of_methodNamed B.named, atoms_spec (ws := (wsU yX6_isBlank cX6_isBlank 1 (some .boolean))) B.pre, B.returns, B.notSynchronized, hK, hG⟩
  obtain ⟨hx, hb, -, hown, hts, hr, hlocks, -, -⟩ := id C
  have hS : va_S (AW G) s.heap s.heap [] := va_S.rf
  have hl := lv_entry [.int v0] (n := 1) (Nat.le_of_ble_eq_true rfl)
  rw [lg_entry_eq]
  generalize (lg_sl [.int v0] ++ List.replicate (1 - (lg_sl [.int v0]).length) Slot.unset).toArray = ls at hl ⊢
  have hl : lv_has ls 1 [(0, .int v0)] := hl
  unfold fn_X6_isBlank at h
  refine lv_iload_n hx hb dX6_isBlank_0 rfl (lv_at hl 0 rfl) ?_
  refine lv_bipush (v := 32) hx hb dX6_isBlank_1 (by decide) ?_
  refine lv_icmp_eq (tgt := 12) hx hb dX6_isBlank_3 (by decide) (fun c1 => ?_) (fun c1 => ?_)
  · rw [if_pos c1] at h
    refine lv_iconst (v := 1) hx hb dX6_isBlank_12 (by decide) ?_
    refine lv_goto (tgt := 17) hx hb dX6_isBlank_13 (by decide) ?_
    exact x_zret hx hb hr hlocks hK hP hS rfl h dX6_isBlank_17
  · rw [if_neg c1] at h
    refine lv_iload_n hx hb dX6_isBlank_6 rfl (lv_at hl 0 rfl) ?_
    refine lv_bipush (v := 10) hx hb dX6_isBlank_7 (by decide) ?_
    refine lv_icmp_ne (tgt := 16) hx hb dX6_isBlank_9 (by decide) (fun c2 => ?_) (fun c2 => ?_)
    · rw [if_neg c2] at h
      refine lv_iconst (v := 0) hx hb dX6_isBlank_16 (by decide) ?_
      exact x_zret hx hb hr hlocks hK hP hS rfl h dX6_isBlank_17
    · rw [if_pos c2] at h
      refine lv_iconst (v := 1) hx hb dX6_isBlank_12 (by decide) ?_
      refine lv_goto (tgt := 17) hx hb dX6_isBlank_13 (by decide) ?_
      exact x_zret hx hb hr hlocks hK hP hS rfl h dX6_isBlank_17
def fn_X6_isDigit (v0 : Int32) (z : St) : Option (Int32 × St) := (if v0 < 48 then some (0, z) else (if 57 < v0 then some (0, z) else some (1, z)))
set_option maxHeartbeats 4000000 in
set_option maxRecDepth 100000 in
theorem m_X6_isDigit {l : Launch} {G : wG} (hG : Ok G) {v0 : Int32} {z : St} {Rz : Int32 × St}  (h : fn_X6_isDigit  v0 z = some Rz) : Met l yX6_isDigit (wsU yX6_isDigit cX6_isDigit 1 (some .boolean)) (rmd 1) (va_Pc [.int v0] (Pre G z)) (va_Qi (fun r u => (r, u) = Rz) (Pre G) (AW G)) 0 0 (AW G) := by
  refine Met.ofW (cc := cX6_isDigit) (maxL := 1) (ret := (some .boolean)) (by decide) rfl ?_
  intro p e s m args below meth c s₁ B hml hv
  obtain ⟨rfl, hP, hK⟩ := hv
  have C : CX p s m ([.int v0] : List Value).toArray meth c cX6_isDigit 1 (wsU yX6_isDigit cX6_isDigit 1 (some .boolean)) RX6 (some .boolean) G := ⟨B.exec, B.bytes, hml, findClass_of_methodNamed B.named, atoms_spec (ws := (wsU yX6_isDigit cX6_isDigit 1 (some .boolean))) B.pre, B.returns, B.notSynchronized, hK, hG⟩
  obtain ⟨hx, hb, -, hown, hts, hr, hlocks, -, -⟩ := id C
  have hS : va_S (AW G) s.heap s.heap [] := va_S.rf
  have hl := lv_entry [.int v0] (n := 1) (Nat.le_of_ble_eq_true rfl)
  rw [lg_entry_eq]
  generalize (lg_sl [.int v0] ++ List.replicate (1 - (lg_sl [.int v0]).length) Slot.unset).toArray = ls at hl ⊢
  have hl : lv_has ls 1 [(0, .int v0)] := hl
  unfold fn_X6_isDigit at h
  refine lv_iload_n hx hb dX6_isDigit_0 rfl (lv_at hl 0 rfl) ?_
  refine lv_bipush (v := 48) hx hb dX6_isDigit_1 (by decide) ?_
  refine lv_icmp_lt (tgt := 16) hx hb dX6_isDigit_3 (by decide) (fun c1 => ?_) (fun c1 => ?_)
  · rw [if_pos c1] at h
    refine lv_iconst (v := 0) hx hb dX6_isDigit_16 (by decide) ?_
    exact x_zret hx hb hr hlocks hK hP hS rfl h dX6_isDigit_17
  · rw [if_neg c1] at h
    refine lv_iload_n hx hb dX6_isDigit_6 rfl (lv_at hl 0 rfl) ?_
    refine lv_bipush (v := 57) hx hb dX6_isDigit_7 (by decide) ?_
    refine lv_icmp_gt (tgt := 16) hx hb dX6_isDigit_9 (by decide) (fun c2 => ?_) (fun c2 => ?_)
    · rw [if_pos c2] at h
      refine lv_iconst (v := 0) hx hb dX6_isDigit_16 (by decide) ?_
      exact x_zret hx hb hr hlocks hK hP hS rfl h dX6_isDigit_17
    · rw [if_neg c2] at h
      refine lv_iconst (v := 1) hx hb dX6_isDigit_12 (by decide) ?_
      refine lv_goto (tgt := 17) hx hb dX6_isDigit_13 (by decide) ?_
      exact x_zret hx hb hr hlocks hK hP hS rfl h dX6_isDigit_17
def fn_X6_isLetter (v0 : Int32) (z : St) : Option (Int32 × St) := (if v0 < 97 then some (0, z) else (if 122 < v0 then some (0, z) else some (1, z)))
set_option maxHeartbeats 4000000 in
set_option maxRecDepth 100000 in
theorem m_X6_isLetter {l : Launch} {G : wG} (hG : Ok G) {v0 : Int32} {z : St} {Rz : Int32 × St}  (h : fn_X6_isLetter  v0 z = some Rz) : Met l yX6_isLetter (wsU yX6_isLetter cX6_isLetter 1 (some .boolean)) (rmd 1) (va_Pc [.int v0] (Pre G z)) (va_Qi (fun r u => (r, u) = Rz) (Pre G) (AW G)) 0 0 (AW G) := by
  refine Met.ofW (cc := cX6_isLetter) (maxL := 1) (ret := (some .boolean)) (by decide) rfl ?_
  intro p e s m args below meth c s₁ B hml hv
  obtain ⟨rfl, hP, hK⟩ := hv
  have C : CX p s m ([.int v0] : List Value).toArray meth c cX6_isLetter 1 (wsU yX6_isLetter cX6_isLetter 1 (some .boolean)) RX6 (some .boolean) G := ⟨B.exec, B.bytes, hml, findClass_of_methodNamed B.named, atoms_spec (ws := (wsU yX6_isLetter cX6_isLetter 1 (some .boolean))) B.pre, B.returns, B.notSynchronized, hK, hG⟩
  obtain ⟨hx, hb, -, hown, hts, hr, hlocks, -, -⟩ := id C
  have hS : va_S (AW G) s.heap s.heap [] := va_S.rf
  have hl := lv_entry [.int v0] (n := 1) (Nat.le_of_ble_eq_true rfl)
  rw [lg_entry_eq]
  generalize (lg_sl [.int v0] ++ List.replicate (1 - (lg_sl [.int v0]).length) Slot.unset).toArray = ls at hl ⊢
  have hl : lv_has ls 1 [(0, .int v0)] := hl
  unfold fn_X6_isLetter at h
  refine lv_iload_n hx hb dX6_isLetter_0 rfl (lv_at hl 0 rfl) ?_
  refine lv_bipush (v := 97) hx hb dX6_isLetter_1 (by decide) ?_
  refine lv_icmp_lt (tgt := 16) hx hb dX6_isLetter_3 (by decide) (fun c1 => ?_) (fun c1 => ?_)
  · rw [if_pos c1] at h
    refine lv_iconst (v := 0) hx hb dX6_isLetter_16 (by decide) ?_
    exact x_zret hx hb hr hlocks hK hP hS rfl h dX6_isLetter_17
  · rw [if_neg c1] at h
    refine lv_iload_n hx hb dX6_isLetter_6 rfl (lv_at hl 0 rfl) ?_
    refine lv_bipush (v := 122) hx hb dX6_isLetter_7 (by decide) ?_
    refine lv_icmp_gt (tgt := 16) hx hb dX6_isLetter_9 (by decide) (fun c2 => ?_) (fun c2 => ?_)
    · rw [if_pos c2] at h
      refine lv_iconst (v := 0) hx hb dX6_isLetter_16 (by decide) ?_
      exact x_zret hx hb hr hlocks hK hP hS rfl h dX6_isLetter_17
    · rw [if_neg c2] at h
      refine lv_iconst (v := 1) hx hb dX6_isLetter_12 (by decide) ?_
      refine lv_goto (tgt := 17) hx hb dX6_isLetter_13 (by decide) ?_
      exact x_zret hx hb hr hlocks hK hP hS rfl h dX6_isLetter_17
def fn_X6_isMark_42 (v0 : Int32) (z : St) : Option (Int32 × St) := (if v0 = 37 then some (1, z) else some (0, z))
set_option maxHeartbeats 4000000 in
set_option maxRecDepth 100000 in
theorem pf_X6_isMark_42 {p : Program} {l : Launch} {e : Env} {s : State} {m : MethodId} {args : Array Value} {below : List Frame} {meth : Method} {c : Code} {G : wG} (C : CX p s m args meth c cX6_isMark 1 (wsU yX6_isMark cX6_isMark 1 (some .boolean)) RX6 (some .boolean) G) {Rz : Int32 × St} (v0 : Int32) (z : St)  {H : Heap} {locs : List Loc} {ls : Array Slot} (hP : WP G z H) (hS : va_S (AW G) s.heap H locs) (hl : lv_has ls 1 [(0, .int v0)]) (h : fn_X6_isMark_42   v0 z = some Rz) : W p l e (rmd 1) s m args below meth c H locs 0 0 (QI below args s G Rz) (F0 m 42 ls []) := by
  obtain ⟨hx, hb, hml, hown, hts, hr, hlocks, hK, hG⟩ := id C
  unfold fn_X6_isMark_42 at h
  refine lv_iload_n hx hb dX6_isMark_42 rfl (lv_at hl 0 rfl) ?_
  refine lv_bipush (v := 37) hx hb dX6_isMark_43 (by decide) ?_
  refine lv_icmp_ne (tgt := 52) hx hb dX6_isMark_45 (by decide) (fun c1 => ?_) (fun c1 => ?_)
  · rw [if_neg c1] at h
    refine lv_iconst (v := 0) hx hb dX6_isMark_52 (by decide) ?_
    exact x_zret hx hb hr hlocks hK hP hS rfl h dX6_isMark_53
  · rw [if_pos c1] at h
    refine lv_iconst (v := 1) hx hb dX6_isMark_48 (by decide) ?_
    refine lv_goto (tgt := 53) hx hb dX6_isMark_49 (by decide) ?_
    exact x_zret hx hb hr hlocks hK hP hS rfl h dX6_isMark_53
def fn_X6_isMark_18 (v0 : Int32) (z : St) : Option (Int32 × St) := (if v0 = 45 then some (1, z) else (if v0 = 47 then some (1, z) else (if v0 < 60 then fn_X6_isMark_42   v0 z else (if v0 ≤ 62 then some (1, z) else fn_X6_isMark_42   v0 z))))
set_option maxHeartbeats 4000000 in
set_option maxRecDepth 100000 in
theorem pf_X6_isMark_18 {p : Program} {l : Launch} {e : Env} {s : State} {m : MethodId} {args : Array Value} {below : List Frame} {meth : Method} {c : Code} {G : wG} (C : CX p s m args meth c cX6_isMark 1 (wsU yX6_isMark cX6_isMark 1 (some .boolean)) RX6 (some .boolean) G) {Rz : Int32 × St} (v0 : Int32) (z : St)  {H : Heap} {locs : List Loc} {ls : Array Slot} (hP : WP G z H) (hS : va_S (AW G) s.heap H locs) (hl : lv_has ls 1 [(0, .int v0)]) (h : fn_X6_isMark_18   v0 z = some Rz) : W p l e (rmd 1) s m args below meth c H locs 0 0 (QI below args s G Rz) (F0 m 18 ls []) := by
  obtain ⟨hx, hb, hml, hown, hts, hr, hlocks, hK, hG⟩ := id C
  unfold fn_X6_isMark_18 at h
  refine lv_iload_n hx hb dX6_isMark_18 rfl (lv_at hl 0 rfl) ?_
  refine lv_bipush (v := 45) hx hb dX6_isMark_19 (by decide) ?_
  refine lv_icmp_eq (tgt := 48) hx hb dX6_isMark_21 (by decide) (fun c1 => ?_) (fun c1 => ?_)
  · rw [if_pos c1] at h
    refine lv_iconst (v := 1) hx hb dX6_isMark_48 (by decide) ?_
    refine lv_goto (tgt := 53) hx hb dX6_isMark_49 (by decide) ?_
    exact x_zret hx hb hr hlocks hK hP hS rfl h dX6_isMark_53
  · rw [if_neg c1] at h
    refine lv_iload_n hx hb dX6_isMark_24 rfl (lv_at hl 0 rfl) ?_
    refine lv_bipush (v := 47) hx hb dX6_isMark_25 (by decide) ?_
    refine lv_icmp_eq (tgt := 48) hx hb dX6_isMark_27 (by decide) (fun c2 => ?_) (fun c2 => ?_)
    · rw [if_pos c2] at h
      refine lv_iconst (v := 1) hx hb dX6_isMark_48 (by decide) ?_
      refine lv_goto (tgt := 53) hx hb dX6_isMark_49 (by decide) ?_
      exact x_zret hx hb hr hlocks hK hP hS rfl h dX6_isMark_53
    · rw [if_neg c2] at h
      refine lv_iload_n hx hb dX6_isMark_30 rfl (lv_at hl 0 rfl) ?_
      refine lv_bipush (v := 60) hx hb dX6_isMark_31 (by decide) ?_
      refine lv_icmp_lt (tgt := 42) hx hb dX6_isMark_33 (by decide) (fun c3 => ?_) (fun c3 => ?_)
      · rw [if_pos c3] at h
        exact pf_X6_isMark_42 C   v0 z  hP hS (lv_sub hl [0] rfl) h
      · rw [if_neg c3] at h
        refine lv_iload_n hx hb dX6_isMark_36 rfl (lv_at hl 0 rfl) ?_
        refine lv_bipush (v := 62) hx hb dX6_isMark_37 (by decide) ?_
        refine lv_icmp_le (tgt := 48) hx hb dX6_isMark_39 (by decide) (fun c4 => ?_) (fun c4 => ?_)
        · rw [if_pos c4] at h
          refine lv_iconst (v := 1) hx hb dX6_isMark_48 (by decide) ?_
          refine lv_goto (tgt := 53) hx hb dX6_isMark_49 (by decide) ?_
          exact x_zret hx hb hr hlocks hK hP hS rfl h dX6_isMark_53
        · rw [if_neg c4] at h
          exact pf_X6_isMark_42 C   v0 z  hP hS (lv_sub hl [0] rfl) h
def fn_X6_isMark (v0 : Int32) (z : St) : Option (Int32 × St) := (if v0 = 59 then some (1, z) else (if v0 < 40 then fn_X6_isMark_18   v0 z else (if v0 ≤ 43 then some (1, z) else fn_X6_isMark_18   v0 z)))
set_option maxHeartbeats 4000000 in
set_option maxRecDepth 100000 in
theorem m_X6_isMark {l : Launch} {G : wG} (hG : Ok G) {v0 : Int32} {z : St} {Rz : Int32 × St}  (h : fn_X6_isMark  v0 z = some Rz) : Met l yX6_isMark (wsU yX6_isMark cX6_isMark 1 (some .boolean)) (rmd 1) (va_Pc [.int v0] (Pre G z)) (va_Qi (fun r u => (r, u) = Rz) (Pre G) (AW G)) 0 0 (AW G) := by
  refine Met.ofW (cc := cX6_isMark) (maxL := 1) (ret := (some .boolean)) (by decide) rfl ?_
  intro p e s m args below meth c s₁ B hml hv
  obtain ⟨rfl, hP, hK⟩ := hv
  have C : CX p s m ([.int v0] : List Value).toArray meth c cX6_isMark 1 (wsU yX6_isMark cX6_isMark 1 (some .boolean)) RX6 (some .boolean) G := ⟨B.exec, B.bytes, hml, findClass_of_methodNamed B.named, atoms_spec (ws := (wsU yX6_isMark cX6_isMark 1 (some .boolean))) B.pre, B.returns, B.notSynchronized, hK, hG⟩
  obtain ⟨hx, hb, -, hown, hts, hr, hlocks, -, -⟩ := id C
  have hS : va_S (AW G) s.heap s.heap [] := va_S.rf
  have hl := lv_entry [.int v0] (n := 1) (Nat.le_of_ble_eq_true rfl)
  rw [lg_entry_eq]
  generalize (lg_sl [.int v0] ++ List.replicate (1 - (lg_sl [.int v0]).length) Slot.unset).toArray = ls at hl ⊢
  have hl : lv_has ls 1 [(0, .int v0)] := hl
  unfold fn_X6_isMark at h
  refine lv_iload_n hx hb dX6_isMark_0 rfl (lv_at hl 0 rfl) ?_
  refine lv_bipush (v := 59) hx hb dX6_isMark_1 (by decide) ?_
  refine lv_icmp_eq (tgt := 48) hx hb dX6_isMark_3 (by decide) (fun c1 => ?_) (fun c1 => ?_)
  · rw [if_pos c1] at h
    refine lv_iconst (v := 1) hx hb dX6_isMark_48 (by decide) ?_
    refine lv_goto (tgt := 53) hx hb dX6_isMark_49 (by decide) ?_
    exact x_zret hx hb hr hlocks hK hP hS rfl h dX6_isMark_53
  · rw [if_neg c1] at h
    refine lv_iload_n hx hb dX6_isMark_6 rfl (lv_at hl 0 rfl) ?_
    refine lv_bipush (v := 40) hx hb dX6_isMark_7 (by decide) ?_
    refine lv_icmp_lt (tgt := 18) hx hb dX6_isMark_9 (by decide) (fun c2 => ?_) (fun c2 => ?_)
    · rw [if_pos c2] at h
      exact pf_X6_isMark_18 C   v0 z  hP hS (lv_sub hl [0] rfl) h
    · rw [if_neg c2] at h
      refine lv_iload_n hx hb dX6_isMark_12 rfl (lv_at hl 0 rfl) ?_
      refine lv_bipush (v := 43) hx hb dX6_isMark_13 (by decide) ?_
      refine lv_icmp_le (tgt := 48) hx hb dX6_isMark_15 (by decide) (fun c3 => ?_) (fun c3 => ?_)
      · rw [if_pos c3] at h
        refine lv_iconst (v := 1) hx hb dX6_isMark_48 (by decide) ?_
        refine lv_goto (tgt := 53) hx hb dX6_isMark_49 (by decide) ?_
        exact x_zret hx hb hr hlocks hK hP hS rfl h dX6_isMark_53
      · rw [if_neg c3] at h
        exact pf_X6_isMark_18 C   v0 z  hP hS (lv_sub hl [0] rfl) h
def fn_X6_signAt (v1 : Int32) (z : St) : Option (Int32 × St) := (if v1 < 0 then some (0, z) else (if (z.1 32 3) ≤ v1 then some (0, z) else (if 1600 ≤ v1 then some (0, z) else gd (ix v1 1600) (some (((z.1 1 (Int32.toNatClampNeg v1)) &&& 255), z)))))
set_option maxHeartbeats 4000000 in
set_option maxRecDepth 100000 in
theorem m_X6_signAt {l : Launch} {G : wG} (hG : Ok G) {v1 : Int32} {z : St} {Rz : Int32 × St}  (h : fn_X6_signAt  v1 z = some Rz) : Met l yX6_signAt (wsU yX6_signAt cX6_signAt 2 (some .int)) (rmd 1) (va_Pc [.ref (G.2.2 32), .int v1] (Pre G z)) (va_Qi (fun r u => (r, u) = Rz) (Pre G) (AW G)) 0 0 (AW G) := by
  refine Met.ofW (cc := cX6_signAt) (maxL := 2) (ret := (some .int)) (by decide) rfl ?_
  intro p e s m args below meth c s₁ B hml hv
  obtain ⟨rfl, hP, hK⟩ := hv
  have C : CX p s m ([.ref (G.2.2 32), .int v1] : List Value).toArray meth c cX6_signAt 2 (wsU yX6_signAt cX6_signAt 2 (some .int)) RX6 (some .int) G := ⟨B.exec, B.bytes, hml, findClass_of_methodNamed B.named, atoms_spec (ws := (wsU yX6_signAt cX6_signAt 2 (some .int))) B.pre, B.returns, B.notSynchronized, hK, hG⟩
  obtain ⟨hx, hb, -, hown, hts, hr, hlocks, -, -⟩ := id C
  have hS : va_S (AW G) s.heap s.heap [] := va_S.rf
  have hl := lv_entry [.ref (G.2.2 32), .int v1] (n := 2) (Nat.le_of_ble_eq_true rfl)
  rw [lg_entry_eq]
  generalize (lg_sl [.ref (G.2.2 32), .int v1] ++ List.replicate (2 - (lg_sl [.ref (G.2.2 32), .int v1]).length) Slot.unset).toArray = ls at hl ⊢
  have hl : lv_has ls 2 [(0, .ref (G.2.2 32)), (1, .int v1)] := hl
  unfold fn_X6_signAt at h
  refine lv_iload_n hx hb dX6_signAt_0 rfl (lv_at hl 1 rfl) ?_
  refine lv_if_lt (tgt := 34) hx hb dX6_signAt_1 (by decide) (fun c1 => ?_) (fun c1 => ?_)
  · rw [if_pos c1] at h
    refine lv_iconst (v := 0) hx hb dX6_signAt_34 (by decide) ?_
    exact x_iret hx hb hr hlocks hK hP hS h dX6_signAt_35
  · rw [if_neg c1] at h
    refine lv_iload_n hx hb dX6_signAt_4 rfl (lv_at hl 1 rfl) ?_
    refine lv_aload_n hx hb dX6_signAt_5 rfl (lv_at hl 0 rfl) ?_
    refine ge_6_3 hx hb hts (inU inW_X6) hown hK hP k_32 (hts _ (List.mem_cons_of_mem _ lw_323)) dX6_signAt_6 ?_
    refine lv_icmp_ge (tgt := 34) hx hb dX6_signAt_9 (by decide) (fun c2 => ?_) (fun c2 => ?_)
    · rw [if_pos c2] at h
      refine lv_iconst (v := 0) hx hb dX6_signAt_34 (by decide) ?_
      exact x_iret hx hb hr hlocks hK hP hS h dX6_signAt_35
    · rw [if_neg c2] at h
      refine lv_iload_n hx hb dX6_signAt_12 rfl (lv_at hl 1 rfl) ?_
      refine lv_aload_n hx hb dX6_signAt_13 rfl (lv_at hl 0 rfl) ?_
      refine ge_6_0 hx hb hts (inU inW_X6) hown hK hP k_32 (hts _ (List.mem_cons_of_mem _ lw_320)) dX6_signAt_14 ?_
      refine xn_13 (v := 1600) hx hb hK hP k_1 l_1 rfl dX6_signAt_17 ?_
      refine lv_icmp_ge (tgt := 34) hx hb dX6_signAt_18 (by decide) (fun c3 => ?_) (fun c3 => ?_)
      · rw [if_pos c3] at h
        refine lv_iconst (v := 0) hx hb dX6_signAt_34 (by decide) ?_
        exact x_iret hx hb hr hlocks hK hP hS h dX6_signAt_35
      · rw [if_neg c3] at h
        refine lv_aload_n hx hb dX6_signAt_21 rfl (lv_at hl 0 rfl) ?_
        refine ge_6_0 hx hb hts (inU inW_X6) hown hK hP k_32 (hts _ (List.mem_cons_of_mem _ lw_320)) dX6_signAt_22 ?_
        refine lv_iload_n hx hb dX6_signAt_25 rfl (lv_at hl 1 rfl) ?_
        obtain ⟨g4, h⟩ := gd_s h
        refine xl_13 hx hb hK hP k_1 l_1 (ix_in g4) dX6_signAt_26 ?_
        refine lv_sipush (v := 255) hx hb dX6_signAt_27 (by decide) ?_
        refine lv_iand hx hb dX6_signAt_30 ?_
        refine lv_goto (tgt := 35) hx hb dX6_signAt_31 (by decide) ?_
        exact x_iret hx hb hr hlocks hK hP hS h dX6_signAt_35
def fn_X6_scanNumber_100 (tv1 : Int32) (z : St) : Option (St) := nm (sI z 32 5 tv1) (fun z1 => some z1)
set_option maxHeartbeats 4000000 in
set_option maxRecDepth 100000 in
theorem pf_X6_scanNumber_100 {p : Program} {l : Launch} {e : Env} {s : State} {m : MethodId} {args : Array Value} {below : List Frame} {meth : Method} {c : Code} {G : wG} (C : CX p s m args meth c cX6_scanNumber 2 (wsU yX6_scanNumber cX6_scanNumber 2 none) RX6 none G) {Rz : St} (tv1 : Int32) (z : St)  {H : Heap} {locs : List Loc} {ls : Array Slot} (hP : WP G z H) (hS : va_S (AW G) s.heap H locs) (hl : lv_has ls 2 []) (h : fn_X6_scanNumber_100   tv1 z = some Rz) : W p l e (rmd 2) s m args below meth c H locs 0 0 (QV below args s G Rz) (F0 m 100 ls [.int tv1, .ref (G.2.2 32)]) := by
  obtain ⟨hx, hb, hml, hown, hts, hr, hlocks, hK, hG⟩ := id C
  unfold fn_X6_scanNumber_100 at h
  obtain ⟨z1, e_z1, h⟩ := nm_s h
  refine pu_6_5 hx hb hts (inU inW_X6) hown hK hG hP hS k_32 (hts _ (List.mem_cons_of_mem _ lw_325)) dX6_scanNumber_100 (fun H locs hP hS => ?_)
  rw [← e_z1] at hP
  exact x_vret hx hb hr hlocks hK hP hS h dX6_scanNumber_103
def fn_X6_scanNumber_95  (z : St) : Option (St) := fn_X6_scanNumber_100   4 z
set_option maxHeartbeats 4000000 in
set_option maxRecDepth 100000 in
theorem pf_X6_scanNumber_95 {p : Program} {l : Launch} {e : Env} {s : State} {m : MethodId} {args : Array Value} {below : List Frame} {meth : Method} {c : Code} {G : wG} (C : CX p s m args meth c cX6_scanNumber 2 (wsU yX6_scanNumber cX6_scanNumber 2 none) RX6 none G) {Rz : St}  (z : St)  {H : Heap} {locs : List Loc} {ls : Array Slot} (hP : WP G z H) (hS : va_S (AW G) s.heap H locs) (hl : lv_has ls 2 []) (h : fn_X6_scanNumber_95    z = some Rz) : W p l e (rmd 2) s m args below meth c H locs 0 0 (QV below args s G Rz) (F0 m 95 ls [.ref (G.2.2 32)]) := by
  obtain ⟨hx, hb, hml, hown, hts, hr, hlocks, hK, hG⟩ := id C
  unfold fn_X6_scanNumber_95 at h
  refine lv_iconst (v := 4) hx hb dX6_scanNumber_95 (by decide) ?_
  refine lv_goto (tgt := 100) hx hb dX6_scanNumber_96 (by decide) ?_
  exact pf_X6_scanNumber_100 C   4 z  hP hS (lv_sub hl [] rfl) h
def fn_X6_scanNumber_67  (z : St) : Option (St) := (if 4 < ((z.1 32 4) - (z.1 32 6)) then fn_X6_scanNumber_95    z else bd (fn_X6_signAt  (z.1 32 4) z) (fun r3 z4 => bd (fn_X6_isLetter  r3 z4) (fun r6 z7 => (if r6 = 0 then fn_X6_scanNumber_100   2 z7 else fn_X6_scanNumber_95    z7))))
set_option maxHeartbeats 4000000 in
set_option maxRecDepth 100000 in
theorem pf_X6_scanNumber_67 {p : Program} {l : Launch} {e : Env} {s : State} {m : MethodId} {args : Array Value} {below : List Frame} {meth : Method} {c : Code} {G : wG} (C : CX p s m args meth c cX6_scanNumber 2 (wsU yX6_scanNumber cX6_scanNumber 2 none) RX6 none G) {Rz : St}  (z : St)  {H : Heap} {locs : List Loc} {ls : Array Slot} (hP : WP G z H) (hS : va_S (AW G) s.heap H locs) (hl : lv_has ls 2 [(0, .ref (G.2.2 32))]) (h : fn_X6_scanNumber_67    z = some Rz) : W p l e (rmd 2) s m args below meth c H locs 0 0 (QV below args s G Rz) (F0 m 67 ls []) := by
  obtain ⟨hx, hb, hml, hown, hts, hr, hlocks, hK, hG⟩ := id C
  unfold fn_X6_scanNumber_67 at h
  refine lv_aload_n hx hb dX6_scanNumber_67 rfl (lv_at hl 0 rfl) ?_
  refine lv_aload_n hx hb dX6_scanNumber_68 rfl (lv_at hl 0 rfl) ?_
  refine ge_6_4 hx hb hts (inU inW_X6) hown hK hP k_32 (hts _ (List.mem_cons_of_mem _ lw_324)) dX6_scanNumber_69 ?_
  refine lv_aload_n hx hb dX6_scanNumber_72 rfl (lv_at hl 0 rfl) ?_
  refine ge_6_6 hx hb hts (inU inW_X6) hown hK hP k_32 (hts _ (List.mem_cons_of_mem _ lw_326)) dX6_scanNumber_73 ?_
  refine lv_isub hx hb dX6_scanNumber_76 ?_
  refine lv_iconst (v := 4) hx hb dX6_scanNumber_77 (by decide) ?_
  refine lv_icmp_gt (tgt := 95) hx hb dX6_scanNumber_78 (by decide) (fun c1 => ?_) (fun c1 => ?_)
  · rw [if_pos c1] at h
    exact pf_X6_scanNumber_95 C    z  hP hS (lv_sub hl [] rfl) h
  · rw [if_neg c1] at h
    refine lv_aload_n hx hb dX6_scanNumber_81 rfl (lv_at hl 0 rfl) ?_
    refine lv_aload_n hx hb dX6_scanNumber_82 rfl (lv_at hl 0 rfl) ?_
    refine ge_6_4 hx hb hts (inU inW_X6) hown hK hP k_32 (hts _ (List.mem_cons_of_mem _ lw_324)) dX6_scanNumber_83 ?_
    obtain ⟨r3, z4, h2, h⟩ := bd_s h
    refine x_Vi (Rz := (r3, z4)) (As := [.int (z.1 32 4)]) (rest := [.ref (G.2.2 32)]) ⟨hx, hb, hml, hown, hts⟩ hK hP hS (kd_lt k_32 (by decide)) (cell_6 k_32) rfl (m_X6_signAt hG   h2) (cwV 1 hts (gV lw_781 lw_783 lw_2 lw_112 lw_784) rfl rfl rfl (by decide +kernel) (rmd_ok (by decide) (by decide))) rfl hl.1 rfl (Nat.le_of_ble_eq_true rfl) dX6_scanNumber_86 ⟨Nat.le_refl _, Nat.le_refl _⟩ (fun H locs hP hS => ?_)
    obtain ⟨r6, z7, h5, h⟩ := bd_s h
    refine x_Si (Rz := (r6, z7)) (As := [.int r3]) (rest := [.ref (G.2.2 32)]) ⟨hx, hb, hml, hown, hts⟩ hK hP hS (m_X6_isLetter hG   h5) (va_cwS 1 hts (gS lw_788 lw_789 lw_112 lw_790) rfl rfl rfl (by decide +kernel) (rmd_ok (by decide) (by decide))) rfl hl.1 rfl (Nat.le_of_ble_eq_true rfl) dX6_scanNumber_89 ⟨Nat.le_refl _, Nat.le_refl _⟩ (fun H locs hP hS => ?_)
    refine lv_if_eq (tgt := 99) hx hb dX6_scanNumber_92 (by decide) (fun c8 => ?_) (fun c8 => ?_)
    · rw [if_pos c8] at h
      refine lv_iconst (v := 2) hx hb dX6_scanNumber_99 (by decide) ?_
      exact pf_X6_scanNumber_100 C   2 z7  hP hS (lv_sub hl [] rfl) h
    · rw [if_neg c8] at h
      exact pf_X6_scanNumber_95 C    z7  hP hS (lv_sub hl [] rfl) h
def fn_X6_scanNumber_7 : Nat → Int32 → St → Option (St)
  | 0, _, _ => none
  | n + 1, v1, z => (if 1600 ≤ v1 then fn_X6_scanNumber_67    z else bd (fn_X6_signAt  (z.1 32 4) z) (fun r3 z4 => bd (fn_X6_isDigit  r3 z4) (fun r6 z7 => (if r6 = 0 then fn_X6_scanNumber_67    z7 else bd (fn_X6_signAt  (z7.1 32 4) z7) (fun r10 z11 => nm (sI z11 32 7 (((z7.1 32 7) * 10) + (r10 - 48))) (fun z12 => nm (sI z12 32 4 ((z12.1 32 4) + 1)) (fun z13 => fn_X6_scanNumber_7   n (v1 + 1) z13)))))))
set_option maxHeartbeats 4000000 in
set_option maxRecDepth 100000 in
theorem pf_X6_scanNumber_7 {p : Program} {l : Launch} {e : Env} {s : State} {m : MethodId} {args : Array Value} {below : List Frame} {meth : Method} {c : Code} {G : wG} (C : CX p s m args meth c cX6_scanNumber 2 (wsU yX6_scanNumber cX6_scanNumber 2 none) RX6 none G) {Rz : St} : ∀ (n : Nat) (v1 : Int32) (z : St)  (H : Heap) (locs : List Loc) (ls : Array Slot), WP G z H → va_S (AW G) s.heap H locs → lv_has ls 2 [(0, .ref (G.2.2 32)), (1, .int v1)] → fn_X6_scanNumber_7   n v1 z = some Rz → W p l e (rmd 2) s m args below meth c H locs 0 0 (QV below args s G Rz) (F0 m 7 ls []) := by
  obtain ⟨hx, hb, hml, hown, hts, hr, hlocks, hK, hG⟩ := id C
  intro n
  induction n with
  | zero => intro v1 z  H locs ls hP hS hl h; cases h
  | succ n ih =>
    intro v1 z  H locs ls hP hS hl h
    rw [fn_X6_scanNumber_7] at h
    refine lv_iload_n hx hb dX6_scanNumber_7 rfl (lv_at hl 1 rfl) ?_
    refine lv_sipush (v := 1600) hx hb dX6_scanNumber_8 (by decide) ?_
    refine lv_icmp_ge (tgt := 67) hx hb dX6_scanNumber_11 (by decide) (fun c1 => ?_) (fun c1 => ?_)
    · rw [if_pos c1] at h
      exact pf_X6_scanNumber_67 C    z  hP hS (lv_sub hl [0] rfl) h
    · rw [if_neg c1] at h
      refine lv_aload_n hx hb dX6_scanNumber_14 rfl (lv_at hl 0 rfl) ?_
      refine lv_aload_n hx hb dX6_scanNumber_15 rfl (lv_at hl 0 rfl) ?_
      refine ge_6_4 hx hb hts (inU inW_X6) hown hK hP k_32 (hts _ (List.mem_cons_of_mem _ lw_324)) dX6_scanNumber_16 ?_
      obtain ⟨r3, z4, h2, h⟩ := bd_s h
      refine x_Vi (Rz := (r3, z4)) (As := [.int (z.1 32 4)]) (rest := []) ⟨hx, hb, hml, hown, hts⟩ hK hP hS (kd_lt k_32 (by decide)) (cell_6 k_32) rfl (m_X6_signAt hG   h2) (cwV 1 hts (gV lw_781 lw_783 lw_2 lw_112 lw_784) rfl rfl rfl (by decide +kernel) (rmd_ok (by decide) (by decide))) rfl hl.1 rfl (Nat.le_of_ble_eq_true rfl) dX6_scanNumber_19 ⟨Nat.le_refl _, Nat.le_refl _⟩ (fun H locs hP hS => ?_)
      obtain ⟨r6, z7, h5, h⟩ := bd_s h
      refine x_Si (Rz := (r6, z7)) (As := [.int r3]) (rest := []) ⟨hx, hb, hml, hown, hts⟩ hK hP hS (m_X6_isDigit hG   h5) (va_cwS 1 hts (gS lw_795 lw_796 lw_112 lw_797) rfl rfl rfl (by decide +kernel) (rmd_ok (by decide) (by decide))) rfl hl.1 rfl (Nat.le_of_ble_eq_true rfl) dX6_scanNumber_22 ⟨Nat.le_refl _, Nat.le_refl _⟩ (fun H locs hP hS => ?_)
      refine lv_if_eq (tgt := 67) hx hb dX6_scanNumber_25 (by decide) (fun c8 => ?_) (fun c8 => ?_)
      · rw [if_pos c8] at h
        exact pf_X6_scanNumber_67 C    z7  hP hS (lv_sub hl [0] rfl) h
      · rw [if_neg c8] at h
        refine lv_aload_n hx hb dX6_scanNumber_28 rfl (lv_at hl 0 rfl) ?_
        refine lv_aload_n hx hb dX6_scanNumber_29 rfl (lv_at hl 0 rfl) ?_
        refine ge_6_7 hx hb hts (inU inW_X6) hown hK hP k_32 (hts _ (List.mem_cons_of_mem _ lw_327)) dX6_scanNumber_30 ?_
        refine lv_bipush (v := 10) hx hb dX6_scanNumber_33 (by decide) ?_
        refine lv_imul hx hb dX6_scanNumber_35 ?_
        refine lv_aload_n hx hb dX6_scanNumber_36 rfl (lv_at hl 0 rfl) ?_
        refine lv_aload_n hx hb dX6_scanNumber_37 rfl (lv_at hl 0 rfl) ?_
        refine ge_6_4 hx hb hts (inU inW_X6) hown hK hP k_32 (hts _ (List.mem_cons_of_mem _ lw_324)) dX6_scanNumber_38 ?_
        obtain ⟨r10, z11, h9, h⟩ := bd_s h
        refine x_Vi (Rz := (r10, z11)) (As := [.int (z7.1 32 4)]) (rest := [.int ((z7.1 32 7) * 10), .ref (G.2.2 32)]) ⟨hx, hb, hml, hown, hts⟩ hK hP hS (kd_lt k_32 (by decide)) (cell_6 k_32) rfl (m_X6_signAt hG   h9) (cwV 1 hts (gV lw_781 lw_783 lw_2 lw_112 lw_784) rfl rfl rfl (by decide +kernel) (rmd_ok (by decide) (by decide))) rfl hl.1 rfl (Nat.le_of_ble_eq_true rfl) dX6_scanNumber_41 ⟨Nat.le_refl _, Nat.le_refl _⟩ (fun H locs hP hS => ?_)
        refine lv_bipush (v := 48) hx hb dX6_scanNumber_44 (by decide) ?_
        refine lv_isub hx hb dX6_scanNumber_46 ?_
        refine lv_iadd hx hb dX6_scanNumber_47 ?_
        obtain ⟨z12, e_z12, h⟩ := nm_s h
        refine pu_6_7 hx hb hts (inU inW_X6) hown hK hG hP hS k_32 (hts _ (List.mem_cons_of_mem _ lw_327)) dX6_scanNumber_48 (fun H locs hP hS => ?_)
        rw [← e_z12] at hP
        refine lv_aload_n hx hb dX6_scanNumber_51 rfl (lv_at hl 0 rfl) ?_
        refine lv_dup hx hb dX6_scanNumber_52 rfl ?_
        refine ge_6_4 hx hb hts (inU inW_X6) hown hK hP k_32 (hts _ (List.mem_cons_of_mem _ lw_324)) dX6_scanNumber_53 ?_
        refine lv_iconst (v := 1) hx hb dX6_scanNumber_56 (by decide) ?_
        refine lv_iadd hx hb dX6_scanNumber_57 ?_
        obtain ⟨z13, e_z13, h⟩ := nm_s h
        refine pu_6_4 hx hb hts (inU inW_X6) hown hK hG hP hS k_32 (hts _ (List.mem_cons_of_mem _ lw_324)) dX6_scanNumber_58 (fun H locs hP hS => ?_)
        rw [← e_z13] at hP
        refine lv_iinc (v := (v1 + 1)) (lv' := [(1, .int (v1 + 1)), (0, .ref (G.2.2 32))]) hx hb dX6_scanNumber_61 hl (k := 1) rfl rfl (by decide) rfl (fun ls hl => ?_)
        refine lv_goto (tgt := 7) hx hb dX6_scanNumber_64 (by decide) ?_
        exact ih (v1 + 1) z13  _ _ _ hP hS (lv_sub hl [1, 0] rfl) h
def fn_X6_scanNumber  (z : St) : Option (St) := nm (sI z 32 7 0) (fun z1 => fn_X6_scanNumber_7   fu 0 z1)
set_option maxHeartbeats 4000000 in
set_option maxRecDepth 100000 in
theorem m_X6_scanNumber {l : Launch} {G : wG} (hG : Ok G)  {z : St} {Rz : St}  (h : fn_X6_scanNumber   z = some Rz) : Met l yX6_scanNumber (wsU yX6_scanNumber cX6_scanNumber 2 none) (rmd 2) (va_Pc [.ref (G.2.2 32)] (Pre G z)) (va_Qv (fun u => u = Rz) (Pre G) (AW G)) 0 0 (AW G) := by
  refine Met.ofW (cc := cX6_scanNumber) (maxL := 2) (ret := none) (by decide) rfl ?_
  intro p e s m args below meth c s₁ B hml hv
  obtain ⟨rfl, hP, hK⟩ := hv
  have C : CX p s m ([.ref (G.2.2 32)] : List Value).toArray meth c cX6_scanNumber 2 (wsU yX6_scanNumber cX6_scanNumber 2 none) RX6 none G := ⟨B.exec, B.bytes, hml, findClass_of_methodNamed B.named, atoms_spec (ws := (wsU yX6_scanNumber cX6_scanNumber 2 none)) B.pre, B.returns, B.notSynchronized, hK, hG⟩
  obtain ⟨hx, hb, -, hown, hts, hr, hlocks, -, -⟩ := id C
  have hS : va_S (AW G) s.heap s.heap [] := va_S.rf
  have hl := lv_entry [.ref (G.2.2 32)] (n := 2) (Nat.le_of_ble_eq_true rfl)
  rw [lg_entry_eq]
  generalize (lg_sl [.ref (G.2.2 32)] ++ List.replicate (2 - (lg_sl [.ref (G.2.2 32)]).length) Slot.unset).toArray = ls at hl ⊢
  have hl : lv_has ls 2 [(0, .ref (G.2.2 32))] := hl
  unfold fn_X6_scanNumber at h
  refine lv_aload_n hx hb dX6_scanNumber_0 rfl (lv_at hl 0 rfl) ?_
  refine lv_iconst (v := 0) hx hb dX6_scanNumber_1 (by decide) ?_
  obtain ⟨z1, e_z1, h⟩ := nm_s h
  refine pu_6_7 hx hb hts (inU inW_X6) hown hK hG hP hS k_32 (hts _ (List.mem_cons_of_mem _ lw_327)) dX6_scanNumber_2 (fun H locs hP hS => ?_)
  rw [← e_z1] at hP
  refine lv_iconst (v := 0) hx hb dX6_scanNumber_5 (by decide) ?_
  refine lv_istore_n (lv' := [(1, .int 0), (0, .ref (G.2.2 32))]) hx hb dX6_scanNumber_6 rfl hl (by decide) rfl (fun ls hl => ?_)
  exact pf_X6_scanNumber_7 C   fu 0 z1  _ _ _ hP hS (lv_sub hl [1, 0] rfl) h
def fn_X6_scanWord_118 (k93 : Int32 → St → Option (St)) (v1 : Int32) (z : St) : Option (St) := k93 (v1 + 1) z
set_option maxHeartbeats 4000000 in
set_option maxRecDepth 100000 in
theorem pf_X6_scanWord_118 {p : Program} {l : Launch} {e : Env} {s : State} {m : MethodId} {args : Array Value} {below : List Frame} {meth : Method} {c : Code} {G : wG} (C : CX p s m args meth c cX6_scanWord 2 (wsU yX6_scanWord cX6_scanWord 2 none) RX6 none G) {Rz : St} {k93 : Int32 → St → Option (St)} (hk_93 : ∀ (v1 : Int32) (z : St)  (H : Heap) (locs : List Loc) (ls : Array Slot), WP G z H → va_S (AW G) s.heap H locs → lv_has ls 2 [(0, .ref (G.2.2 32)), (1, .int v1)] → k93 v1 z = some Rz → W p l e (rmd 2) s m args below meth c H locs 0 0 (QV below args s G Rz) (F0 m 93 ls [])) (v1 : Int32) (z : St)  {H : Heap} {locs : List Loc} {ls : Array Slot} (hP : WP G z H) (hS : va_S (AW G) s.heap H locs) (hl : lv_has ls 2 [(0, .ref (G.2.2 32)), (1, .int v1)]) (h : fn_X6_scanWord_118  k93 v1 z = some Rz) : W p l e (rmd 2) s m args below meth c H locs 0 0 (QV below args s G Rz) (F0 m 118 ls []) := by
  obtain ⟨hx, hb, hml, hown, hts, hr, hlocks, hK, hG⟩ := id C
  unfold fn_X6_scanWord_118 at h
  refine lv_iinc (v := (v1 + 1)) (lv' := [(1, .int (v1 + 1)), (0, .ref (G.2.2 32))]) hx hb dX6_scanWord_118 hl (k := 1) rfl rfl (by decide) rfl (fun ls hl => ?_)
  refine lv_goto (tgt := 93) hx hb dX6_scanWord_121 (by decide) ?_
  exact hk_93 (v1 + 1) z  _ _ _ hP hS (lv_sub hl [1, 0] rfl) h
def fn_X6_scanWord_93 : Nat → Int32 → St → Option (St)
  | 0, _, _ => none
  | n + 1, v1, z => (if 19 ≤ v1 then some z else gd (ix v1 19) ((if (lg_cmp (z.2 33 (Int32.toNatClampNeg v1)) (z.2 32 8)) = 0 then nm (sI z 32 9 v1) (fun z4 => fn_X6_scanWord_118  (fn_X6_scanWord_93   n) v1 z4) else fn_X6_scanWord_118  (fn_X6_scanWord_93   n) v1 z)))
set_option maxHeartbeats 4000000 in
set_option maxRecDepth 100000 in
theorem pf_X6_scanWord_93 {p : Program} {l : Launch} {e : Env} {s : State} {m : MethodId} {args : Array Value} {below : List Frame} {meth : Method} {c : Code} {G : wG} (C : CX p s m args meth c cX6_scanWord 2 (wsU yX6_scanWord cX6_scanWord 2 none) RX6 none G) {Rz : St} : ∀ (n : Nat) (v1 : Int32) (z : St)  (H : Heap) (locs : List Loc) (ls : Array Slot), WP G z H → va_S (AW G) s.heap H locs → lv_has ls 2 [(0, .ref (G.2.2 32)), (1, .int v1)] → fn_X6_scanWord_93   n v1 z = some Rz → W p l e (rmd 2) s m args below meth c H locs 0 0 (QV below args s G Rz) (F0 m 93 ls []) := by
  obtain ⟨hx, hb, hml, hown, hts, hr, hlocks, hK, hG⟩ := id C
  intro n
  induction n with
  | zero => intro v1 z  H locs ls hP hS hl h; cases h
  | succ n ih =>
    intro v1 z  H locs ls hP hS hl h
    rw [fn_X6_scanWord_93] at h
    refine lv_iload_n hx hb dX6_scanWord_93 rfl (lv_at hl 1 rfl) ?_
    refine lv_bipush (v := 19) hx hb dX6_scanWord_94 (by decide) ?_
    refine lv_icmp_ge (tgt := 124) hx hb dX6_scanWord_96 (by decide) (fun c1 => ?_) (fun c1 => ?_)
    · rw [if_pos c1] at h
      exact x_vret hx hb hr hlocks hK hP hS h dX6_scanWord_124
    · rw [if_neg c1] at h
      refine lv_aload_n hx hb dX6_scanWord_99 rfl (lv_at hl 0 rfl) ?_
      refine ge_6_2 hx hb hts (inU inW_X6) hown hK hP k_32 (hts _ (List.mem_cons_of_mem _ lw_322)) dX6_scanWord_100 ?_
      refine lv_iload_n hx hb dX6_scanWord_103 rfl (lv_at hl 1 rfl) ?_
      obtain ⟨g2, h⟩ := gd_s h
      refine xl_15 hx hb hK hP k_33 l_33 (ix_in g2) dX6_scanWord_104 ?_
      refine lv_aload_n hx hb dX6_scanWord_105 rfl (lv_at hl 0 rfl) ?_
      refine ge_6_8 hx hb hts (inU inW_X6) hown hK hP k_32 (hts _ (List.mem_cons_of_mem _ lw_328)) dX6_scanWord_106 ?_
      refine W.lcmp hx hb dX6_scanWord_109 ?_
      refine lv_if_ne (tgt := 118) hx hb dX6_scanWord_110 (by decide) (fun c3 => ?_) (fun c3 => ?_)
      · rw [if_neg c3] at h
        exact pf_X6_scanWord_118 C  ih v1 z  hP hS (lv_sub hl [0, 1] rfl) h
      · rw [if_pos c3] at h
        refine lv_aload_n hx hb dX6_scanWord_113 rfl (lv_at hl 0 rfl) ?_
        refine lv_iload_n hx hb dX6_scanWord_114 rfl (lv_at hl 1 rfl) ?_
        obtain ⟨z4, e_z4, h⟩ := nm_s h
        refine pu_6_9 hx hb hts (inU inW_X6) hown hK hG hP hS k_32 (hts _ (List.mem_cons_of_mem _ lw_329)) dX6_scanWord_115 (fun H locs hP hS => ?_)
        rw [← e_z4] at hP
        exact pf_X6_scanWord_118 C  ih v1 z4  hP hS (lv_sub hl [0, 1] rfl) h
def fn_X6_scanWord_83 (tv1 : Int32) (z : St) : Option (St) := nm (sI z 32 5 tv1) (fun z1 => nm (sI z1 32 9 (-1)) (fun z2 => fn_X6_scanWord_93   fu 0 z2))
set_option maxHeartbeats 4000000 in
set_option maxRecDepth 100000 in
theorem pf_X6_scanWord_83 {p : Program} {l : Launch} {e : Env} {s : State} {m : MethodId} {args : Array Value} {below : List Frame} {meth : Method} {c : Code} {G : wG} (C : CX p s m args meth c cX6_scanWord 2 (wsU yX6_scanWord cX6_scanWord 2 none) RX6 none G) {Rz : St} (tv1 : Int32) (z : St)  {H : Heap} {locs : List Loc} {ls : Array Slot} (hP : WP G z H) (hS : va_S (AW G) s.heap H locs) (hl : lv_has ls 2 [(0, .ref (G.2.2 32))]) (h : fn_X6_scanWord_83   tv1 z = some Rz) : W p l e (rmd 2) s m args below meth c H locs 0 0 (QV below args s G Rz) (F0 m 83 ls [.int tv1, .ref (G.2.2 32)]) := by
  obtain ⟨hx, hb, hml, hown, hts, hr, hlocks, hK, hG⟩ := id C
  unfold fn_X6_scanWord_83 at h
  obtain ⟨z1, e_z1, h⟩ := nm_s h
  refine pu_6_5 hx hb hts (inU inW_X6) hown hK hG hP hS k_32 (hts _ (List.mem_cons_of_mem _ lw_325)) dX6_scanWord_83 (fun H locs hP hS => ?_)
  rw [← e_z1] at hP
  refine lv_aload_n hx hb dX6_scanWord_86 rfl (lv_at hl 0 rfl) ?_
  refine lv_iconst (v := (-1)) hx hb dX6_scanWord_87 (by decide) ?_
  obtain ⟨z2, e_z2, h⟩ := nm_s h
  refine pu_6_9 hx hb hts (inU inW_X6) hown hK hG hP hS k_32 (hts _ (List.mem_cons_of_mem _ lw_329)) dX6_scanWord_88 (fun H locs hP hS => ?_)
  rw [← e_z2] at hP
  refine lv_iconst (v := 0) hx hb dX6_scanWord_91 (by decide) ?_
  refine lv_istore_n (lv' := [(1, .int 0), (0, .ref (G.2.2 32))]) hx hb dX6_scanWord_92 rfl hl (by decide) rfl (fun ls hl => ?_)
  exact pf_X6_scanWord_93 C   fu 0 z2  _ _ _ hP hS (lv_sub hl [1, 0] rfl) h
def fn_X6_scanWord_63  (z : St) : Option (St) := (if ((z.1 32 4) - (z.1 32 6)) ≤ 8 then fn_X6_scanWord_83   1 z else fn_X6_scanWord_83   4 z)
set_option maxHeartbeats 4000000 in
set_option maxRecDepth 100000 in
theorem pf_X6_scanWord_63 {p : Program} {l : Launch} {e : Env} {s : State} {m : MethodId} {args : Array Value} {below : List Frame} {meth : Method} {c : Code} {G : wG} (C : CX p s m args meth c cX6_scanWord 2 (wsU yX6_scanWord cX6_scanWord 2 none) RX6 none G) {Rz : St}  (z : St)  {H : Heap} {locs : List Loc} {ls : Array Slot} (hP : WP G z H) (hS : va_S (AW G) s.heap H locs) (hl : lv_has ls 2 [(0, .ref (G.2.2 32))]) (h : fn_X6_scanWord_63    z = some Rz) : W p l e (rmd 2) s m args below meth c H locs 0 0 (QV below args s G Rz) (F0 m 63 ls []) := by
  obtain ⟨hx, hb, hml, hown, hts, hr, hlocks, hK, hG⟩ := id C
  unfold fn_X6_scanWord_63 at h
  refine lv_aload_n hx hb dX6_scanWord_63 rfl (lv_at hl 0 rfl) ?_
  refine lv_aload_n hx hb dX6_scanWord_64 rfl (lv_at hl 0 rfl) ?_
  refine ge_6_4 hx hb hts (inU inW_X6) hown hK hP k_32 (hts _ (List.mem_cons_of_mem _ lw_324)) dX6_scanWord_65 ?_
  refine lv_aload_n hx hb dX6_scanWord_68 rfl (lv_at hl 0 rfl) ?_
  refine ge_6_6 hx hb hts (inU inW_X6) hown hK hP k_32 (hts _ (List.mem_cons_of_mem _ lw_326)) dX6_scanWord_69 ?_
  refine lv_isub hx hb dX6_scanWord_72 ?_
  refine lv_bipush (v := 8) hx hb dX6_scanWord_73 (by decide) ?_
  refine lv_icmp_le (tgt := 82) hx hb dX6_scanWord_75 (by decide) (fun c1 => ?_) (fun c1 => ?_)
  · rw [if_pos c1] at h
    refine lv_iconst (v := 1) hx hb dX6_scanWord_82 (by decide) ?_
    exact pf_X6_scanWord_83 C   1 z  hP hS (lv_sub hl [0] rfl) h
  · rw [if_neg c1] at h
    refine lv_iconst (v := 4) hx hb dX6_scanWord_78 (by decide) ?_
    refine lv_goto (tgt := 83) hx hb dX6_scanWord_79 (by decide) ?_
    exact pf_X6_scanWord_83 C   4 z  hP hS (lv_sub hl [0] rfl) h
def fn_X6_scanWord_7 : Nat → Int32 → St → Option (St)
  | 0, _, _ => none
  | n + 1, v1, z => (if 1600 ≤ v1 then fn_X6_scanWord_63    z else bd (fn_X6_signAt  (z.1 32 4) z) (fun r3 z4 => bd (fn_X6_isLetter  r3 z4) (fun r6 z7 => (if r6 = 0 then fn_X6_scanWord_63    z7 else bd (fn_X6_signAt  (z7.1 32 4) z7) (fun r10 z11 => bd (fn_X6_withLetter  (z7.2 32 8) r10 z11) (fun r13 z14 => nm (sJ z14 32 8 r13) (fun z15 => nm (sI z15 32 4 ((z15.1 32 4) + 1)) (fun z16 => fn_X6_scanWord_7   n (v1 + 1) z16))))))))
set_option maxHeartbeats 4000000 in
set_option maxRecDepth 100000 in
theorem pf_X6_scanWord_7 {p : Program} {l : Launch} {e : Env} {s : State} {m : MethodId} {args : Array Value} {below : List Frame} {meth : Method} {c : Code} {G : wG} (C : CX p s m args meth c cX6_scanWord 2 (wsU yX6_scanWord cX6_scanWord 2 none) RX6 none G) {Rz : St} : ∀ (n : Nat) (v1 : Int32) (z : St)  (H : Heap) (locs : List Loc) (ls : Array Slot), WP G z H → va_S (AW G) s.heap H locs → lv_has ls 2 [(0, .ref (G.2.2 32)), (1, .int v1)] → fn_X6_scanWord_7   n v1 z = some Rz → W p l e (rmd 2) s m args below meth c H locs 0 0 (QV below args s G Rz) (F0 m 7 ls []) := by
  obtain ⟨hx, hb, hml, hown, hts, hr, hlocks, hK, hG⟩ := id C
  intro n
  induction n with
  | zero => intro v1 z  H locs ls hP hS hl h; cases h
  | succ n ih =>
    intro v1 z  H locs ls hP hS hl h
    rw [fn_X6_scanWord_7] at h
    refine lv_iload_n hx hb dX6_scanWord_7 rfl (lv_at hl 1 rfl) ?_
    refine lv_sipush (v := 1600) hx hb dX6_scanWord_8 (by decide) ?_
    refine lv_icmp_ge (tgt := 63) hx hb dX6_scanWord_11 (by decide) (fun c1 => ?_) (fun c1 => ?_)
    · rw [if_pos c1] at h
      exact pf_X6_scanWord_63 C    z  hP hS (lv_sub hl [0] rfl) h
    · rw [if_neg c1] at h
      refine lv_aload_n hx hb dX6_scanWord_14 rfl (lv_at hl 0 rfl) ?_
      refine lv_aload_n hx hb dX6_scanWord_15 rfl (lv_at hl 0 rfl) ?_
      refine ge_6_4 hx hb hts (inU inW_X6) hown hK hP k_32 (hts _ (List.mem_cons_of_mem _ lw_324)) dX6_scanWord_16 ?_
      obtain ⟨r3, z4, h2, h⟩ := bd_s h
      refine x_Vi (Rz := (r3, z4)) (As := [.int (z.1 32 4)]) (rest := []) ⟨hx, hb, hml, hown, hts⟩ hK hP hS (kd_lt k_32 (by decide)) (cell_6 k_32) rfl (m_X6_signAt hG   h2) (cwV 1 hts (gV lw_781 lw_783 lw_2 lw_112 lw_784) rfl rfl rfl (by decide +kernel) (rmd_ok (by decide) (by decide))) rfl hl.1 rfl (Nat.le_of_ble_eq_true rfl) dX6_scanWord_19 ⟨Nat.le_refl _, Nat.le_refl _⟩ (fun H locs hP hS => ?_)
      obtain ⟨r6, z7, h5, h⟩ := bd_s h
      refine x_Si (Rz := (r6, z7)) (As := [.int r3]) (rest := []) ⟨hx, hb, hml, hown, hts⟩ hK hP hS (m_X6_isLetter hG   h5) (va_cwS 1 hts (gS lw_788 lw_789 lw_112 lw_790) rfl rfl rfl (by decide +kernel) (rmd_ok (by decide) (by decide))) rfl hl.1 rfl (Nat.le_of_ble_eq_true rfl) dX6_scanWord_22 ⟨Nat.le_refl _, Nat.le_refl _⟩ (fun H locs hP hS => ?_)
      refine lv_if_eq (tgt := 63) hx hb dX6_scanWord_25 (by decide) (fun c8 => ?_) (fun c8 => ?_)
      · rw [if_pos c8] at h
        exact pf_X6_scanWord_63 C    z7  hP hS (lv_sub hl [0] rfl) h
      · rw [if_neg c8] at h
        refine lv_aload_n hx hb dX6_scanWord_28 rfl (lv_at hl 0 rfl) ?_
        refine lv_aload_n hx hb dX6_scanWord_29 rfl (lv_at hl 0 rfl) ?_
        refine ge_6_8 hx hb hts (inU inW_X6) hown hK hP k_32 (hts _ (List.mem_cons_of_mem _ lw_328)) dX6_scanWord_30 ?_
        refine lv_aload_n hx hb dX6_scanWord_33 rfl (lv_at hl 0 rfl) ?_
        refine lv_aload_n hx hb dX6_scanWord_34 rfl (lv_at hl 0 rfl) ?_
        refine ge_6_4 hx hb hts (inU inW_X6) hown hK hP k_32 (hts _ (List.mem_cons_of_mem _ lw_324)) dX6_scanWord_35 ?_
        obtain ⟨r10, z11, h9, h⟩ := bd_s h
        refine x_Vi (Rz := (r10, z11)) (As := [.int (z7.1 32 4)]) (rest := [.long (z7.2 32 8), .ref (G.2.2 32)]) ⟨hx, hb, hml, hown, hts⟩ hK hP hS (kd_lt k_32 (by decide)) (cell_6 k_32) rfl (m_X6_signAt hG   h9) (cwV 1 hts (gV lw_781 lw_783 lw_2 lw_112 lw_784) rfl rfl rfl (by decide +kernel) (rmd_ok (by decide) (by decide))) rfl hl.1 rfl (Nat.le_of_ble_eq_true rfl) dX6_scanWord_38 ⟨Nat.le_refl _, Nat.le_refl _⟩ (fun H locs hP hS => ?_)
        obtain ⟨r13, z14, h12, h⟩ := bd_s h
        refine x_Sl (Rz := (r13, z14)) (As := [.long (z7.2 32 8), .int r10]) (rest := [.ref (G.2.2 32)]) ⟨hx, hb, hml, hown, hts⟩ hK hP hS (m_X6_withLetter hG   h12) (va_cwS 2 hts (gS lw_316 lw_317 lw_112 lw_318) rfl rfl rfl (by decide +kernel) (rmd_ok (by decide) (by decide))) rfl hl.1 rfl (Nat.le_of_ble_eq_true rfl) dX6_scanWord_41 ⟨Nat.le_refl _, Nat.le_refl _⟩ (fun H locs hP hS => ?_)
        obtain ⟨z15, e_z15, h⟩ := nm_s h
        refine pu_6_8 hx hb hts (inU inW_X6) hown hK hG hP hS k_32 (hts _ (List.mem_cons_of_mem _ lw_328)) dX6_scanWord_44 (fun H locs hP hS => ?_)
        rw [← e_z15] at hP
        refine lv_aload_n hx hb dX6_scanWord_47 rfl (lv_at hl 0 rfl) ?_
        refine lv_dup hx hb dX6_scanWord_48 rfl ?_
        refine ge_6_4 hx hb hts (inU inW_X6) hown hK hP k_32 (hts _ (List.mem_cons_of_mem _ lw_324)) dX6_scanWord_49 ?_
        refine lv_iconst (v := 1) hx hb dX6_scanWord_52 (by decide) ?_
        refine lv_iadd hx hb dX6_scanWord_53 ?_
        obtain ⟨z16, e_z16, h⟩ := nm_s h
        refine pu_6_4 hx hb hts (inU inW_X6) hown hK hG hP hS k_32 (hts _ (List.mem_cons_of_mem _ lw_324)) dX6_scanWord_54 (fun H locs hP hS => ?_)
        rw [← e_z16] at hP
        refine lv_iinc (v := (v1 + 1)) (lv' := [(1, .int (v1 + 1)), (0, .ref (G.2.2 32))]) hx hb dX6_scanWord_57 hl (k := 1) rfl rfl (by decide) rfl (fun ls hl => ?_)
        refine lv_goto (tgt := 7) hx hb dX6_scanWord_60 (by decide) ?_
        exact ih (v1 + 1) z16  _ _ _ hP hS (lv_sub hl [1, 0] rfl) h
def fn_X6_scanWord  (z : St) : Option (St) := nm (sJ z 32 8 0) (fun z1 => fn_X6_scanWord_7   fu 0 z1)
set_option maxHeartbeats 4000000 in
set_option maxRecDepth 100000 in
theorem m_X6_scanWord {l : Launch} {G : wG} (hG : Ok G)  {z : St} {Rz : St}  (h : fn_X6_scanWord   z = some Rz) : Met l yX6_scanWord (wsU yX6_scanWord cX6_scanWord 2 none) (rmd 2) (va_Pc [.ref (G.2.2 32)] (Pre G z)) (va_Qv (fun u => u = Rz) (Pre G) (AW G)) 0 0 (AW G) := by
  refine Met.ofW (cc := cX6_scanWord) (maxL := 2) (ret := none) (by decide) rfl ?_
  intro p e s m args below meth c s₁ B hml hv
  obtain ⟨rfl, hP, hK⟩ := hv
  have C : CX p s m ([.ref (G.2.2 32)] : List Value).toArray meth c cX6_scanWord 2 (wsU yX6_scanWord cX6_scanWord 2 none) RX6 none G := ⟨B.exec, B.bytes, hml, findClass_of_methodNamed B.named, atoms_spec (ws := (wsU yX6_scanWord cX6_scanWord 2 none)) B.pre, B.returns, B.notSynchronized, hK, hG⟩
  obtain ⟨hx, hb, -, hown, hts, hr, hlocks, -, -⟩ := id C
  have hS : va_S (AW G) s.heap s.heap [] := va_S.rf
  have hl := lv_entry [.ref (G.2.2 32)] (n := 2) (Nat.le_of_ble_eq_true rfl)
  rw [lg_entry_eq]
  generalize (lg_sl [.ref (G.2.2 32)] ++ List.replicate (2 - (lg_sl [.ref (G.2.2 32)]).length) Slot.unset).toArray = ls at hl ⊢
  have hl : lv_has ls 2 [(0, .ref (G.2.2 32))] := hl
  unfold fn_X6_scanWord at h
  refine lv_aload_n hx hb dX6_scanWord_0 rfl (lv_at hl 0 rfl) ?_
  refine lv_lconst (v := 0) hx hb dX6_scanWord_1 (by decide) ?_
  obtain ⟨z1, e_z1, h⟩ := nm_s h
  refine pu_6_8 hx hb hts (inU inW_X6) hown hK hG hP hS k_32 (hts _ (List.mem_cons_of_mem _ lw_328)) dX6_scanWord_2 (fun H locs hP hS => ?_)
  rw [← e_z1] at hP
  refine lv_iconst (v := 0) hx hb dX6_scanWord_5 (by decide) ?_
  refine lv_istore_n (lv' := [(1, .int 0), (0, .ref (G.2.2 32))]) hx hb dX6_scanWord_6 rfl hl (by decide) rfl (fun ls hl => ?_)
  exact pf_X6_scanWord_7 C   fu 0 z1  _ _ _ hP hS (lv_sub hl [1, 0] rfl) h
def fn_X6_advance_137 (tv1 : Int32) (z : St) : Option (St) := nm (sI z 32 5 tv1) (fun z1 => nm (sI z1 32 4 ((z1.1 32 4) + 1)) (fun z2 => some z2))
set_option maxHeartbeats 4000000 in
set_option maxRecDepth 100000 in
theorem pf_X6_advance_137 {p : Program} {l : Launch} {e : Env} {s : State} {m : MethodId} {args : Array Value} {below : List Frame} {meth : Method} {c : Code} {G : wG} (C : CX p s m args meth c cX6_advance 2 (wsU yX6_advance cX6_advance 2 none) RX6 none G) {Rz : St} (tv1 : Int32) (z : St)  {H : Heap} {locs : List Loc} {ls : Array Slot} (hP : WP G z H) (hS : va_S (AW G) s.heap H locs) (hl : lv_has ls 2 [(0, .ref (G.2.2 32))]) (h : fn_X6_advance_137   tv1 z = some Rz) : W p l e (rmd 3) s m args below meth c H locs 0 0 (QV below args s G Rz) (F0 m 137 ls [.int tv1, .ref (G.2.2 32)]) := by
  obtain ⟨hx, hb, hml, hown, hts, hr, hlocks, hK, hG⟩ := id C
  unfold fn_X6_advance_137 at h
  obtain ⟨z1, e_z1, h⟩ := nm_s h
  refine pu_6_5 hx hb hts (inU inW_X6) hown hK hG hP hS k_32 (hts _ (List.mem_cons_of_mem _ lw_325)) dX6_advance_137 (fun H locs hP hS => ?_)
  rw [← e_z1] at hP
  refine lv_aload_n hx hb dX6_advance_140 rfl (lv_at hl 0 rfl) ?_
  refine lv_dup hx hb dX6_advance_141 rfl ?_
  refine ge_6_4 hx hb hts (inU inW_X6) hown hK hP k_32 (hts _ (List.mem_cons_of_mem _ lw_324)) dX6_advance_142 ?_
  refine lv_iconst (v := 1) hx hb dX6_advance_145 (by decide) ?_
  refine lv_iadd hx hb dX6_advance_146 ?_
  obtain ⟨z2, e_z2, h⟩ := nm_s h
  refine pu_6_4 hx hb hts (inU inW_X6) hown hK hG hP hS k_32 (hts _ (List.mem_cons_of_mem _ lw_324)) dX6_advance_147 (fun H locs hP hS => ?_)
  rw [← e_z2] at hP
  exact x_vret hx hb hr hlocks hK hP hS h dX6_advance_150
def fn_X6_advance_50  (z : St) : Option (St) := nm (sI z 32 6 (z.1 32 4)) (fun z1 => (if (z1.1 32 4) < (z1.1 32 3) then bd (fn_X6_signAt  (z1.1 32 4) z1) (fun r4 z5 => nm (sI z5 32 10 r4) (fun z6 => bd (fn_X6_isLetter  (z6.1 32 10) z6) (fun r8 z9 => (if r8 = 0 then bd (fn_X6_isDigit  (z9.1 32 10) z9) (fun r12 z13 => (if r12 = 0 then bd (fn_X6_isMark  (z13.1 32 10) z13) (fun r16 z17 => (if r16 = 0 then fn_X6_advance_137   4 z17 else fn_X6_advance_137   3 z17)) else bv (fn_X6_scanNumber   z13) (fun z20 => some z20))) else bv (fn_X6_scanWord   z9) (fun z22 => some z22))))) else nm (sI z1 32 5 0) (fun z23 => some z23)))
set_option maxHeartbeats 4000000 in
set_option maxRecDepth 100000 in
theorem pf_X6_advance_50 {p : Program} {l : Launch} {e : Env} {s : State} {m : MethodId} {args : Array Value} {below : List Frame} {meth : Method} {c : Code} {G : wG} (C : CX p s m args meth c cX6_advance 2 (wsU yX6_advance cX6_advance 2 none) RX6 none G) {Rz : St}  (z : St)  {H : Heap} {locs : List Loc} {ls : Array Slot} (hP : WP G z H) (hS : va_S (AW G) s.heap H locs) (hl : lv_has ls 2 [(0, .ref (G.2.2 32))]) (h : fn_X6_advance_50    z = some Rz) : W p l e (rmd 3) s m args below meth c H locs 0 0 (QV below args s G Rz) (F0 m 50 ls []) := by
  obtain ⟨hx, hb, hml, hown, hts, hr, hlocks, hK, hG⟩ := id C
  unfold fn_X6_advance_50 at h
  refine lv_aload_n hx hb dX6_advance_50 rfl (lv_at hl 0 rfl) ?_
  refine lv_aload_n hx hb dX6_advance_51 rfl (lv_at hl 0 rfl) ?_
  refine ge_6_4 hx hb hts (inU inW_X6) hown hK hP k_32 (hts _ (List.mem_cons_of_mem _ lw_324)) dX6_advance_52 ?_
  obtain ⟨z1, e_z1, h⟩ := nm_s h
  refine pu_6_6 hx hb hts (inU inW_X6) hown hK hG hP hS k_32 (hts _ (List.mem_cons_of_mem _ lw_326)) dX6_advance_55 (fun H locs hP hS => ?_)
  rw [← e_z1] at hP
  refine lv_aload_n hx hb dX6_advance_58 rfl (lv_at hl 0 rfl) ?_
  refine ge_6_4 hx hb hts (inU inW_X6) hown hK hP k_32 (hts _ (List.mem_cons_of_mem _ lw_324)) dX6_advance_59 ?_
  refine lv_aload_n hx hb dX6_advance_62 rfl (lv_at hl 0 rfl) ?_
  refine ge_6_3 hx hb hts (inU inW_X6) hown hK hP k_32 (hts _ (List.mem_cons_of_mem _ lw_323)) dX6_advance_63 ?_
  refine lv_icmp_lt (tgt := 75) hx hb dX6_advance_66 (by decide) (fun c2 => ?_) (fun c2 => ?_)
  · rw [if_pos c2] at h
    refine lv_aload_n hx hb dX6_advance_75 rfl (lv_at hl 0 rfl) ?_
    refine lv_aload_n hx hb dX6_advance_76 rfl (lv_at hl 0 rfl) ?_
    refine lv_aload_n hx hb dX6_advance_77 rfl (lv_at hl 0 rfl) ?_
    refine ge_6_4 hx hb hts (inU inW_X6) hown hK hP k_32 (hts _ (List.mem_cons_of_mem _ lw_324)) dX6_advance_78 ?_
    obtain ⟨r4, z5, h3, h⟩ := bd_s h
    refine x_Vi (Rz := (r4, z5)) (As := [.int (z1.1 32 4)]) (rest := [.ref (G.2.2 32)]) ⟨hx, hb, hml, hown, hts⟩ hK hP hS (kd_lt k_32 (by decide)) (cell_6 k_32) rfl (m_X6_signAt hG   h3) (cwV 1 hts (gV lw_781 lw_783 lw_2 lw_112 lw_784) rfl rfl rfl (by decide +kernel) (rmd_ok (by decide) (by decide))) rfl hl.1 rfl (Nat.le_of_ble_eq_true rfl) dX6_advance_81 ⟨Nat.le_refl _, Nat.le_refl _⟩ (fun H locs hP hS => ?_)
    obtain ⟨z6, e_z6, h⟩ := nm_s h
    refine pu_6_10 hx hb hts (inU inW_X6) hown hK hG hP hS k_32 (hts _ (List.mem_cons_of_mem _ lw_330)) dX6_advance_84 (fun H locs hP hS => ?_)
    rw [← e_z6] at hP
    refine lv_aload_n hx hb dX6_advance_87 rfl (lv_at hl 0 rfl) ?_
    refine ge_6_10 hx hb hts (inU inW_X6) hown hK hP k_32 (hts _ (List.mem_cons_of_mem _ lw_330)) dX6_advance_88 ?_
    obtain ⟨r8, z9, h7, h⟩ := bd_s h
    refine x_Si (Rz := (r8, z9)) (As := [.int (z6.1 32 10)]) (rest := []) ⟨hx, hb, hml, hown, hts⟩ hK hP hS (m_X6_isLetter hG   h7) (va_cwS 1 hts (gS lw_788 lw_789 lw_112 lw_790) rfl rfl rfl (by decide +kernel) (rmd_ok (by decide) (by decide))) rfl hl.1 rfl (Nat.le_of_ble_eq_true rfl) dX6_advance_91 ⟨Nat.le_refl _, Nat.le_refl _⟩ (fun H locs hP hS => ?_)
    refine lv_if_eq (tgt := 104) hx hb dX6_advance_94 (by decide) (fun c10 => ?_) (fun c10 => ?_)
    · rw [if_pos c10] at h
      refine lv_aload_n hx hb dX6_advance_104 rfl (lv_at hl 0 rfl) ?_
      refine ge_6_10 hx hb hts (inU inW_X6) hown hK hP k_32 (hts _ (List.mem_cons_of_mem _ lw_330)) dX6_advance_105 ?_
      obtain ⟨r12, z13, h11, h⟩ := bd_s h
      refine x_Si (Rz := (r12, z13)) (As := [.int (z9.1 32 10)]) (rest := []) ⟨hx, hb, hml, hown, hts⟩ hK hP hS (m_X6_isDigit hG   h11) (va_cwS 1 hts (gS lw_795 lw_796 lw_112 lw_797) rfl rfl rfl (by decide +kernel) (rmd_ok (by decide) (by decide))) rfl hl.1 rfl (Nat.le_of_ble_eq_true rfl) dX6_advance_108 ⟨Nat.le_refl _, Nat.le_refl _⟩ (fun H locs hP hS => ?_)
      refine lv_if_eq (tgt := 121) hx hb dX6_advance_111 (by decide) (fun c14 => ?_) (fun c14 => ?_)
      · rw [if_pos c14] at h
        refine lv_aload_n hx hb dX6_advance_121 rfl (lv_at hl 0 rfl) ?_
        refine lv_aload_n hx hb dX6_advance_122 rfl (lv_at hl 0 rfl) ?_
        refine ge_6_10 hx hb hts (inU inW_X6) hown hK hP k_32 (hts _ (List.mem_cons_of_mem _ lw_330)) dX6_advance_123 ?_
        obtain ⟨r16, z17, h15, h⟩ := bd_s h
        refine x_Si (Rz := (r16, z17)) (As := [.int (z13.1 32 10)]) (rest := [.ref (G.2.2 32)]) ⟨hx, hb, hml, hown, hts⟩ hK hP hS (m_X6_isMark hG   h15) (va_cwS 1 hts (gS lw_802 lw_803 lw_112 lw_804) rfl rfl rfl (by decide +kernel) (rmd_ok (by decide) (by decide))) rfl hl.1 rfl (Nat.le_of_ble_eq_true rfl) dX6_advance_126 ⟨Nat.le_refl _, Nat.le_refl _⟩ (fun H locs hP hS => ?_)
        refine lv_if_eq (tgt := 136) hx hb dX6_advance_129 (by decide) (fun c18 => ?_) (fun c18 => ?_)
        · rw [if_pos c18] at h
          refine lv_iconst (v := 4) hx hb dX6_advance_136 (by decide) ?_
          exact pf_X6_advance_137 C   4 z17  hP hS (lv_sub hl [0] rfl) h
        · rw [if_neg c18] at h
          refine lv_iconst (v := 3) hx hb dX6_advance_132 (by decide) ?_
          refine lv_goto (tgt := 137) hx hb dX6_advance_133 (by decide) ?_
          exact pf_X6_advance_137 C   3 z17  hP hS (lv_sub hl [0] rfl) h
      · rw [if_neg c14] at h
        refine lv_aload_n hx hb dX6_advance_114 rfl (lv_at hl 0 rfl) ?_
        obtain ⟨z20, h19, h⟩ := bv_s h
        refine x_Vv (Rz := z20) (As := []) (rest := []) ⟨hx, hb, hml, hown, hts⟩ hK hP hS (kd_lt k_32 (by decide)) (cell_6 k_32) rfl (m_X6_scanNumber hG   h19) (cwV 0 hts (gV lw_798 lw_800 lw_4 lw_112 lw_801) rfl rfl rfl (by decide +kernel) (rmd_ok (by decide) (by decide))) rfl hl.1 rfl (Nat.le_of_ble_eq_true rfl) dX6_advance_115 ⟨Nat.le_refl _, Nat.le_refl _⟩ (fun H locs hP hS => ?_)
        refine lv_goto (tgt := 150) hx hb dX6_advance_118 (by decide) ?_
        exact x_vret hx hb hr hlocks hK hP hS h dX6_advance_150
    · rw [if_neg c10] at h
      refine lv_aload_n hx hb dX6_advance_97 rfl (lv_at hl 0 rfl) ?_
      obtain ⟨z22, h21, h⟩ := bv_s h
      refine x_Vv (Rz := z22) (As := []) (rest := []) ⟨hx, hb, hml, hown, hts⟩ hK hP hS (kd_lt k_32 (by decide)) (cell_6 k_32) rfl (m_X6_scanWord hG   h21) (cwV 0 hts (gV lw_791 lw_793 lw_3 lw_112 lw_794) rfl rfl rfl (by decide +kernel) (rmd_ok (by decide) (by decide))) rfl hl.1 rfl (Nat.le_of_ble_eq_true rfl) dX6_advance_98 ⟨Nat.le_refl _, Nat.le_refl _⟩ (fun H locs hP hS => ?_)
      refine lv_goto (tgt := 150) hx hb dX6_advance_101 (by decide) ?_
      exact x_vret hx hb hr hlocks hK hP hS h dX6_advance_150
  · rw [if_neg c2] at h
    refine lv_aload_n hx hb dX6_advance_69 rfl (lv_at hl 0 rfl) ?_
    refine lv_iconst (v := 0) hx hb dX6_advance_70 (by decide) ?_
    obtain ⟨z23, e_z23, h⟩ := nm_s h
    refine pu_6_5 hx hb hts (inU inW_X6) hown hK hG hP hS k_32 (hts _ (List.mem_cons_of_mem _ lw_325)) dX6_advance_71 (fun H locs hP hS => ?_)
    rw [← e_z23] at hP
    exact x_vret hx hb hr hlocks hK hP hS h dX6_advance_74
def fn_X6_advance_2 : Nat → Int32 → St → Option (St)
  | 0, _, _ => none
  | n + 1, v1, z => (if 1600 ≤ v1 then fn_X6_advance_50    z else (if (z.1 32 3) ≤ (z.1 32 4) then fn_X6_advance_50    z else bd (fn_X6_signAt  (z.1 32 4) z) (fun r4 z5 => bd (fn_X6_isBlank  r4 z5) (fun r7 z8 => (if r7 = 0 then fn_X6_advance_50    z8 else nm (sI z8 32 4 ((z8.1 32 4) + 1)) (fun z10 => fn_X6_advance_2   n (v1 + 1) z10))))))
set_option maxHeartbeats 4000000 in
set_option maxRecDepth 100000 in
theorem pf_X6_advance_2 {p : Program} {l : Launch} {e : Env} {s : State} {m : MethodId} {args : Array Value} {below : List Frame} {meth : Method} {c : Code} {G : wG} (C : CX p s m args meth c cX6_advance 2 (wsU yX6_advance cX6_advance 2 none) RX6 none G) {Rz : St} : ∀ (n : Nat) (v1 : Int32) (z : St)  (H : Heap) (locs : List Loc) (ls : Array Slot), WP G z H → va_S (AW G) s.heap H locs → lv_has ls 2 [(0, .ref (G.2.2 32)), (1, .int v1)] → fn_X6_advance_2   n v1 z = some Rz → W p l e (rmd 3) s m args below meth c H locs 0 0 (QV below args s G Rz) (F0 m 2 ls []) := by
  obtain ⟨hx, hb, hml, hown, hts, hr, hlocks, hK, hG⟩ := id C
  intro n
  induction n with
  | zero => intro v1 z  H locs ls hP hS hl h; cases h
  | succ n ih =>
    intro v1 z  H locs ls hP hS hl h
    rw [fn_X6_advance_2] at h
    refine lv_iload_n hx hb dX6_advance_2 rfl (lv_at hl 1 rfl) ?_
    refine lv_sipush (v := 1600) hx hb dX6_advance_3 (by decide) ?_
    refine lv_icmp_ge (tgt := 50) hx hb dX6_advance_6 (by decide) (fun c1 => ?_) (fun c1 => ?_)
    · rw [if_pos c1] at h
      exact pf_X6_advance_50 C    z  hP hS (lv_sub hl [0] rfl) h
    · rw [if_neg c1] at h
      refine lv_aload_n hx hb dX6_advance_9 rfl (lv_at hl 0 rfl) ?_
      refine ge_6_4 hx hb hts (inU inW_X6) hown hK hP k_32 (hts _ (List.mem_cons_of_mem _ lw_324)) dX6_advance_10 ?_
      refine lv_aload_n hx hb dX6_advance_13 rfl (lv_at hl 0 rfl) ?_
      refine ge_6_3 hx hb hts (inU inW_X6) hown hK hP k_32 (hts _ (List.mem_cons_of_mem _ lw_323)) dX6_advance_14 ?_
      refine lv_icmp_ge (tgt := 50) hx hb dX6_advance_17 (by decide) (fun c2 => ?_) (fun c2 => ?_)
      · rw [if_pos c2] at h
        exact pf_X6_advance_50 C    z  hP hS (lv_sub hl [0] rfl) h
      · rw [if_neg c2] at h
        refine lv_aload_n hx hb dX6_advance_20 rfl (lv_at hl 0 rfl) ?_
        refine lv_aload_n hx hb dX6_advance_21 rfl (lv_at hl 0 rfl) ?_
        refine ge_6_4 hx hb hts (inU inW_X6) hown hK hP k_32 (hts _ (List.mem_cons_of_mem _ lw_324)) dX6_advance_22 ?_
        obtain ⟨r4, z5, h3, h⟩ := bd_s h
        refine x_Vi (Rz := (r4, z5)) (As := [.int (z.1 32 4)]) (rest := []) ⟨hx, hb, hml, hown, hts⟩ hK hP hS (kd_lt k_32 (by decide)) (cell_6 k_32) rfl (m_X6_signAt hG   h3) (cwV 1 hts (gV lw_781 lw_783 lw_2 lw_112 lw_784) rfl rfl rfl (by decide +kernel) (rmd_ok (by decide) (by decide))) rfl hl.1 rfl (Nat.le_of_ble_eq_true rfl) dX6_advance_25 ⟨Nat.le_refl _, Nat.le_refl _⟩ (fun H locs hP hS => ?_)
        obtain ⟨r7, z8, h6, h⟩ := bd_s h
        refine x_Si (Rz := (r7, z8)) (As := [.int r4]) (rest := []) ⟨hx, hb, hml, hown, hts⟩ hK hP hS (m_X6_isBlank hG   h6) (va_cwS 1 hts (gS lw_785 lw_786 lw_112 lw_787) rfl rfl rfl (by decide +kernel) (rmd_ok (by decide) (by decide))) rfl hl.1 rfl (Nat.le_of_ble_eq_true rfl) dX6_advance_28 ⟨Nat.le_refl _, Nat.le_refl _⟩ (fun H locs hP hS => ?_)
        refine lv_if_eq (tgt := 50) hx hb dX6_advance_31 (by decide) (fun c9 => ?_) (fun c9 => ?_)
        · rw [if_pos c9] at h
          exact pf_X6_advance_50 C    z8  hP hS (lv_sub hl [0] rfl) h
        · rw [if_neg c9] at h
          refine lv_aload_n hx hb dX6_advance_34 rfl (lv_at hl 0 rfl) ?_
          refine lv_dup hx hb dX6_advance_35 rfl ?_
          refine ge_6_4 hx hb hts (inU inW_X6) hown hK hP k_32 (hts _ (List.mem_cons_of_mem _ lw_324)) dX6_advance_36 ?_
          refine lv_iconst (v := 1) hx hb dX6_advance_39 (by decide) ?_
          refine lv_iadd hx hb dX6_advance_40 ?_
          obtain ⟨z10, e_z10, h⟩ := nm_s h
          refine pu_6_4 hx hb hts (inU inW_X6) hown hK hG hP hS k_32 (hts _ (List.mem_cons_of_mem _ lw_324)) dX6_advance_41 (fun H locs hP hS => ?_)
          rw [← e_z10] at hP
          refine lv_iinc (v := (v1 + 1)) (lv' := [(1, .int (v1 + 1)), (0, .ref (G.2.2 32))]) hx hb dX6_advance_44 hl (k := 1) rfl rfl (by decide) rfl (fun ls hl => ?_)
          refine lv_goto (tgt := 2) hx hb dX6_advance_47 (by decide) ?_
          exact ih (v1 + 1) z10  _ _ _ hP hS (lv_sub hl [1, 0] rfl) h
def fn_X6_advance  (z : St) : Option (St) := fn_X6_advance_2   fu 0 z
set_option maxHeartbeats 4000000 in
set_option maxRecDepth 100000 in
theorem m_X6_advance {l : Launch} {G : wG} (hG : Ok G)  {z : St} {Rz : St}  (h : fn_X6_advance   z = some Rz) : Met l yX6_advance (wsU yX6_advance cX6_advance 2 none) (rmd 3) (va_Pc [.ref (G.2.2 32)] (Pre G z)) (va_Qv (fun u => u = Rz) (Pre G) (AW G)) 0 0 (AW G) := by
  refine Met.ofW (cc := cX6_advance) (maxL := 2) (ret := none) (by decide) rfl ?_
  intro p e s m args below meth c s₁ B hml hv
  obtain ⟨rfl, hP, hK⟩ := hv
  have C : CX p s m ([.ref (G.2.2 32)] : List Value).toArray meth c cX6_advance 2 (wsU yX6_advance cX6_advance 2 none) RX6 none G := ⟨B.exec, B.bytes, hml, findClass_of_methodNamed B.named, atoms_spec (ws := (wsU yX6_advance cX6_advance 2 none)) B.pre, B.returns, B.notSynchronized, hK, hG⟩
  obtain ⟨hx, hb, -, hown, hts, hr, hlocks, -, -⟩ := id C
  have hS : va_S (AW G) s.heap s.heap [] := va_S.rf
  have hl := lv_entry [.ref (G.2.2 32)] (n := 2) (Nat.le_of_ble_eq_true rfl)
  rw [lg_entry_eq]
  generalize (lg_sl [.ref (G.2.2 32)] ++ List.replicate (2 - (lg_sl [.ref (G.2.2 32)]).length) Slot.unset).toArray = ls at hl ⊢
  have hl : lv_has ls 2 [(0, .ref (G.2.2 32))] := hl
  unfold fn_X6_advance at h
  refine lv_iconst (v := 0) hx hb dX6_advance_0 (by decide) ?_
  refine lv_istore_n (lv' := [(1, .int 0), (0, .ref (G.2.2 32))]) hx hb dX6_advance_1 rfl hl (by decide) rfl (fun ls hl => ?_)
  exact pf_X6_advance_2 C   fu 0 z  _ _ _ hP hS (lv_sub hl [1, 0] rfl) h
def fn_X6_isKeyword (v1 : Int32) (z : St) : Option (Int32 × St) := (if (z.1 32 11) = 0 then (if (z.1 32 5) = 1 then (if (z.1 32 9) = v1 then some (1, z) else some (0, z)) else some (0, z)) else some (0, z))
set_option maxHeartbeats 4000000 in
set_option maxRecDepth 100000 in
theorem m_X6_isKeyword {l : Launch} {G : wG} (hG : Ok G) {v1 : Int32} {z : St} {Rz : Int32 × St}  (h : fn_X6_isKeyword  v1 z = some Rz) : Met l yX6_isKeyword (wsU yX6_isKeyword cX6_isKeyword 2 (some .boolean)) (rmd 1) (va_Pc [.ref (G.2.2 32), .int v1] (Pre G z)) (va_Qi (fun r u => (r, u) = Rz) (Pre G) (AW G)) 0 0 (AW G) := by
  refine Met.ofW (cc := cX6_isKeyword) (maxL := 2) (ret := (some .boolean)) (by decide) rfl ?_
  intro p e s m args below meth c s₁ B hml hv
  obtain ⟨rfl, hP, hK⟩ := hv
  have C : CX p s m ([.ref (G.2.2 32), .int v1] : List Value).toArray meth c cX6_isKeyword 2 (wsU yX6_isKeyword cX6_isKeyword 2 (some .boolean)) RX6 (some .boolean) G := ⟨B.exec, B.bytes, hml, findClass_of_methodNamed B.named, atoms_spec (ws := (wsU yX6_isKeyword cX6_isKeyword 2 (some .boolean))) B.pre, B.returns, B.notSynchronized, hK, hG⟩
  obtain ⟨hx, hb, -, hown, hts, hr, hlocks, -, -⟩ := id C
  have hS : va_S (AW G) s.heap s.heap [] := va_S.rf
  have hl := lv_entry [.ref (G.2.2 32), .int v1] (n := 2) (Nat.le_of_ble_eq_true rfl)
  rw [lg_entry_eq]
  generalize (lg_sl [.ref (G.2.2 32), .int v1] ++ List.replicate (2 - (lg_sl [.ref (G.2.2 32), .int v1]).length) Slot.unset).toArray = ls at hl ⊢
  have hl : lv_has ls 2 [(0, .ref (G.2.2 32)), (1, .int v1)] := hl
  unfold fn_X6_isKeyword at h
  refine lv_aload_n hx hb dX6_isKeyword_0 rfl (lv_at hl 0 rfl) ?_
  refine ge_6_11 hx hb hts (inU inW_X6) hown hK hP k_32 (hts _ (List.mem_cons_of_mem _ lw_331)) dX6_isKeyword_1 ?_
  refine lv_if_ne (tgt := 27) hx hb dX6_isKeyword_4 (by decide) (fun c1 => ?_) (fun c1 => ?_)
  · rw [if_neg c1] at h
    refine lv_iconst (v := 0) hx hb dX6_isKeyword_27 (by decide) ?_
    exact x_zret hx hb hr hlocks hK hP hS rfl h dX6_isKeyword_28
  · rw [if_pos c1] at h
    refine lv_aload_n hx hb dX6_isKeyword_7 rfl (lv_at hl 0 rfl) ?_
    refine ge_6_5 hx hb hts (inU inW_X6) hown hK hP k_32 (hts _ (List.mem_cons_of_mem _ lw_325)) dX6_isKeyword_8 ?_
    refine lv_iconst (v := 1) hx hb dX6_isKeyword_11 (by decide) ?_
    refine lv_icmp_ne (tgt := 27) hx hb dX6_isKeyword_12 (by decide) (fun c2 => ?_) (fun c2 => ?_)
    · rw [if_neg c2] at h
      refine lv_iconst (v := 0) hx hb dX6_isKeyword_27 (by decide) ?_
      exact x_zret hx hb hr hlocks hK hP hS rfl h dX6_isKeyword_28
    · rw [if_pos c2] at h
      refine lv_aload_n hx hb dX6_isKeyword_15 rfl (lv_at hl 0 rfl) ?_
      refine ge_6_9 hx hb hts (inU inW_X6) hown hK hP k_32 (hts _ (List.mem_cons_of_mem _ lw_329)) dX6_isKeyword_16 ?_
      refine lv_iload_n hx hb dX6_isKeyword_19 rfl (lv_at hl 1 rfl) ?_
      refine lv_icmp_ne (tgt := 27) hx hb dX6_isKeyword_20 (by decide) (fun c3 => ?_) (fun c3 => ?_)
      · rw [if_neg c3] at h
        refine lv_iconst (v := 0) hx hb dX6_isKeyword_27 (by decide) ?_
        exact x_zret hx hb hr hlocks hK hP hS rfl h dX6_isKeyword_28
      · rw [if_pos c3] at h
        refine lv_iconst (v := 1) hx hb dX6_isKeyword_23 (by decide) ?_
        refine lv_goto (tgt := 28) hx hb dX6_isKeyword_24 (by decide) ?_
        exact x_zret hx hb hr hlocks hK hP hS rfl h dX6_isKeyword_28
def fn_X6_keepFault (v1 : Int32) (z : St) : Option (St) := (if (z.1 32 11) = 0 then nm (sI z 32 11 v1) (fun z2 => nm (sI z2 32 12 (z2.1 32 6)) (fun z3 => some z3)) else some z)
set_option maxHeartbeats 4000000 in
set_option maxRecDepth 100000 in
theorem m_X6_keepFault {l : Launch} {G : wG} (hG : Ok G) {v1 : Int32} {z : St} {Rz : St}  (h : fn_X6_keepFault  v1 z = some Rz) : Met l yX6_keepFault (wsU yX6_keepFault cX6_keepFault 2 none) (rmd 1) (va_Pc [.ref (G.2.2 32), .int v1] (Pre G z)) (va_Qv (fun u => u = Rz) (Pre G) (AW G)) 0 0 (AW G) := by
  refine Met.ofW (cc := cX6_keepFault) (maxL := 2) (ret := none) (by decide) rfl ?_
  intro p e s m args below meth c s₁ B hml hv
  obtain ⟨rfl, hP, hK⟩ := hv
  have C : CX p s m ([.ref (G.2.2 32), .int v1] : List Value).toArray meth c cX6_keepFault 2 (wsU yX6_keepFault cX6_keepFault 2 none) RX6 none G := ⟨B.exec, B.bytes, hml, findClass_of_methodNamed B.named, atoms_spec (ws := (wsU yX6_keepFault cX6_keepFault 2 none)) B.pre, B.returns, B.notSynchronized, hK, hG⟩
  obtain ⟨hx, hb, -, hown, hts, hr, hlocks, -, -⟩ := id C
  have hS : va_S (AW G) s.heap s.heap [] := va_S.rf
  have hl := lv_entry [.ref (G.2.2 32), .int v1] (n := 2) (Nat.le_of_ble_eq_true rfl)
  rw [lg_entry_eq]
  generalize (lg_sl [.ref (G.2.2 32), .int v1] ++ List.replicate (2 - (lg_sl [.ref (G.2.2 32), .int v1]).length) Slot.unset).toArray = ls at hl ⊢
  have hl : lv_has ls 2 [(0, .ref (G.2.2 32)), (1, .int v1)] := hl
  unfold fn_X6_keepFault at h
  refine lv_aload_n hx hb dX6_keepFault_0 rfl (lv_at hl 0 rfl) ?_
  refine ge_6_11 hx hb hts (inU inW_X6) hown hK hP k_32 (hts _ (List.mem_cons_of_mem _ lw_331)) dX6_keepFault_1 ?_
  refine lv_if_ne (tgt := 20) hx hb dX6_keepFault_4 (by decide) (fun c1 => ?_) (fun c1 => ?_)
  · rw [if_neg c1] at h
    exact x_vret hx hb hr hlocks hK hP hS h dX6_keepFault_20
  · rw [if_pos c1] at h
    refine lv_aload_n hx hb dX6_keepFault_7 rfl (lv_at hl 0 rfl) ?_
    refine lv_iload_n hx hb dX6_keepFault_8 rfl (lv_at hl 1 rfl) ?_
    obtain ⟨z2, e_z2, h⟩ := nm_s h
    refine pu_6_11 hx hb hts (inU inW_X6) hown hK hG hP hS k_32 (hts _ (List.mem_cons_of_mem _ lw_331)) dX6_keepFault_9 (fun H locs hP hS => ?_)
    rw [← e_z2] at hP
    refine lv_aload_n hx hb dX6_keepFault_12 rfl (lv_at hl 0 rfl) ?_
    refine lv_aload_n hx hb dX6_keepFault_13 rfl (lv_at hl 0 rfl) ?_
    refine ge_6_6 hx hb hts (inU inW_X6) hown hK hP k_32 (hts _ (List.mem_cons_of_mem _ lw_326)) dX6_keepFault_14 ?_
    obtain ⟨z3, e_z3, h⟩ := nm_s h
    refine pu_6_12 hx hb hts (inU inW_X6) hown hK hG hP hS k_32 (hts _ (List.mem_cons_of_mem _ lw_333)) dX6_keepFault_17 (fun H locs hP hS => ?_)
    rw [← e_z3] at hP
    exact x_vret hx hb hr hlocks hK hP hS h dX6_keepFault_20
def fn_X6_refuse_14 (tv1 : Int32) (z : St) : Option (St) := bv (fn_X6_keepFault  tv1 z) (fun z2 => some z2)
set_option maxHeartbeats 4000000 in
set_option maxRecDepth 100000 in
theorem pf_X6_refuse_14 {p : Program} {l : Launch} {e : Env} {s : State} {m : MethodId} {args : Array Value} {below : List Frame} {meth : Method} {c : Code} {G : wG} (C : CX p s m args meth c cX6_refuse 1 (wsU yX6_refuse cX6_refuse 1 none) RX6 none G) {Rz : St} (tv1 : Int32) (z : St)  {H : Heap} {locs : List Loc} {ls : Array Slot} (hP : WP G z H) (hS : va_S (AW G) s.heap H locs) (hl : lv_has ls 1 []) (h : fn_X6_refuse_14   tv1 z = some Rz) : W p l e (rmd 2) s m args below meth c H locs 0 0 (QV below args s G Rz) (F0 m 14 ls [.int tv1, .ref (G.2.2 32)]) := by
  obtain ⟨hx, hb, hml, hown, hts, hr, hlocks, hK, hG⟩ := id C
  unfold fn_X6_refuse_14 at h
  obtain ⟨z2, h1, h⟩ := bv_s h
  refine x_Vv (Rz := z2) (As := [.int tv1]) (rest := []) ⟨hx, hb, hml, hown, hts⟩ hK hP hS (kd_lt k_32 (by decide)) (cell_6 k_32) rfl (m_X6_keepFault hG   h1) (cwV 1 hts (gV lw_817 lw_819 lw_8 lw_112 lw_820) rfl rfl rfl (by decide +kernel) (rmd_ok (by decide) (by decide))) rfl hl.1 rfl (Nat.le_of_ble_eq_true rfl) dX6_refuse_14 ⟨Nat.le_refl _, Nat.le_refl _⟩ (fun H locs hP hS => ?_)
  exact x_vret hx hb hr hlocks hK hP hS h dX6_refuse_17
def fn_X6_refuse  (z : St) : Option (St) := (if (z.1 32 5) = 4 then fn_X6_refuse_14   1 z else fn_X6_refuse_14   2 z)
set_option maxHeartbeats 4000000 in
set_option maxRecDepth 100000 in
theorem m_X6_refuse {l : Launch} {G : wG} (hG : Ok G)  {z : St} {Rz : St}  (h : fn_X6_refuse   z = some Rz) : Met l yX6_refuse (wsU yX6_refuse cX6_refuse 1 none) (rmd 2) (va_Pc [.ref (G.2.2 32)] (Pre G z)) (va_Qv (fun u => u = Rz) (Pre G) (AW G)) 0 0 (AW G) := by
  refine Met.ofW (cc := cX6_refuse) (maxL := 1) (ret := none) (by decide) rfl ?_
  intro p e s m args below meth c s₁ B hml hv
  obtain ⟨rfl, hP, hK⟩ := hv
  have C : CX p s m ([.ref (G.2.2 32)] : List Value).toArray meth c cX6_refuse 1 (wsU yX6_refuse cX6_refuse 1 none) RX6 none G := ⟨B.exec, B.bytes, hml, findClass_of_methodNamed B.named, atoms_spec (ws := (wsU yX6_refuse cX6_refuse 1 none)) B.pre, B.returns, B.notSynchronized, hK, hG⟩
  obtain ⟨hx, hb, -, hown, hts, hr, hlocks, -, -⟩ := id C
  have hS : va_S (AW G) s.heap s.heap [] := va_S.rf
  have hl := lv_entry [.ref (G.2.2 32)] (n := 1) (Nat.le_of_ble_eq_true rfl)
  rw [lg_entry_eq]
  generalize (lg_sl [.ref (G.2.2 32)] ++ List.replicate (1 - (lg_sl [.ref (G.2.2 32)]).length) Slot.unset).toArray = ls at hl ⊢
  have hl : lv_has ls 1 [(0, .ref (G.2.2 32))] := hl
  unfold fn_X6_refuse at h
  refine lv_aload_n hx hb dX6_refuse_0 rfl (lv_at hl 0 rfl) ?_
  refine lv_aload_n hx hb dX6_refuse_1 rfl (lv_at hl 0 rfl) ?_
  refine ge_6_5 hx hb hts (inU inW_X6) hown hK hP k_32 (hts _ (List.mem_cons_of_mem _ lw_325)) dX6_refuse_2 ?_
  refine lv_iconst (v := 4) hx hb dX6_refuse_5 (by decide) ?_
  refine lv_icmp_ne (tgt := 13) hx hb dX6_refuse_6 (by decide) (fun c1 => ?_) (fun c1 => ?_)
  · rw [if_neg c1] at h
    refine lv_iconst (v := 2) hx hb dX6_refuse_13 (by decide) ?_
    exact pf_X6_refuse_14 C   2 z  hP hS (lv_sub hl [] rfl) h
  · rw [if_pos c1] at h
    refine lv_iconst (v := 1) hx hb dX6_refuse_9 (by decide) ?_
    refine lv_goto (tgt := 14) hx hb dX6_refuse_10 (by decide) ?_
    exact pf_X6_refuse_14 C   1 z  hP hS (lv_sub hl [] rfl) h
def fn_X6_expectKeyword (v1 : Int32) (z : St) : Option (St) := bd (fn_X6_isKeyword  v1 z) (fun r2 z3 => (if r2 = 0 then bv (fn_X6_refuse   z3) (fun z6 => some z6) else bv (fn_X6_advance   z3) (fun z8 => some z8)))
set_option maxHeartbeats 4000000 in
set_option maxRecDepth 100000 in
theorem m_X6_expectKeyword {l : Launch} {G : wG} (hG : Ok G) {v1 : Int32} {z : St} {Rz : St}  (h : fn_X6_expectKeyword  v1 z = some Rz) : Met l yX6_expectKeyword (wsU yX6_expectKeyword cX6_expectKeyword 2 none) (rmd 4) (va_Pc [.ref (G.2.2 32), .int v1] (Pre G z)) (va_Qv (fun u => u = Rz) (Pre G) (AW G)) 0 0 (AW G) := by
  refine Met.ofW (cc := cX6_expectKeyword) (maxL := 2) (ret := none) (by decide) rfl ?_
  intro p e s m args below meth c s₁ B hml hv
  obtain ⟨rfl, hP, hK⟩ := hv
  have C : CX p s m ([.ref (G.2.2 32), .int v1] : List Value).toArray meth c cX6_expectKeyword 2 (wsU yX6_expectKeyword cX6_expectKeyword 2 none) RX6 none G := ⟨B.exec, B.bytes, hml, findClass_of_methodNamed B.named, atoms_spec (ws := (wsU yX6_expectKeyword cX6_expectKeyword 2 none)) B.pre, B.returns, B.notSynchronized, hK, hG⟩
  obtain ⟨hx, hb, -, hown, hts, hr, hlocks, -, -⟩ := id C
  have hS : va_S (AW G) s.heap s.heap [] := va_S.rf
  have hl := lv_entry [.ref (G.2.2 32), .int v1] (n := 2) (Nat.le_of_ble_eq_true rfl)
  rw [lg_entry_eq]
  generalize (lg_sl [.ref (G.2.2 32), .int v1] ++ List.replicate (2 - (lg_sl [.ref (G.2.2 32), .int v1]).length) Slot.unset).toArray = ls at hl ⊢
  have hl : lv_has ls 2 [(0, .ref (G.2.2 32)), (1, .int v1)] := hl
  unfold fn_X6_expectKeyword at h
  refine lv_aload_n hx hb dX6_expectKeyword_0 rfl (lv_at hl 0 rfl) ?_
  refine lv_iload_n hx hb dX6_expectKeyword_1 rfl (lv_at hl 1 rfl) ?_
  obtain ⟨r2, z3, h1, h⟩ := bd_s h
  refine x_Vi (Rz := (r2, z3)) (As := [.int v1]) (rest := []) ⟨hx, hb, hml, hown, hts⟩ hK hP hS (kd_lt k_32 (by decide)) (cell_6 k_32) rfl (m_X6_isKeyword hG   h1) (cwV 1 hts (gV lw_833 lw_835 lw_12 lw_112 lw_836) rfl rfl rfl (by decide +kernel) (rmd_ok (by decide) (by decide))) rfl hl.1 rfl (Nat.le_of_ble_eq_true rfl) dX6_expectKeyword_2 ⟨Nat.le_refl _, Nat.le_refl _⟩ (fun H locs hP hS => ?_)
  refine lv_if_eq (tgt := 15) hx hb dX6_expectKeyword_5 (by decide) (fun c4 => ?_) (fun c4 => ?_)
  · rw [if_pos c4] at h
    refine lv_aload_n hx hb dX6_expectKeyword_15 rfl (lv_at hl 0 rfl) ?_
    obtain ⟨z6, h5, h⟩ := bv_s h
    refine x_Vv (Rz := z6) (As := []) (rest := []) ⟨hx, hb, hml, hown, hts⟩ hK hP hS (kd_lt k_32 (by decide)) (cell_6 k_32) rfl (m_X6_refuse hG   h5) (cwV 0 hts (gV lw_813 lw_815 lw_7 lw_112 lw_816) rfl rfl rfl (by decide +kernel) (rmd_ok (by decide) (by decide))) rfl hl.1 rfl (Nat.le_of_ble_eq_true rfl) dX6_expectKeyword_16 ⟨Nat.le_refl _, Nat.le_refl _⟩ (fun H locs hP hS => ?_)
    exact x_vret hx hb hr hlocks hK hP hS h dX6_expectKeyword_19
  · rw [if_neg c4] at h
    refine lv_aload_n hx hb dX6_expectKeyword_8 rfl (lv_at hl 0 rfl) ?_
    obtain ⟨z8, h7, h⟩ := bv_s h
    refine x_Vv (Rz := z8) (As := []) (rest := []) ⟨hx, hb, hml, hown, hts⟩ hK hP hS (kd_lt k_32 (by decide)) (cell_6 k_32) rfl (m_X6_advance hG   h7) (cwV 0 hts (gV lw_777 lw_779 lw_1 lw_112 lw_780) rfl rfl rfl (by decide +kernel) (rmd_ok (by decide) (by decide))) rfl hl.1 rfl (Nat.le_of_ble_eq_true rfl) dX6_expectKeyword_9 ⟨Nat.le_refl _, Nat.le_refl _⟩ (fun H locs hP hS => ?_)
    refine lv_goto (tgt := 19) hx hb dX6_expectKeyword_12 (by decide) ?_
    exact x_vret hx hb hr hlocks hK hP hS h dX6_expectKeyword_19
def fn_X6_isSign (v1 : Int32) (z : St) : Option (Int32 × St) := (if (z.1 32 11) = 0 then (if (z.1 32 5) = 3 then (if (z.1 32 10) = v1 then some (1, z) else some (0, z)) else some (0, z)) else some (0, z))
set_option maxHeartbeats 4000000 in
set_option maxRecDepth 100000 in
theorem m_X6_isSign {l : Launch} {G : wG} (hG : Ok G) {v1 : Int32} {z : St} {Rz : Int32 × St}  (h : fn_X6_isSign  v1 z = some Rz) : Met l yX6_isSign (wsU yX6_isSign cX6_isSign 2 (some .boolean)) (rmd 1) (va_Pc [.ref (G.2.2 32), .int v1] (Pre G z)) (va_Qi (fun r u => (r, u) = Rz) (Pre G) (AW G)) 0 0 (AW G) := by
  refine Met.ofW (cc := cX6_isSign) (maxL := 2) (ret := (some .boolean)) (by decide) rfl ?_
  intro p e s m args below meth c s₁ B hml hv
  obtain ⟨rfl, hP, hK⟩ := hv
  have C : CX p s m ([.ref (G.2.2 32), .int v1] : List Value).toArray meth c cX6_isSign 2 (wsU yX6_isSign cX6_isSign 2 (some .boolean)) RX6 (some .boolean) G := ⟨B.exec, B.bytes, hml, findClass_of_methodNamed B.named, atoms_spec (ws := (wsU yX6_isSign cX6_isSign 2 (some .boolean))) B.pre, B.returns, B.notSynchronized, hK, hG⟩
  obtain ⟨hx, hb, -, hown, hts, hr, hlocks, -, -⟩ := id C
  have hS : va_S (AW G) s.heap s.heap [] := va_S.rf
  have hl := lv_entry [.ref (G.2.2 32), .int v1] (n := 2) (Nat.le_of_ble_eq_true rfl)
  rw [lg_entry_eq]
  generalize (lg_sl [.ref (G.2.2 32), .int v1] ++ List.replicate (2 - (lg_sl [.ref (G.2.2 32), .int v1]).length) Slot.unset).toArray = ls at hl ⊢
  have hl : lv_has ls 2 [(0, .ref (G.2.2 32)), (1, .int v1)] := hl
  unfold fn_X6_isSign at h
  refine lv_aload_n hx hb dX6_isSign_0 rfl (lv_at hl 0 rfl) ?_
  refine ge_6_11 hx hb hts (inU inW_X6) hown hK hP k_32 (hts _ (List.mem_cons_of_mem _ lw_331)) dX6_isSign_1 ?_
  refine lv_if_ne (tgt := 27) hx hb dX6_isSign_4 (by decide) (fun c1 => ?_) (fun c1 => ?_)
  · rw [if_neg c1] at h
    refine lv_iconst (v := 0) hx hb dX6_isSign_27 (by decide) ?_
    exact x_zret hx hb hr hlocks hK hP hS rfl h dX6_isSign_28
  · rw [if_pos c1] at h
    refine lv_aload_n hx hb dX6_isSign_7 rfl (lv_at hl 0 rfl) ?_
    refine ge_6_5 hx hb hts (inU inW_X6) hown hK hP k_32 (hts _ (List.mem_cons_of_mem _ lw_325)) dX6_isSign_8 ?_
    refine lv_iconst (v := 3) hx hb dX6_isSign_11 (by decide) ?_
    refine lv_icmp_ne (tgt := 27) hx hb dX6_isSign_12 (by decide) (fun c2 => ?_) (fun c2 => ?_)
    · rw [if_neg c2] at h
      refine lv_iconst (v := 0) hx hb dX6_isSign_27 (by decide) ?_
      exact x_zret hx hb hr hlocks hK hP hS rfl h dX6_isSign_28
    · rw [if_pos c2] at h
      refine lv_aload_n hx hb dX6_isSign_15 rfl (lv_at hl 0 rfl) ?_
      refine ge_6_10 hx hb hts (inU inW_X6) hown hK hP k_32 (hts _ (List.mem_cons_of_mem _ lw_330)) dX6_isSign_16 ?_
      refine lv_iload_n hx hb dX6_isSign_19 rfl (lv_at hl 1 rfl) ?_
      refine lv_icmp_ne (tgt := 27) hx hb dX6_isSign_20 (by decide) (fun c3 => ?_) (fun c3 => ?_)
      · rw [if_neg c3] at h
        refine lv_iconst (v := 0) hx hb dX6_isSign_27 (by decide) ?_
        exact x_zret hx hb hr hlocks hK hP hS rfl h dX6_isSign_28
      · rw [if_pos c3] at h
        refine lv_iconst (v := 1) hx hb dX6_isSign_23 (by decide) ?_
        refine lv_goto (tgt := 28) hx hb dX6_isSign_24 (by decide) ?_
        exact x_zret hx hb hr hlocks hK hP hS rfl h dX6_isSign_28
def fn_X6_expectSign (v1 : Int32) (z : St) : Option (St) := bd (fn_X6_isSign  v1 z) (fun r2 z3 => (if r2 = 0 then bv (fn_X6_refuse   z3) (fun z6 => some z6) else bv (fn_X6_advance   z3) (fun z8 => some z8)))
set_option maxHeartbeats 4000000 in
set_option maxRecDepth 100000 in
theorem m_X6_expectSign {l : Launch} {G : wG} (hG : Ok G) {v1 : Int32} {z : St} {Rz : St}  (h : fn_X6_expectSign  v1 z = some Rz) : Met l yX6_expectSign (wsU yX6_expectSign cX6_expectSign 2 none) (rmd 4) (va_Pc [.ref (G.2.2 32), .int v1] (Pre G z)) (va_Qv (fun u => u = Rz) (Pre G) (AW G)) 0 0 (AW G) := by
  refine Met.ofW (cc := cX6_expectSign) (maxL := 2) (ret := none) (by decide) rfl ?_
  intro p e s m args below meth c s₁ B hml hv
  obtain ⟨rfl, hP, hK⟩ := hv
  have C : CX p s m ([.ref (G.2.2 32), .int v1] : List Value).toArray meth c cX6_expectSign 2 (wsU yX6_expectSign cX6_expectSign 2 none) RX6 none G := ⟨B.exec, B.bytes, hml, findClass_of_methodNamed B.named, atoms_spec (ws := (wsU yX6_expectSign cX6_expectSign 2 none)) B.pre, B.returns, B.notSynchronized, hK, hG⟩
  obtain ⟨hx, hb, -, hown, hts, hr, hlocks, -, -⟩ := id C
  have hS : va_S (AW G) s.heap s.heap [] := va_S.rf
  have hl := lv_entry [.ref (G.2.2 32), .int v1] (n := 2) (Nat.le_of_ble_eq_true rfl)
  rw [lg_entry_eq]
  generalize (lg_sl [.ref (G.2.2 32), .int v1] ++ List.replicate (2 - (lg_sl [.ref (G.2.2 32), .int v1]).length) Slot.unset).toArray = ls at hl ⊢
  have hl : lv_has ls 2 [(0, .ref (G.2.2 32)), (1, .int v1)] := hl
  unfold fn_X6_expectSign at h
  refine lv_aload_n hx hb dX6_expectSign_0 rfl (lv_at hl 0 rfl) ?_
  refine lv_iload_n hx hb dX6_expectSign_1 rfl (lv_at hl 1 rfl) ?_
  obtain ⟨r2, z3, h1, h⟩ := bd_s h
  refine x_Vi (Rz := (r2, z3)) (As := [.int v1]) (rest := []) ⟨hx, hb, hml, hown, hts⟩ hK hP hS (kd_lt k_32 (by decide)) (cell_6 k_32) rfl (m_X6_isSign hG   h1) (cwV 1 hts (gV lw_841 lw_843 lw_14 lw_112 lw_844) rfl rfl rfl (by decide +kernel) (rmd_ok (by decide) (by decide))) rfl hl.1 rfl (Nat.le_of_ble_eq_true rfl) dX6_expectSign_2 ⟨Nat.le_refl _, Nat.le_refl _⟩ (fun H locs hP hS => ?_)
  refine lv_if_eq (tgt := 15) hx hb dX6_expectSign_5 (by decide) (fun c4 => ?_) (fun c4 => ?_)
  · rw [if_pos c4] at h
    refine lv_aload_n hx hb dX6_expectSign_15 rfl (lv_at hl 0 rfl) ?_
    obtain ⟨z6, h5, h⟩ := bv_s h
    refine x_Vv (Rz := z6) (As := []) (rest := []) ⟨hx, hb, hml, hown, hts⟩ hK hP hS (kd_lt k_32 (by decide)) (cell_6 k_32) rfl (m_X6_refuse hG   h5) (cwV 0 hts (gV lw_813 lw_815 lw_7 lw_112 lw_816) rfl rfl rfl (by decide +kernel) (rmd_ok (by decide) (by decide))) rfl hl.1 rfl (Nat.le_of_ble_eq_true rfl) dX6_expectSign_16 ⟨Nat.le_refl _, Nat.le_refl _⟩ (fun H locs hP hS => ?_)
    exact x_vret hx hb hr hlocks hK hP hS h dX6_expectSign_19
  · rw [if_neg c4] at h
    refine lv_aload_n hx hb dX6_expectSign_8 rfl (lv_at hl 0 rfl) ?_
    obtain ⟨z8, h7, h⟩ := bv_s h
    refine x_Vv (Rz := z8) (As := []) (rest := []) ⟨hx, hb, hml, hown, hts⟩ hK hP hS (kd_lt k_32 (by decide)) (cell_6 k_32) rfl (m_X6_advance hG   h7) (cwV 0 hts (gV lw_777 lw_779 lw_1 lw_112 lw_780) rfl rfl rfl (by decide +kernel) (rmd_ok (by decide) (by decide))) rfl hl.1 rfl (Nat.le_of_ble_eq_true rfl) dX6_expectSign_9 ⟨Nat.le_refl _, Nat.le_refl _⟩ (fun H locs hP hS => ?_)
    refine lv_goto (tgt := 19) hx hb dX6_expectSign_12 (by decide) ?_
    exact x_vret hx hb hr hlocks hK hP hS h dX6_expectSign_19
def fn_X6_newName_29  (z : St) : Option (St) := bv (fn_X6_refuse   z) (fun z2 => some z2)
set_option maxHeartbeats 4000000 in
set_option maxRecDepth 100000 in
theorem pf_X6_newName_29 {p : Program} {l : Launch} {e : Env} {s : State} {m : MethodId} {args : Array Value} {below : List Frame} {meth : Method} {c : Code} {G : wG} (C : CX p s m args meth c cX6_newName 4 (wsU yX6_newName cX6_newName 4 none) RX6 none G) {Rz : St}  (z : St)  {H : Heap} {locs : List Loc} {ls : Array Slot} (hP : WP G z H) (hS : va_S (AW G) s.heap H locs) (hl : lv_has ls 4 [(0, .ref (G.2.2 32))]) (h : fn_X6_newName_29    z = some Rz) : W p l e (rmd 4) s m args below meth c H locs 0 0 (QV below args s G Rz) (F0 m 29 ls []) := by
  obtain ⟨hx, hb, hml, hown, hts, hr, hlocks, hK, hG⟩ := id C
  unfold fn_X6_newName_29 at h
  refine lv_aload_n hx hb dX6_newName_29 rfl (lv_at hl 0 rfl) ?_
  obtain ⟨z2, h1, h⟩ := bv_s h
  refine x_Vv (Rz := z2) (As := []) (rest := []) ⟨hx, hb, hml, hown, hts⟩ hK hP hS (kd_lt k_32 (by decide)) (cell_6 k_32) rfl (m_X6_refuse hG   h1) (cwV 0 hts (gV lw_813 lw_815 lw_7 lw_112 lw_816) rfl rfl rfl (by decide +kernel) (rmd_ok (by decide) (by decide))) rfl hl.1 rfl (Nat.le_of_ble_eq_true rfl) dX6_newName_30 ⟨Nat.le_refl _, Nat.le_refl _⟩ (fun H locs hP hS => ?_)
  exact x_vret hx hb hr hlocks hK hP hS h dX6_newName_33
def fn_X6_newName_36 : Nat → Nat → Int32 → Int32 → St → Option (St)
  | 0, _, _, _, _ => none
  | n + 1, p1, v2, v3, z => (if v2 ≤ v3 then gd (ix v2 (ln p1)) (nm (sJ z p1 (Int32.toNatClampNeg v2) (z.2 32 8)) (fun z3 => bv (fn_X6_advance   z3) (fun z5 => some z5))) else gd (ix v3 (ln p1)) ((if (lg_cmp (z.2 p1 (Int32.toNatClampNeg v3)) (z.2 32 8)) = 0 then bv (fn_X6_keepFault  3 z) (fun z9 => some z9) else fn_X6_newName_36   n p1 v2 (v3 + 1) z)))
set_option maxHeartbeats 4000000 in
set_option maxRecDepth 100000 in
theorem pf_X6_newName_36 {p : Program} {l : Launch} {e : Env} {s : State} {m : MethodId} {args : Array Value} {below : List Frame} {meth : Method} {c : Code} {G : wG} (C : CX p s m args meth c cX6_newName 4 (wsU yX6_newName cX6_newName 4 none) RX6 none G) {Rz : St} : ∀ (n : Nat) (p1 : Nat) (v2 : Int32) (v3 : Int32) (z : St) (hk1 : kd p1 = 15) (H : Heap) (locs : List Loc) (ls : Array Slot), WP G z H → va_S (AW G) s.heap H locs → lv_has ls 4 [(0, .ref (G.2.2 32)), (1, .ref (G.2.2 p1)), (2, .int v2), (3, .int v3)] → fn_X6_newName_36   n p1 v2 v3 z = some Rz → W p l e (rmd 4) s m args below meth c H locs 0 0 (QV below args s G Rz) (F0 m 36 ls []) := by
  obtain ⟨hx, hb, hml, hown, hts, hr, hlocks, hK, hG⟩ := id C
  intro n
  induction n with
  | zero => intro p1 v2 v3 z hk1 H locs ls hP hS hl h; cases h
  | succ n ih =>
    intro p1 v2 v3 z hk1 H locs ls hP hS hl h
    rw [fn_X6_newName_36] at h
    refine lv_iload_n hx hb dX6_newName_36 rfl (lv_at hl 3 rfl) ?_
    refine lv_iload_n hx hb dX6_newName_37 rfl (lv_at hl 2 rfl) ?_
    refine lv_icmp_ge (tgt := 64) hx hb dX6_newName_38 (by decide) (fun c1 => ?_) (fun c1 => ?_)
    · rw [if_pos c1] at h
      refine lv_aload_n hx hb dX6_newName_64 rfl (lv_at hl 1 rfl) ?_
      refine lv_iload_n hx hb dX6_newName_65 rfl (lv_at hl 2 rfl) ?_
      refine lv_aload_n hx hb dX6_newName_66 rfl (lv_at hl 0 rfl) ?_
      refine ge_6_8 hx hb hts (inU inW_X6) hown hK hP k_32 (hts _ (List.mem_cons_of_mem _ lw_328)) dX6_newName_67 ?_
      obtain ⟨g2, h⟩ := gd_s h
      obtain ⟨z3, e_z3, h⟩ := nm_s h
      refine xs_15 hx hb hK hG hP hS hk1 rfl (ix_in g2) dX6_newName_70 (fun H locs hP hS => ?_)
      rw [← e_z3] at hP
      refine lv_aload_n hx hb dX6_newName_71 rfl (lv_at hl 0 rfl) ?_
      obtain ⟨z5, h4, h⟩ := bv_s h
      refine x_Vv (Rz := z5) (As := []) (rest := []) ⟨hx, hb, hml, hown, hts⟩ hK hP hS (kd_lt k_32 (by decide)) (cell_6 k_32) rfl (m_X6_advance hG   h4) (cwV 0 hts (gV lw_777 lw_779 lw_1 lw_112 lw_780) rfl rfl rfl (by decide +kernel) (rmd_ok (by decide) (by decide))) rfl hl.1 rfl (Nat.le_of_ble_eq_true rfl) dX6_newName_72 ⟨Nat.le_refl _, Nat.le_refl _⟩ (fun H locs hP hS => ?_)
      exact x_vret hx hb hr hlocks hK hP hS h dX6_newName_75
    · rw [if_neg c1] at h
      refine lv_aload_n hx hb dX6_newName_41 rfl (lv_at hl 1 rfl) ?_
      refine lv_iload_n hx hb dX6_newName_42 rfl (lv_at hl 3 rfl) ?_
      obtain ⟨g6, h⟩ := gd_s h
      refine xl_15 hx hb hK hP hk1 rfl (ix_in g6) dX6_newName_43 ?_
      refine lv_aload_n hx hb dX6_newName_44 rfl (lv_at hl 0 rfl) ?_
      refine ge_6_8 hx hb hts (inU inW_X6) hown hK hP k_32 (hts _ (List.mem_cons_of_mem _ lw_328)) dX6_newName_45 ?_
      refine W.lcmp hx hb dX6_newName_48 ?_
      refine lv_if_ne (tgt := 58) hx hb dX6_newName_49 (by decide) (fun c7 => ?_) (fun c7 => ?_)
      · rw [if_neg c7] at h
        refine lv_iinc (v := (v3 + 1)) (lv' := [(3, .int (v3 + 1)), (0, .ref (G.2.2 32)), (1, .ref (G.2.2 p1)), (2, .int v2)]) hx hb dX6_newName_58 hl (k := 3) rfl rfl (by decide) rfl (fun ls hl => ?_)
        refine lv_goto (tgt := 36) hx hb dX6_newName_61 (by decide) ?_
        exact ih p1 v2 (v3 + 1) z hk1 _ _ _ hP hS (lv_sub hl [1, 2, 3, 0] rfl) h
      · rw [if_pos c7] at h
        refine lv_aload_n hx hb dX6_newName_52 rfl (lv_at hl 0 rfl) ?_
        refine lv_iconst (v := 3) hx hb dX6_newName_53 (by decide) ?_
        obtain ⟨z9, h8, h⟩ := bv_s h
        refine x_Vv (Rz := z9) (As := [.int 3]) (rest := []) ⟨hx, hb, hml, hown, hts⟩ hK hP hS (kd_lt k_32 (by decide)) (cell_6 k_32) rfl (m_X6_keepFault hG   h8) (cwV 1 hts (gV lw_817 lw_819 lw_8 lw_112 lw_820) rfl rfl rfl (by decide +kernel) (rmd_ok (by decide) (by decide))) rfl hl.1 rfl (Nat.le_of_ble_eq_true rfl) dX6_newName_54 ⟨Nat.le_refl _, Nat.le_refl _⟩ (fun H locs hP hS => ?_)
        exact x_vret hx hb hr hlocks hK hP hS h dX6_newName_57
def fn_X6_newName (p1 : Nat) (v2 : Int32) (z : St) : Option (St) := (if (z.1 32 11) = 0 then (if (z.1 32 5) = 1 then (if (z.1 32 9) = (-1) then (if v2 < (Int32.ofNat (ln p1)) then fn_X6_newName_36   fu p1 v2 0 z else fn_X6_newName_29    z) else fn_X6_newName_29    z) else fn_X6_newName_29    z) else fn_X6_newName_29    z)
set_option maxHeartbeats 4000000 in
set_option maxRecDepth 100000 in
theorem m_X6_newName {l : Launch} {G : wG} (hG : Ok G) {p1 : Nat} {v2 : Int32} {z : St} {Rz : St} (hk1 : kd p1 = 15) (h : fn_X6_newName  p1 v2 z = some Rz) : Met l yX6_newName (wsU yX6_newName cX6_newName 4 none) (rmd 4) (va_Pc [.ref (G.2.2 32), .ref (G.2.2 p1), .int v2] (Pre G z)) (va_Qv (fun u => u = Rz) (Pre G) (AW G)) 0 0 (AW G) := by
  refine Met.ofW (cc := cX6_newName) (maxL := 4) (ret := none) (by decide) rfl ?_
  intro p e s m args below meth c s₁ B hml hv
  obtain ⟨rfl, hP, hK⟩ := hv
  have C : CX p s m ([.ref (G.2.2 32), .ref (G.2.2 p1), .int v2] : List Value).toArray meth c cX6_newName 4 (wsU yX6_newName cX6_newName 4 none) RX6 none G := ⟨B.exec, B.bytes, hml, findClass_of_methodNamed B.named, atoms_spec (ws := (wsU yX6_newName cX6_newName 4 none)) B.pre, B.returns, B.notSynchronized, hK, hG⟩
  obtain ⟨hx, hb, -, hown, hts, hr, hlocks, -, -⟩ := id C
  have hS : va_S (AW G) s.heap s.heap [] := va_S.rf
  have hl := lv_entry [.ref (G.2.2 32), .ref (G.2.2 p1), .int v2] (n := 4) (Nat.le_of_ble_eq_true rfl)
  rw [lg_entry_eq]
  generalize (lg_sl [.ref (G.2.2 32), .ref (G.2.2 p1), .int v2] ++ List.replicate (4 - (lg_sl [.ref (G.2.2 32), .ref (G.2.2 p1), .int v2]).length) Slot.unset).toArray = ls at hl ⊢
  have hl : lv_has ls 4 [(0, .ref (G.2.2 32)), (1, .ref (G.2.2 p1)), (2, .int v2)] := hl
  unfold fn_X6_newName at h
  refine lv_aload_n hx hb dX6_newName_0 rfl (lv_at hl 0 rfl) ?_
  refine ge_6_11 hx hb hts (inU inW_X6) hown hK hP k_32 (hts _ (List.mem_cons_of_mem _ lw_331)) dX6_newName_1 ?_
  refine lv_if_ne (tgt := 29) hx hb dX6_newName_4 (by decide) (fun c1 => ?_) (fun c1 => ?_)
  · rw [if_neg c1] at h
    exact pf_X6_newName_29 C    z  hP hS (lv_sub hl [0] rfl) h
  · rw [if_pos c1] at h
    refine lv_aload_n hx hb dX6_newName_7 rfl (lv_at hl 0 rfl) ?_
    refine ge_6_5 hx hb hts (inU inW_X6) hown hK hP k_32 (hts _ (List.mem_cons_of_mem _ lw_325)) dX6_newName_8 ?_
    refine lv_iconst (v := 1) hx hb dX6_newName_11 (by decide) ?_
    refine lv_icmp_ne (tgt := 29) hx hb dX6_newName_12 (by decide) (fun c2 => ?_) (fun c2 => ?_)
    · rw [if_neg c2] at h
      exact pf_X6_newName_29 C    z  hP hS (lv_sub hl [0] rfl) h
    · rw [if_pos c2] at h
      refine lv_aload_n hx hb dX6_newName_15 rfl (lv_at hl 0 rfl) ?_
      refine ge_6_9 hx hb hts (inU inW_X6) hown hK hP k_32 (hts _ (List.mem_cons_of_mem _ lw_329)) dX6_newName_16 ?_
      refine lv_iconst (v := (-1)) hx hb dX6_newName_19 (by decide) ?_
      refine lv_icmp_ne (tgt := 29) hx hb dX6_newName_20 (by decide) (fun c3 => ?_) (fun c3 => ?_)
      · rw [if_neg c3] at h
        exact pf_X6_newName_29 C    z  hP hS (lv_sub hl [0] rfl) h
      · rw [if_pos c3] at h
        refine lv_iload_n hx hb dX6_newName_23 rfl (lv_at hl 2 rfl) ?_
        refine lv_aload_n hx hb dX6_newName_24 rfl (lv_at hl 1 rfl) ?_
        refine xn_15 hx hb hK hP hk1 rfl rfl dX6_newName_25 ?_
        refine lv_icmp_lt (tgt := 34) hx hb dX6_newName_26 (by decide) (fun c4 => ?_) (fun c4 => ?_)
        · rw [if_pos c4] at h
          refine lv_iconst (v := 0) hx hb dX6_newName_34 (by decide) ?_
          refine lv_istore_n (lv' := [(3, .int 0), (0, .ref (G.2.2 32)), (1, .ref (G.2.2 p1)), (2, .int v2)]) hx hb dX6_newName_35 rfl hl (by decide) rfl (fun ls hl => ?_)
          exact pf_X6_newName_36 C   fu p1 v2 0 z hk1 _ _ _ hP hS (lv_sub hl [1, 2, 3, 0] rfl) h
        · rw [if_neg c4] at h
          exact pf_X6_newName_29 C    z  hP hS (lv_sub hl [0] rfl) h
def fn_X6_numberWithin_15 (v1 : Int32) (z : St) : Option (Int32 × St) := bv (fn_X6_refuse   z) (fun z2 => some (v1, z2))
set_option maxHeartbeats 4000000 in
set_option maxRecDepth 100000 in
theorem pf_X6_numberWithin_15 {p : Program} {l : Launch} {e : Env} {s : State} {m : MethodId} {args : Array Value} {below : List Frame} {meth : Method} {c : Code} {G : wG} (C : CX p s m args meth c cX6_numberWithin 4 (wsU yX6_numberWithin cX6_numberWithin 4 (some .int)) RX6 (some .int) G) {Rz : Int32 × St} (v1 : Int32) (z : St)  {H : Heap} {locs : List Loc} {ls : Array Slot} (hP : WP G z H) (hS : va_S (AW G) s.heap H locs) (hl : lv_has ls 4 [(0, .ref (G.2.2 32)), (1, .int v1)]) (h : fn_X6_numberWithin_15   v1 z = some Rz) : W p l e (rmd 4) s m args below meth c H locs 0 0 (QI below args s G Rz) (F0 m 15 ls []) := by
  obtain ⟨hx, hb, hml, hown, hts, hr, hlocks, hK, hG⟩ := id C
  unfold fn_X6_numberWithin_15 at h
  refine lv_aload_n hx hb dX6_numberWithin_15 rfl (lv_at hl 0 rfl) ?_
  obtain ⟨z2, h1, h⟩ := bv_s h
  refine x_Vv (Rz := z2) (As := []) (rest := []) ⟨hx, hb, hml, hown, hts⟩ hK hP hS (kd_lt k_32 (by decide)) (cell_6 k_32) rfl (m_X6_refuse hG   h1) (cwV 0 hts (gV lw_813 lw_815 lw_7 lw_112 lw_816) rfl rfl rfl (by decide +kernel) (rmd_ok (by decide) (by decide))) rfl hl.1 rfl (Nat.le_of_ble_eq_true rfl) dX6_numberWithin_16 ⟨Nat.le_refl _, Nat.le_refl _⟩ (fun H locs hP hS => ?_)
  refine lv_iload_n hx hb dX6_numberWithin_19 rfl (lv_at hl 1 rfl) ?_
  exact x_iret hx hb hr hlocks hK hP hS h dX6_numberWithin_20
def fn_X6_numberWithin_37 (v1 : Int32) (z : St) : Option (Int32 × St) := bv (fn_X6_keepFault  4 z) (fun z2 => some (v1, z2))
set_option maxHeartbeats 4000000 in
set_option maxRecDepth 100000 in
theorem pf_X6_numberWithin_37 {p : Program} {l : Launch} {e : Env} {s : State} {m : MethodId} {args : Array Value} {below : List Frame} {meth : Method} {c : Code} {G : wG} (C : CX p s m args meth c cX6_numberWithin 4 (wsU yX6_numberWithin cX6_numberWithin 4 (some .int)) RX6 (some .int) G) {Rz : Int32 × St} (v1 : Int32) (z : St)  {H : Heap} {locs : List Loc} {ls : Array Slot} (hP : WP G z H) (hS : va_S (AW G) s.heap H locs) (hl : lv_has ls 4 [(0, .ref (G.2.2 32)), (1, .int v1)]) (h : fn_X6_numberWithin_37   v1 z = some Rz) : W p l e (rmd 4) s m args below meth c H locs 0 0 (QI below args s G Rz) (F0 m 37 ls []) := by
  obtain ⟨hx, hb, hml, hown, hts, hr, hlocks, hK, hG⟩ := id C
  unfold fn_X6_numberWithin_37 at h
  refine lv_aload_n hx hb dX6_numberWithin_37 rfl (lv_at hl 0 rfl) ?_
  refine lv_iconst (v := 4) hx hb dX6_numberWithin_38 (by decide) ?_
  obtain ⟨z2, h1, h⟩ := bv_s h
  refine x_Vv (Rz := z2) (As := [.int 4]) (rest := []) ⟨hx, hb, hml, hown, hts⟩ hK hP hS (kd_lt k_32 (by decide)) (cell_6 k_32) rfl (m_X6_keepFault hG   h1) (cwV 1 hts (gV lw_817 lw_819 lw_8 lw_112 lw_820) rfl rfl rfl (by decide +kernel) (rmd_ok (by decide) (by decide))) rfl hl.1 rfl (Nat.le_of_ble_eq_true rfl) dX6_numberWithin_39 ⟨Nat.le_refl _, Nat.le_refl _⟩ (fun H locs hP hS => ?_)
  refine lv_iload_n hx hb dX6_numberWithin_42 rfl (lv_at hl 1 rfl) ?_
  exact x_iret hx hb hr hlocks hK hP hS h dX6_numberWithin_43
def fn_X6_numberWithin (v1 : Int32) (v2 : Int32) (z : St) : Option (Int32 × St) := (if (z.1 32 11) = 0 then (if (z.1 32 5) = 2 then (if (z.1 32 7) < v1 then fn_X6_numberWithin_37   v1 z else (if (z.1 32 7) ≤ v2 then nm (z.1 32 7) (fun v3_5 => bv (fn_X6_advance   z) (fun z7 => some (v3_5, z7))) else fn_X6_numberWithin_37   v1 z)) else fn_X6_numberWithin_15   v1 z) else fn_X6_numberWithin_15   v1 z)
set_option maxHeartbeats 4000000 in
set_option maxRecDepth 100000 in
theorem m_X6_numberWithin {l : Launch} {G : wG} (hG : Ok G) {v1 : Int32} {v2 : Int32} {z : St} {Rz : Int32 × St}  (h : fn_X6_numberWithin  v1 v2 z = some Rz) : Met l yX6_numberWithin (wsU yX6_numberWithin cX6_numberWithin 4 (some .int)) (rmd 4) (va_Pc [.ref (G.2.2 32), .int v1, .int v2] (Pre G z)) (va_Qi (fun r u => (r, u) = Rz) (Pre G) (AW G)) 0 0 (AW G) := by
  refine Met.ofW (cc := cX6_numberWithin) (maxL := 4) (ret := (some .int)) (by decide) rfl ?_
  intro p e s m args below meth c s₁ B hml hv
  obtain ⟨rfl, hP, hK⟩ := hv
  have C : CX p s m ([.ref (G.2.2 32), .int v1, .int v2] : List Value).toArray meth c cX6_numberWithin 4 (wsU yX6_numberWithin cX6_numberWithin 4 (some .int)) RX6 (some .int) G := ⟨B.exec, B.bytes, hml, findClass_of_methodNamed B.named, atoms_spec (ws := (wsU yX6_numberWithin cX6_numberWithin 4 (some .int))) B.pre, B.returns, B.notSynchronized, hK, hG⟩
  obtain ⟨hx, hb, -, hown, hts, hr, hlocks, -, -⟩ := id C
  have hS : va_S (AW G) s.heap s.heap [] := va_S.rf
  have hl := lv_entry [.ref (G.2.2 32), .int v1, .int v2] (n := 4) (Nat.le_of_ble_eq_true rfl)
  rw [lg_entry_eq]
  generalize (lg_sl [.ref (G.2.2 32), .int v1, .int v2] ++ List.replicate (4 - (lg_sl [.ref (G.2.2 32), .int v1, .int v2]).length) Slot.unset).toArray = ls at hl ⊢
  have hl : lv_has ls 4 [(0, .ref (G.2.2 32)), (1, .int v1), (2, .int v2)] := hl
  unfold fn_X6_numberWithin at h
  refine lv_aload_n hx hb dX6_numberWithin_0 rfl (lv_at hl 0 rfl) ?_
  refine ge_6_11 hx hb hts (inU inW_X6) hown hK hP k_32 (hts _ (List.mem_cons_of_mem _ lw_331)) dX6_numberWithin_1 ?_
  refine lv_if_ne (tgt := 15) hx hb dX6_numberWithin_4 (by decide) (fun c1 => ?_) (fun c1 => ?_)
  · rw [if_neg c1] at h
    exact pf_X6_numberWithin_15 C   v1 z  hP hS (lv_sub hl [0, 1] rfl) h
  · rw [if_pos c1] at h
    refine lv_aload_n hx hb dX6_numberWithin_7 rfl (lv_at hl 0 rfl) ?_
    refine ge_6_5 hx hb hts (inU inW_X6) hown hK hP k_32 (hts _ (List.mem_cons_of_mem _ lw_325)) dX6_numberWithin_8 ?_
    refine lv_iconst (v := 2) hx hb dX6_numberWithin_11 (by decide) ?_
    refine lv_icmp_eq (tgt := 21) hx hb dX6_numberWithin_12 (by decide) (fun c2 => ?_) (fun c2 => ?_)
    · rw [if_pos c2] at h
      refine lv_aload_n hx hb dX6_numberWithin_21 rfl (lv_at hl 0 rfl) ?_
      refine ge_6_7 hx hb hts (inU inW_X6) hown hK hP k_32 (hts _ (List.mem_cons_of_mem _ lw_327)) dX6_numberWithin_22 ?_
      refine lv_iload_n hx hb dX6_numberWithin_25 rfl (lv_at hl 1 rfl) ?_
      refine lv_icmp_lt (tgt := 37) hx hb dX6_numberWithin_26 (by decide) (fun c3 => ?_) (fun c3 => ?_)
      · rw [if_pos c3] at h
        exact pf_X6_numberWithin_37 C   v1 z  hP hS (lv_sub hl [0, 1] rfl) h
      · rw [if_neg c3] at h
        refine lv_aload_n hx hb dX6_numberWithin_29 rfl (lv_at hl 0 rfl) ?_
        refine ge_6_7 hx hb hts (inU inW_X6) hown hK hP k_32 (hts _ (List.mem_cons_of_mem _ lw_327)) dX6_numberWithin_30 ?_
        refine lv_iload_n hx hb dX6_numberWithin_33 rfl (lv_at hl 2 rfl) ?_
        refine lv_icmp_le (tgt := 44) hx hb dX6_numberWithin_34 (by decide) (fun c4 => ?_) (fun c4 => ?_)
        · rw [if_pos c4] at h
          refine lv_aload_n hx hb dX6_numberWithin_44 rfl (lv_at hl 0 rfl) ?_
          refine ge_6_7 hx hb hts (inU inW_X6) hown hK hP k_32 (hts _ (List.mem_cons_of_mem _ lw_327)) dX6_numberWithin_45 ?_
          obtain ⟨v3_5, e_v3_5, h⟩ := nm_s h
          refine x_top e_v3_5 ?_
          refine lv_istore_n (lv' := [(3, .int v3_5), (0, .ref (G.2.2 32)), (1, .int v1), (2, .int v2)]) hx hb dX6_numberWithin_48 rfl hl (by decide) rfl (fun ls hl => ?_)
          refine lv_aload_n hx hb dX6_numberWithin_49 rfl (lv_at hl 1 rfl) ?_
          obtain ⟨z7, h6, h⟩ := bv_s h
          refine x_Vv (Rz := z7) (As := []) (rest := []) ⟨hx, hb, hml, hown, hts⟩ hK hP hS (kd_lt k_32 (by decide)) (cell_6 k_32) rfl (m_X6_advance hG   h6) (cwV 0 hts (gV lw_777 lw_779 lw_1 lw_112 lw_780) rfl rfl rfl (by decide +kernel) (rmd_ok (by decide) (by decide))) rfl hl.1 rfl (Nat.le_of_ble_eq_true rfl) dX6_numberWithin_50 ⟨Nat.le_refl _, Nat.le_refl _⟩ (fun H locs hP hS => ?_)
          refine lv_iload_n hx hb dX6_numberWithin_53 rfl (lv_at hl 0 rfl) ?_
          exact x_iret hx hb hr hlocks hK hP hS h dX6_numberWithin_54
        · rw [if_neg c4] at h
          exact pf_X6_numberWithin_37 C   v1 z  hP hS (lv_sub hl [0, 1] rfl) h
    · rw [if_neg c2] at h
      exact pf_X6_numberWithin_15 C   v1 z  hP hS (lv_sub hl [0, 1] rfl) h
def fn_X6_tierLine  (z : St) : Option (St) := (if (z.1 17 0) < 3 then bv (fn_X6_advance   z) (fun z3 => bv (fn_X6_newName  18 (z3.1 17 0) z3) (fun z5 => bd (fn_X6_numberWithin  1 8 z5) (fun r7 z8 => bv (fn_X6_expectKeyword  1 z8) (fun z10 => bd (fn_X6_numberWithin  1 8 z10) (fun r12 z13 => bv (fn_X6_expectKeyword  2 z13) (fun z15 => bd (fn_X6_numberWithin  1 9 z15) (fun r17 z18 => bv (fn_X6_expectSign  59 z18) (fun z20 => bv (fn_X7_addTier  17 r7 r12 r17 z20) (fun z22 => some z22))))))))) else bv (fn_X6_refuse   z) (fun z24 => some z24))
set_option maxHeartbeats 4000000 in
set_option maxRecDepth 100000 in
theorem m_X6_tierLine {l : Launch} {G : wG} (hG : Ok G)  {z : St} {Rz : St}  (h : fn_X6_tierLine   z = some Rz) : Met l yX6_tierLine (wsU yX6_tierLine cX6_tierLine 4 none) (rmd 5) (va_Pc [.ref (G.2.2 32)] (Pre G z)) (va_Qv (fun u => u = Rz) (Pre G) (AW G)) 0 0 (AW G) := by
  refine Met.ofW (cc := cX6_tierLine) (maxL := 4) (ret := none) (by decide) rfl ?_
  intro p e s m args below meth c s₁ B hml hv
  obtain ⟨rfl, hP, hK⟩ := hv
  have C : CX p s m ([.ref (G.2.2 32)] : List Value).toArray meth c cX6_tierLine 4 (wsU yX6_tierLine cX6_tierLine 4 none) RX6 none G := ⟨B.exec, B.bytes, hml, findClass_of_methodNamed B.named, atoms_spec (ws := (wsU yX6_tierLine cX6_tierLine 4 none)) B.pre, B.returns, B.notSynchronized, hK, hG⟩
  obtain ⟨hx, hb, -, hown, hts, hr, hlocks, -, -⟩ := id C
  have hS : va_S (AW G) s.heap s.heap [] := va_S.rf
  have hl := lv_entry [.ref (G.2.2 32)] (n := 4) (Nat.le_of_ble_eq_true rfl)
  rw [lg_entry_eq]
  generalize (lg_sl [.ref (G.2.2 32)] ++ List.replicate (4 - (lg_sl [.ref (G.2.2 32)]).length) Slot.unset).toArray = ls at hl ⊢
  have hl : lv_has ls 4 [(0, .ref (G.2.2 32))] := hl
  unfold fn_X6_tierLine at h
  refine lv_aload_n hx hb dX6_tierLine_0 rfl (lv_at hl 0 rfl) ?_
  refine ge_6_1 hx hb hts (inU inW_X6) hown hK hP k_32 (hts _ (List.mem_cons_of_mem _ lw_321)) dX6_tierLine_1 ?_
  refine ge_7_0 hx hb hts (inU inW_X7) hown hK hP k_17 (hts _ (List.mem_cons_of_mem _ lw_180)) dX6_tierLine_4 ?_
  refine lv_iconst (v := 3) hx hb dX6_tierLine_7 (by decide) ?_
  refine lv_icmp_lt (tgt := 16) hx hb dX6_tierLine_8 (by decide) (fun c1 => ?_) (fun c1 => ?_)
  · rw [if_pos c1] at h
    refine lv_aload_n hx hb dX6_tierLine_16 rfl (lv_at hl 0 rfl) ?_
    obtain ⟨z3, h2, h⟩ := bv_s h
    refine x_Vv (Rz := z3) (As := []) (rest := []) ⟨hx, hb, hml, hown, hts⟩ hK hP hS (kd_lt k_32 (by decide)) (cell_6 k_32) rfl (m_X6_advance hG   h2) (cwV 0 hts (gV lw_777 lw_779 lw_1 lw_112 lw_780) rfl rfl rfl (by decide +kernel) (rmd_ok (by decide) (by decide))) rfl hl.1 rfl (Nat.le_of_ble_eq_true rfl) dX6_tierLine_17 ⟨Nat.le_refl _, Nat.le_refl _⟩ (fun H locs hP hS => ?_)
    refine lv_aload_n hx hb dX6_tierLine_20 rfl (lv_at hl 0 rfl) ?_
    refine lv_aload_n hx hb dX6_tierLine_21 rfl (lv_at hl 0 rfl) ?_
    refine ge_6_1 hx hb hts (inU inW_X6) hown hK hP k_32 (hts _ (List.mem_cons_of_mem _ lw_321)) dX6_tierLine_22 ?_
    refine ge_7_1 hx hb hts (inU inW_X7) hown hK hP k_17 (hts _ (List.mem_cons_of_mem _ lw_183)) dX6_tierLine_25 ?_
    refine lv_aload_n hx hb dX6_tierLine_28 rfl (lv_at hl 0 rfl) ?_
    refine ge_6_1 hx hb hts (inU inW_X6) hown hK hP k_32 (hts _ (List.mem_cons_of_mem _ lw_321)) dX6_tierLine_29 ?_
    refine ge_7_0 hx hb hts (inU inW_X7) hown hK hP k_17 (hts _ (List.mem_cons_of_mem _ lw_180)) dX6_tierLine_32 ?_
    obtain ⟨z5, h4, h⟩ := bv_s h
    refine x_Vv (Rz := z5) (As := [.ref (G.2.2 18), .int (z3.1 17 0)]) (rest := []) ⟨hx, hb, hml, hown, hts⟩ hK hP hS (kd_lt k_32 (by decide)) (cell_6 k_32) rfl (m_X6_newName hG  k_18 h4) (cwV 2 hts (gV lw_821 lw_823 lw_9 lw_112 lw_824) rfl rfl rfl (by decide +kernel) (rmd_ok (by decide) (by decide))) rfl hl.1 rfl (Nat.le_of_ble_eq_true rfl) dX6_tierLine_35 ⟨Nat.le_refl _, Nat.le_refl _⟩ (fun H locs hP hS => ?_)
    refine lv_aload_n hx hb dX6_tierLine_38 rfl (lv_at hl 0 rfl) ?_
    refine lv_iconst (v := 1) hx hb dX6_tierLine_39 (by decide) ?_
    refine lv_bipush (v := 8) hx hb dX6_tierLine_40 (by decide) ?_
    obtain ⟨r7, z8, h6, h⟩ := bd_s h
    refine x_Vi (Rz := (r7, z8)) (As := [.int 1, .int 8]) (rest := []) ⟨hx, hb, hml, hown, hts⟩ hK hP hS (kd_lt k_32 (by decide)) (cell_6 k_32) rfl (m_X6_numberWithin hG   h6) (cwV 2 hts (gV lw_825 lw_827 lw_10 lw_112 lw_828) rfl rfl rfl (by decide +kernel) (rmd_ok (by decide) (by decide))) rfl hl.1 rfl (Nat.le_of_ble_eq_true rfl) dX6_tierLine_42 ⟨Nat.le_refl _, Nat.le_refl _⟩ (fun H locs hP hS => ?_)
    refine lv_istore_n (lv' := [(1, .int r7), (0, .ref (G.2.2 32))]) hx hb dX6_tierLine_45 rfl hl (by decide) rfl (fun ls hl => ?_)
    refine lv_aload_n hx hb dX6_tierLine_46 rfl (lv_at hl 1 rfl) ?_
    refine lv_iconst (v := 1) hx hb dX6_tierLine_47 (by decide) ?_
    obtain ⟨z10, h9, h⟩ := bv_s h
    refine x_Vv (Rz := z10) (As := [.int 1]) (rest := []) ⟨hx, hb, hml, hown, hts⟩ hK hP hS (kd_lt k_32 (by decide)) (cell_6 k_32) rfl (m_X6_expectKeyword hG   h9) (cwV 1 hts (gV lw_829 lw_831 lw_11 lw_112 lw_832) rfl rfl rfl (by decide +kernel) (rmd_ok (by decide) (by decide))) rfl hl.1 rfl (Nat.le_of_ble_eq_true rfl) dX6_tierLine_48 ⟨Nat.le_refl _, Nat.le_refl _⟩ (fun H locs hP hS => ?_)
    refine lv_aload_n hx hb dX6_tierLine_51 rfl (lv_at hl 1 rfl) ?_
    refine lv_iconst (v := 1) hx hb dX6_tierLine_52 (by decide) ?_
    refine lv_bipush (v := 8) hx hb dX6_tierLine_53 (by decide) ?_
    obtain ⟨r12, z13, h11, h⟩ := bd_s h
    refine x_Vi (Rz := (r12, z13)) (As := [.int 1, .int 8]) (rest := []) ⟨hx, hb, hml, hown, hts⟩ hK hP hS (kd_lt k_32 (by decide)) (cell_6 k_32) rfl (m_X6_numberWithin hG   h11) (cwV 2 hts (gV lw_825 lw_827 lw_10 lw_112 lw_828) rfl rfl rfl (by decide +kernel) (rmd_ok (by decide) (by decide))) rfl hl.1 rfl (Nat.le_of_ble_eq_true rfl) dX6_tierLine_55 ⟨Nat.le_refl _, Nat.le_refl _⟩ (fun H locs hP hS => ?_)
    refine lv_istore_n (lv' := [(2, .int r12), (1, .int r7), (0, .ref (G.2.2 32))]) hx hb dX6_tierLine_58 rfl hl (by decide) rfl (fun ls hl => ?_)
    refine lv_aload_n hx hb dX6_tierLine_59 rfl (lv_at hl 2 rfl) ?_
    refine lv_iconst (v := 2) hx hb dX6_tierLine_60 (by decide) ?_
    obtain ⟨z15, h14, h⟩ := bv_s h
    refine x_Vv (Rz := z15) (As := [.int 2]) (rest := []) ⟨hx, hb, hml, hown, hts⟩ hK hP hS (kd_lt k_32 (by decide)) (cell_6 k_32) rfl (m_X6_expectKeyword hG   h14) (cwV 1 hts (gV lw_829 lw_831 lw_11 lw_112 lw_832) rfl rfl rfl (by decide +kernel) (rmd_ok (by decide) (by decide))) rfl hl.1 rfl (Nat.le_of_ble_eq_true rfl) dX6_tierLine_61 ⟨Nat.le_refl _, Nat.le_refl _⟩ (fun H locs hP hS => ?_)
    refine lv_aload_n hx hb dX6_tierLine_64 rfl (lv_at hl 2 rfl) ?_
    refine lv_iconst (v := 1) hx hb dX6_tierLine_65 (by decide) ?_
    refine lv_bipush (v := 9) hx hb dX6_tierLine_66 (by decide) ?_
    obtain ⟨r17, z18, h16, h⟩ := bd_s h
    refine x_Vi (Rz := (r17, z18)) (As := [.int 1, .int 9]) (rest := []) ⟨hx, hb, hml, hown, hts⟩ hK hP hS (kd_lt k_32 (by decide)) (cell_6 k_32) rfl (m_X6_numberWithin hG   h16) (cwV 2 hts (gV lw_825 lw_827 lw_10 lw_112 lw_828) rfl rfl rfl (by decide +kernel) (rmd_ok (by decide) (by decide))) rfl hl.1 rfl (Nat.le_of_ble_eq_true rfl) dX6_tierLine_68 ⟨Nat.le_refl _, Nat.le_refl _⟩ (fun H locs hP hS => ?_)
    refine lv_istore_n (lv' := [(3, .int r17), (2, .int r12), (1, .int r7), (0, .ref (G.2.2 32))]) hx hb dX6_tierLine_71 rfl hl (by decide) rfl (fun ls hl => ?_)
    refine lv_aload_n hx hb dX6_tierLine_72 rfl (lv_at hl 3 rfl) ?_
    refine lv_bipush (v := 59) hx hb dX6_tierLine_73 (by decide) ?_
    obtain ⟨z20, h19, h⟩ := bv_s h
    refine x_Vv (Rz := z20) (As := [.int 59]) (rest := []) ⟨hx, hb, hml, hown, hts⟩ hK hP hS (kd_lt k_32 (by decide)) (cell_6 k_32) rfl (m_X6_expectSign hG   h19) (cwV 1 hts (gV lw_837 lw_839 lw_13 lw_112 lw_840) rfl rfl rfl (by decide +kernel) (rmd_ok (by decide) (by decide))) rfl hl.1 rfl (Nat.le_of_ble_eq_true rfl) dX6_tierLine_75 ⟨Nat.le_refl _, Nat.le_refl _⟩ (fun H locs hP hS => ?_)
    refine lv_aload_n hx hb dX6_tierLine_78 rfl (lv_at hl 3 rfl) ?_
    refine ge_6_1 hx hb hts (inU inW_X6) hown hK hP k_32 (hts _ (List.mem_cons_of_mem _ lw_321)) dX6_tierLine_79 ?_
    refine lv_iload_n hx hb dX6_tierLine_82 rfl (lv_at hl 2 rfl) ?_
    refine lv_iload_n hx hb dX6_tierLine_83 rfl (lv_at hl 1 rfl) ?_
    refine lv_iload_n hx hb dX6_tierLine_84 rfl (lv_at hl 0 rfl) ?_
    obtain ⟨z22, h21, h⟩ := bv_s h
    refine x_Vv (Rz := z22) (As := [.int r7, .int r12, .int r17]) (rest := []) ⟨hx, hb, hml, hown, hts⟩ hK hP hS (kd_lt k_17 (by decide)) (cell_7 k_17) rfl (m_X7_addTier hG  k_17 h21) (cwV 3 hts (gV lw_845 lw_846 lw_847 lw_110 lw_848) rfl rfl rfl (by decide +kernel) (rmd_ok (by decide) (by decide))) rfl hl.1 rfl (Nat.le_of_ble_eq_true rfl) dX6_tierLine_85 ⟨Nat.le_refl _, Nat.le_refl _⟩ (fun H locs hP hS => ?_)
    exact x_vret hx hb hr hlocks hK hP hS h dX6_tierLine_88
  · rw [if_neg c1] at h
    refine lv_aload_n hx hb dX6_tierLine_11 rfl (lv_at hl 0 rfl) ?_
    obtain ⟨z24, h23, h⟩ := bv_s h
    refine x_Vv (Rz := z24) (As := []) (rest := []) ⟨hx, hb, hml, hown, hts⟩ hK hP hS (kd_lt k_32 (by decide)) (cell_6 k_32) rfl (m_X6_refuse hG   h23) (cwV 0 hts (gV lw_813 lw_815 lw_7 lw_112 lw_816) rfl rfl rfl (by decide +kernel) (rmd_ok (by decide) (by decide))) rfl hl.1 rfl (Nat.le_of_ble_eq_true rfl) dX6_tierLine_12 ⟨Nat.le_refl _, Nat.le_refl _⟩ (fun H locs hP hS => ?_)
    exact x_vret hx hb hr hlocks hK hP hS h dX6_tierLine_15
def fn_X6_guestLine_99 (v1 : Int32) (v2 : Int32) (v3 : Int32) (z : St) : Option (St) := bv (fn_X6_expectSign  59 z) (fun z2 => bv (fn_X7_addGuest  17 v1 v2 v3 z2) (fun z4 => some z4))
set_option maxHeartbeats 4000000 in
set_option maxRecDepth 100000 in
theorem pf_X6_guestLine_99 {p : Program} {l : Launch} {e : Env} {s : State} {m : MethodId} {args : Array Value} {below : List Frame} {meth : Method} {c : Code} {G : wG} (C : CX p s m args meth c cX6_guestLine 4 (wsU yX6_guestLine cX6_guestLine 4 none) RX6 none G) {Rz : St} (v1 : Int32) (v2 : Int32) (v3 : Int32) (z : St)  {H : Heap} {locs : List Loc} {ls : Array Slot} (hP : WP G z H) (hS : va_S (AW G) s.heap H locs) (hl : lv_has ls 4 [(0, .ref (G.2.2 32)), (1, .int v1), (2, .int v2), (3, .int v3)]) (h : fn_X6_guestLine_99   v1 v2 v3 z = some Rz) : W p l e (rmd 5) s m args below meth c H locs 0 0 (QV below args s G Rz) (F0 m 99 ls []) := by
  obtain ⟨hx, hb, hml, hown, hts, hr, hlocks, hK, hG⟩ := id C
  unfold fn_X6_guestLine_99 at h
  refine lv_aload_n hx hb dX6_guestLine_99 rfl (lv_at hl 0 rfl) ?_
  refine lv_bipush (v := 59) hx hb dX6_guestLine_100 (by decide) ?_
  obtain ⟨z2, h1, h⟩ := bv_s h
  refine x_Vv (Rz := z2) (As := [.int 59]) (rest := []) ⟨hx, hb, hml, hown, hts⟩ hK hP hS (kd_lt k_32 (by decide)) (cell_6 k_32) rfl (m_X6_expectSign hG   h1) (cwV 1 hts (gV lw_837 lw_839 lw_13 lw_112 lw_840) rfl rfl rfl (by decide +kernel) (rmd_ok (by decide) (by decide))) rfl hl.1 rfl (Nat.le_of_ble_eq_true rfl) dX6_guestLine_102 ⟨Nat.le_refl _, Nat.le_refl _⟩ (fun H locs hP hS => ?_)
  refine lv_aload_n hx hb dX6_guestLine_105 rfl (lv_at hl 0 rfl) ?_
  refine ge_6_1 hx hb hts (inU inW_X6) hown hK hP k_32 (hts _ (List.mem_cons_of_mem _ lw_321)) dX6_guestLine_106 ?_
  refine lv_iload_n hx hb dX6_guestLine_109 rfl (lv_at hl 1 rfl) ?_
  refine lv_iload_n hx hb dX6_guestLine_110 rfl (lv_at hl 2 rfl) ?_
  refine lv_iload_n hx hb dX6_guestLine_111 rfl (lv_at hl 3 rfl) ?_
  obtain ⟨z4, h3, h⟩ := bv_s h
  refine x_Vv (Rz := z4) (As := [.int v1, .int v2, .int v3]) (rest := []) ⟨hx, hb, hml, hown, hts⟩ hK hP hS (kd_lt k_17 (by decide)) (cell_7 k_17) rfl (m_X7_addGuest hG  k_17 h3) (cwV 3 hts (gV lw_853 lw_854 lw_855 lw_110 lw_856) rfl rfl rfl (by decide +kernel) (rmd_ok (by decide) (by decide))) rfl hl.1 rfl (Nat.le_of_ble_eq_true rfl) dX6_guestLine_112 ⟨Nat.le_refl _, Nat.le_refl _⟩ (fun H locs hP hS => ?_)
  exact x_vret hx hb hr hlocks hK hP hS h dX6_guestLine_115
def fn_X6_guestLine_75 (v1 : Int32) (v2 : Int32) (z : St) : Option (St) := bd (fn_X6_isKeyword  6 z) (fun r2 z3 => (if r2 = 0 then fn_X6_guestLine_99   v1 v2 100 z3 else bv (fn_X6_advance   z3) (fun z6 => bd (fn_X6_numberWithin  0 100 z6) (fun r8 z9 => fn_X6_guestLine_99   v1 v2 r8 z9))))
set_option maxHeartbeats 4000000 in
set_option maxRecDepth 100000 in
theorem pf_X6_guestLine_75 {p : Program} {l : Launch} {e : Env} {s : State} {m : MethodId} {args : Array Value} {below : List Frame} {meth : Method} {c : Code} {G : wG} (C : CX p s m args meth c cX6_guestLine 4 (wsU yX6_guestLine cX6_guestLine 4 none) RX6 none G) {Rz : St} (v1 : Int32) (v2 : Int32) (z : St)  {H : Heap} {locs : List Loc} {ls : Array Slot} (hP : WP G z H) (hS : va_S (AW G) s.heap H locs) (hl : lv_has ls 4 [(0, .ref (G.2.2 32)), (1, .int v1), (2, .int v2)]) (h : fn_X6_guestLine_75   v1 v2 z = some Rz) : W p l e (rmd 5) s m args below meth c H locs 0 0 (QV below args s G Rz) (F0 m 75 ls []) := by
  obtain ⟨hx, hb, hml, hown, hts, hr, hlocks, hK, hG⟩ := id C
  unfold fn_X6_guestLine_75 at h
  refine lv_bipush (v := 100) hx hb dX6_guestLine_75 (by decide) ?_
  refine lv_istore_n (lv' := [(3, .int 100), (0, .ref (G.2.2 32)), (1, .int v1), (2, .int v2)]) hx hb dX6_guestLine_77 rfl hl (by decide) rfl (fun ls hl => ?_)
  refine lv_aload_n hx hb dX6_guestLine_78 rfl (lv_at hl 1 rfl) ?_
  refine lv_bipush (v := 6) hx hb dX6_guestLine_79 (by decide) ?_
  obtain ⟨r2, z3, h1, h⟩ := bd_s h
  refine x_Vi (Rz := (r2, z3)) (As := [.int 6]) (rest := []) ⟨hx, hb, hml, hown, hts⟩ hK hP hS (kd_lt k_32 (by decide)) (cell_6 k_32) rfl (m_X6_isKeyword hG   h1) (cwV 1 hts (gV lw_833 lw_835 lw_12 lw_112 lw_836) rfl rfl rfl (by decide +kernel) (rmd_ok (by decide) (by decide))) rfl hl.1 rfl (Nat.le_of_ble_eq_true rfl) dX6_guestLine_81 ⟨Nat.le_refl _, Nat.le_refl _⟩ (fun H locs hP hS => ?_)
  refine lv_if_eq (tgt := 99) hx hb dX6_guestLine_84 (by decide) (fun c4 => ?_) (fun c4 => ?_)
  · rw [if_pos c4] at h
    exact pf_X6_guestLine_99 C   v1 v2 100 z3  hP hS (lv_sub hl [1, 2, 3, 0] rfl) h
  · rw [if_neg c4] at h
    refine lv_aload_n hx hb dX6_guestLine_87 rfl (lv_at hl 1 rfl) ?_
    obtain ⟨z6, h5, h⟩ := bv_s h
    refine x_Vv (Rz := z6) (As := []) (rest := []) ⟨hx, hb, hml, hown, hts⟩ hK hP hS (kd_lt k_32 (by decide)) (cell_6 k_32) rfl (m_X6_advance hG   h5) (cwV 0 hts (gV lw_777 lw_779 lw_1 lw_112 lw_780) rfl rfl rfl (by decide +kernel) (rmd_ok (by decide) (by decide))) rfl hl.1 rfl (Nat.le_of_ble_eq_true rfl) dX6_guestLine_88 ⟨Nat.le_refl _, Nat.le_refl _⟩ (fun H locs hP hS => ?_)
    refine lv_aload_n hx hb dX6_guestLine_91 rfl (lv_at hl 1 rfl) ?_
    refine lv_iconst (v := 0) hx hb dX6_guestLine_92 (by decide) ?_
    refine lv_bipush (v := 100) hx hb dX6_guestLine_93 (by decide) ?_
    obtain ⟨r8, z9, h7, h⟩ := bd_s h
    refine x_Vi (Rz := (r8, z9)) (As := [.int 0, .int 100]) (rest := []) ⟨hx, hb, hml, hown, hts⟩ hK hP hS (kd_lt k_32 (by decide)) (cell_6 k_32) rfl (m_X6_numberWithin hG   h7) (cwV 2 hts (gV lw_825 lw_827 lw_10 lw_112 lw_828) rfl rfl rfl (by decide +kernel) (rmd_ok (by decide) (by decide))) rfl hl.1 rfl (Nat.le_of_ble_eq_true rfl) dX6_guestLine_95 ⟨Nat.le_refl _, Nat.le_refl _⟩ (fun H locs hP hS => ?_)
    refine lv_istore_n (lv' := [(3, .int r8), (0, .ref (G.2.2 32)), (1, .int v1), (2, .int v2)]) hx hb dX6_guestLine_98 rfl hl (by decide) rfl (fun ls hl => ?_)
    exact pf_X6_guestLine_99 C   v1 v2 r8 z9  hP hS (lv_sub hl [1, 2, 3, 0] rfl) h
def fn_X6_guestLine  (z : St) : Option (St) := (if (z.1 17 5) < 6 then bv (fn_X6_advance   z) (fun z3 => bv (fn_X6_newName  22 (z3.1 17 5) z3) (fun z5 => bv (fn_X6_expectKeyword  4 z5) (fun z7 => bd (fn_X6_numberWithin  0 999 z7) (fun r9 z10 => bd (fn_X6_isKeyword  5 z10) (fun r12 z13 => (if r12 = 0 then fn_X6_guestLine_75   r9 0 z13 else bv (fn_X6_advance   z13) (fun z16 => bd (fn_X6_numberWithin  0 9 z16) (fun r18 z19 => fn_X6_guestLine_75   r9 r18 z19)))))))) else bv (fn_X6_refuse   z) (fun z21 => some z21))
set_option maxHeartbeats 4000000 in
set_option maxRecDepth 100000 in
theorem m_X6_guestLine {l : Launch} {G : wG} (hG : Ok G)  {z : St} {Rz : St}  (h : fn_X6_guestLine   z = some Rz) : Met l yX6_guestLine (wsU yX6_guestLine cX6_guestLine 4 none) (rmd 5) (va_Pc [.ref (G.2.2 32)] (Pre G z)) (va_Qv (fun u => u = Rz) (Pre G) (AW G)) 0 0 (AW G) := by
  refine Met.ofW (cc := cX6_guestLine) (maxL := 4) (ret := none) (by decide) rfl ?_
  intro p e s m args below meth c s₁ B hml hv
  obtain ⟨rfl, hP, hK⟩ := hv
  have C : CX p s m ([.ref (G.2.2 32)] : List Value).toArray meth c cX6_guestLine 4 (wsU yX6_guestLine cX6_guestLine 4 none) RX6 none G := ⟨B.exec, B.bytes, hml, findClass_of_methodNamed B.named, atoms_spec (ws := (wsU yX6_guestLine cX6_guestLine 4 none)) B.pre, B.returns, B.notSynchronized, hK, hG⟩
  obtain ⟨hx, hb, -, hown, hts, hr, hlocks, -, -⟩ := id C
  have hS : va_S (AW G) s.heap s.heap [] := va_S.rf
  have hl := lv_entry [.ref (G.2.2 32)] (n := 4) (Nat.le_of_ble_eq_true rfl)
  rw [lg_entry_eq]
  generalize (lg_sl [.ref (G.2.2 32)] ++ List.replicate (4 - (lg_sl [.ref (G.2.2 32)]).length) Slot.unset).toArray = ls at hl ⊢
  have hl : lv_has ls 4 [(0, .ref (G.2.2 32))] := hl
  unfold fn_X6_guestLine at h
  refine lv_aload_n hx hb dX6_guestLine_0 rfl (lv_at hl 0 rfl) ?_
  refine ge_6_1 hx hb hts (inU inW_X6) hown hK hP k_32 (hts _ (List.mem_cons_of_mem _ lw_321)) dX6_guestLine_1 ?_
  refine ge_7_5 hx hb hts (inU inW_X7) hown hK hP k_17 (hts _ (List.mem_cons_of_mem _ lw_197)) dX6_guestLine_4 ?_
  refine lv_bipush (v := 6) hx hb dX6_guestLine_7 (by decide) ?_
  refine lv_icmp_lt (tgt := 17) hx hb dX6_guestLine_9 (by decide) (fun c1 => ?_) (fun c1 => ?_)
  · rw [if_pos c1] at h
    refine lv_aload_n hx hb dX6_guestLine_17 rfl (lv_at hl 0 rfl) ?_
    obtain ⟨z3, h2, h⟩ := bv_s h
    refine x_Vv (Rz := z3) (As := []) (rest := []) ⟨hx, hb, hml, hown, hts⟩ hK hP hS (kd_lt k_32 (by decide)) (cell_6 k_32) rfl (m_X6_advance hG   h2) (cwV 0 hts (gV lw_777 lw_779 lw_1 lw_112 lw_780) rfl rfl rfl (by decide +kernel) (rmd_ok (by decide) (by decide))) rfl hl.1 rfl (Nat.le_of_ble_eq_true rfl) dX6_guestLine_18 ⟨Nat.le_refl _, Nat.le_refl _⟩ (fun H locs hP hS => ?_)
    refine lv_aload_n hx hb dX6_guestLine_21 rfl (lv_at hl 0 rfl) ?_
    refine lv_aload_n hx hb dX6_guestLine_22 rfl (lv_at hl 0 rfl) ?_
    refine ge_6_1 hx hb hts (inU inW_X6) hown hK hP k_32 (hts _ (List.mem_cons_of_mem _ lw_321)) dX6_guestLine_23 ?_
    refine ge_7_6 hx hb hts (inU inW_X7) hown hK hP k_17 (hts _ (List.mem_cons_of_mem _ lw_201)) dX6_guestLine_26 ?_
    refine lv_aload_n hx hb dX6_guestLine_29 rfl (lv_at hl 0 rfl) ?_
    refine ge_6_1 hx hb hts (inU inW_X6) hown hK hP k_32 (hts _ (List.mem_cons_of_mem _ lw_321)) dX6_guestLine_30 ?_
    refine ge_7_5 hx hb hts (inU inW_X7) hown hK hP k_17 (hts _ (List.mem_cons_of_mem _ lw_197)) dX6_guestLine_33 ?_
    obtain ⟨z5, h4, h⟩ := bv_s h
    refine x_Vv (Rz := z5) (As := [.ref (G.2.2 22), .int (z3.1 17 5)]) (rest := []) ⟨hx, hb, hml, hown, hts⟩ hK hP hS (kd_lt k_32 (by decide)) (cell_6 k_32) rfl (m_X6_newName hG  k_22 h4) (cwV 2 hts (gV lw_821 lw_823 lw_9 lw_112 lw_824) rfl rfl rfl (by decide +kernel) (rmd_ok (by decide) (by decide))) rfl hl.1 rfl (Nat.le_of_ble_eq_true rfl) dX6_guestLine_36 ⟨Nat.le_refl _, Nat.le_refl _⟩ (fun H locs hP hS => ?_)
    refine lv_aload_n hx hb dX6_guestLine_39 rfl (lv_at hl 0 rfl) ?_
    refine lv_iconst (v := 4) hx hb dX6_guestLine_40 (by decide) ?_
    obtain ⟨z7, h6, h⟩ := bv_s h
    refine x_Vv (Rz := z7) (As := [.int 4]) (rest := []) ⟨hx, hb, hml, hown, hts⟩ hK hP hS (kd_lt k_32 (by decide)) (cell_6 k_32) rfl (m_X6_expectKeyword hG   h6) (cwV 1 hts (gV lw_829 lw_831 lw_11 lw_112 lw_832) rfl rfl rfl (by decide +kernel) (rmd_ok (by decide) (by decide))) rfl hl.1 rfl (Nat.le_of_ble_eq_true rfl) dX6_guestLine_41 ⟨Nat.le_refl _, Nat.le_refl _⟩ (fun H locs hP hS => ?_)
    refine lv_aload_n hx hb dX6_guestLine_44 rfl (lv_at hl 0 rfl) ?_
    refine lv_iconst (v := 0) hx hb dX6_guestLine_45 (by decide) ?_
    refine lv_sipush (v := 999) hx hb dX6_guestLine_46 (by decide) ?_
    obtain ⟨r9, z10, h8, h⟩ := bd_s h
    refine x_Vi (Rz := (r9, z10)) (As := [.int 0, .int 999]) (rest := []) ⟨hx, hb, hml, hown, hts⟩ hK hP hS (kd_lt k_32 (by decide)) (cell_6 k_32) rfl (m_X6_numberWithin hG   h8) (cwV 2 hts (gV lw_825 lw_827 lw_10 lw_112 lw_828) rfl rfl rfl (by decide +kernel) (rmd_ok (by decide) (by decide))) rfl hl.1 rfl (Nat.le_of_ble_eq_true rfl) dX6_guestLine_49 ⟨Nat.le_refl _, Nat.le_refl _⟩ (fun H locs hP hS => ?_)
    refine lv_istore_n (lv' := [(1, .int r9), (0, .ref (G.2.2 32))]) hx hb dX6_guestLine_52 rfl hl (by decide) rfl (fun ls hl => ?_)
    refine lv_iconst (v := 0) hx hb dX6_guestLine_53 (by decide) ?_
    refine lv_istore_n (lv' := [(2, .int 0), (1, .int r9), (0, .ref (G.2.2 32))]) hx hb dX6_guestLine_54 rfl hl (by decide) rfl (fun ls hl => ?_)
    refine lv_aload_n hx hb dX6_guestLine_55 rfl (lv_at hl 2 rfl) ?_
    refine lv_iconst (v := 5) hx hb dX6_guestLine_56 (by decide) ?_
    obtain ⟨r12, z13, h11, h⟩ := bd_s h
    refine x_Vi (Rz := (r12, z13)) (As := [.int 5]) (rest := []) ⟨hx, hb, hml, hown, hts⟩ hK hP hS (kd_lt k_32 (by decide)) (cell_6 k_32) rfl (m_X6_isKeyword hG   h11) (cwV 1 hts (gV lw_833 lw_835 lw_12 lw_112 lw_836) rfl rfl rfl (by decide +kernel) (rmd_ok (by decide) (by decide))) rfl hl.1 rfl (Nat.le_of_ble_eq_true rfl) dX6_guestLine_57 ⟨Nat.le_refl _, Nat.le_refl _⟩ (fun H locs hP hS => ?_)
    refine lv_if_eq (tgt := 75) hx hb dX6_guestLine_60 (by decide) (fun c14 => ?_) (fun c14 => ?_)
    · rw [if_pos c14] at h
      exact pf_X6_guestLine_75 C   r9 0 z13  hP hS (lv_sub hl [2, 1, 0] rfl) h
    · rw [if_neg c14] at h
      refine lv_aload_n hx hb dX6_guestLine_63 rfl (lv_at hl 2 rfl) ?_
      obtain ⟨z16, h15, h⟩ := bv_s h
      refine x_Vv (Rz := z16) (As := []) (rest := []) ⟨hx, hb, hml, hown, hts⟩ hK hP hS (kd_lt k_32 (by decide)) (cell_6 k_32) rfl (m_X6_advance hG   h15) (cwV 0 hts (gV lw_777 lw_779 lw_1 lw_112 lw_780) rfl rfl rfl (by decide +kernel) (rmd_ok (by decide) (by decide))) rfl hl.1 rfl (Nat.le_of_ble_eq_true rfl) dX6_guestLine_64 ⟨Nat.le_refl _, Nat.le_refl _⟩ (fun H locs hP hS => ?_)
      refine lv_aload_n hx hb dX6_guestLine_67 rfl (lv_at hl 2 rfl) ?_
      refine lv_iconst (v := 0) hx hb dX6_guestLine_68 (by decide) ?_
      refine lv_bipush (v := 9) hx hb dX6_guestLine_69 (by decide) ?_
      obtain ⟨r18, z19, h17, h⟩ := bd_s h
      refine x_Vi (Rz := (r18, z19)) (As := [.int 0, .int 9]) (rest := []) ⟨hx, hb, hml, hown, hts⟩ hK hP hS (kd_lt k_32 (by decide)) (cell_6 k_32) rfl (m_X6_numberWithin hG   h17) (cwV 2 hts (gV lw_825 lw_827 lw_10 lw_112 lw_828) rfl rfl rfl (by decide +kernel) (rmd_ok (by decide) (by decide))) rfl hl.1 rfl (Nat.le_of_ble_eq_true rfl) dX6_guestLine_71 ⟨Nat.le_refl _, Nat.le_refl _⟩ (fun H locs hP hS => ?_)
      refine lv_istore_n (lv' := [(2, .int r18), (1, .int r9), (0, .ref (G.2.2 32))]) hx hb dX6_guestLine_74 rfl hl (by decide) rfl (fun ls hl => ?_)
      exact pf_X6_guestLine_75 C   r9 r18 z19  hP hS (lv_sub hl [2, 1, 0] rfl) h
  · rw [if_neg c1] at h
    refine lv_aload_n hx hb dX6_guestLine_12 rfl (lv_at hl 0 rfl) ?_
    obtain ⟨z21, h20, h⟩ := bv_s h
    refine x_Vv (Rz := z21) (As := []) (rest := []) ⟨hx, hb, hml, hown, hts⟩ hK hP hS (kd_lt k_32 (by decide)) (cell_6 k_32) rfl (m_X6_refuse hG   h20) (cwV 0 hts (gV lw_813 lw_815 lw_7 lw_112 lw_816) rfl rfl rfl (by decide +kernel) (rmd_ok (by decide) (by decide))) rfl hl.1 rfl (Nat.le_of_ble_eq_true rfl) dX6_guestLine_13 ⟨Nat.le_refl _, Nat.le_refl _⟩ (fun H locs hP hS => ?_)
    exact x_vret hx hb hr hlocks hK hP hS h dX6_guestLine_16
def fn_X6_paceLine  (z : St) : Option (St) := (if (z.1 17 13) = 0 then bv (fn_X6_advance   z) (fun z3 => nm (sI z3 17 13 1) (fun z4 => bd (fn_X6_numberWithin  0 60 z4) (fun r6 z7 => nm (sI z7 17 12 r6) (fun z8 => bv (fn_X6_expectSign  59 z8) (fun z10 => some z10))))) else bv (fn_X6_refuse   z) (fun z12 => some z12))
set_option maxHeartbeats 4000000 in
set_option maxRecDepth 100000 in
theorem m_X6_paceLine {l : Launch} {G : wG} (hG : Ok G)  {z : St} {Rz : St}  (h : fn_X6_paceLine   z = some Rz) : Met l yX6_paceLine (wsU yX6_paceLine cX6_paceLine 1 none) (rmd 5) (va_Pc [.ref (G.2.2 32)] (Pre G z)) (va_Qv (fun u => u = Rz) (Pre G) (AW G)) 0 0 (AW G) := by
  refine Met.ofW (cc := cX6_paceLine) (maxL := 1) (ret := none) (by decide) rfl ?_
  intro p e s m args below meth c s₁ B hml hv
  obtain ⟨rfl, hP, hK⟩ := hv
  have C : CX p s m ([.ref (G.2.2 32)] : List Value).toArray meth c cX6_paceLine 1 (wsU yX6_paceLine cX6_paceLine 1 none) RX6 none G := ⟨B.exec, B.bytes, hml, findClass_of_methodNamed B.named, atoms_spec (ws := (wsU yX6_paceLine cX6_paceLine 1 none)) B.pre, B.returns, B.notSynchronized, hK, hG⟩
  obtain ⟨hx, hb, -, hown, hts, hr, hlocks, -, -⟩ := id C
  have hS : va_S (AW G) s.heap s.heap [] := va_S.rf
  have hl := lv_entry [.ref (G.2.2 32)] (n := 1) (Nat.le_of_ble_eq_true rfl)
  rw [lg_entry_eq]
  generalize (lg_sl [.ref (G.2.2 32)] ++ List.replicate (1 - (lg_sl [.ref (G.2.2 32)]).length) Slot.unset).toArray = ls at hl ⊢
  have hl : lv_has ls 1 [(0, .ref (G.2.2 32))] := hl
  unfold fn_X6_paceLine at h
  refine lv_aload_n hx hb dX6_paceLine_0 rfl (lv_at hl 0 rfl) ?_
  refine ge_6_1 hx hb hts (inU inW_X6) hown hK hP k_32 (hts _ (List.mem_cons_of_mem _ lw_321)) dX6_paceLine_1 ?_
  refine ge_7_13 hx hb hts (inU inW_X7) hown hK hP k_17 (hts _ (List.mem_cons_of_mem _ lw_222)) dX6_paceLine_4 ?_
  refine lv_if_eq (tgt := 15) hx hb dX6_paceLine_7 (by decide) (fun c1 => ?_) (fun c1 => ?_)
  · rw [if_pos c1] at h
    refine lv_aload_n hx hb dX6_paceLine_15 rfl (lv_at hl 0 rfl) ?_
    obtain ⟨z3, h2, h⟩ := bv_s h
    refine x_Vv (Rz := z3) (As := []) (rest := []) ⟨hx, hb, hml, hown, hts⟩ hK hP hS (kd_lt k_32 (by decide)) (cell_6 k_32) rfl (m_X6_advance hG   h2) (cwV 0 hts (gV lw_777 lw_779 lw_1 lw_112 lw_780) rfl rfl rfl (by decide +kernel) (rmd_ok (by decide) (by decide))) rfl hl.1 rfl (Nat.le_of_ble_eq_true rfl) dX6_paceLine_16 ⟨Nat.le_refl _, Nat.le_refl _⟩ (fun H locs hP hS => ?_)
    refine lv_aload_n hx hb dX6_paceLine_19 rfl (lv_at hl 0 rfl) ?_
    refine ge_6_1 hx hb hts (inU inW_X6) hown hK hP k_32 (hts _ (List.mem_cons_of_mem _ lw_321)) dX6_paceLine_20 ?_
    refine lv_iconst (v := 1) hx hb dX6_paceLine_23 (by decide) ?_
    obtain ⟨z4, e_z4, h⟩ := nm_s h
    refine pu_7_13 hx hb hts (inU inW_X7) hown hK hG hP hS k_17 (hts _ (List.mem_cons_of_mem _ lw_222)) rfl dX6_paceLine_24 (fun H locs hP hS => ?_)
    rw [← e_z4] at hP
    refine lv_aload_n hx hb dX6_paceLine_27 rfl (lv_at hl 0 rfl) ?_
    refine ge_6_1 hx hb hts (inU inW_X6) hown hK hP k_32 (hts _ (List.mem_cons_of_mem _ lw_321)) dX6_paceLine_28 ?_
    refine lv_aload_n hx hb dX6_paceLine_31 rfl (lv_at hl 0 rfl) ?_
    refine lv_iconst (v := 0) hx hb dX6_paceLine_32 (by decide) ?_
    refine lv_bipush (v := 60) hx hb dX6_paceLine_33 (by decide) ?_
    obtain ⟨r6, z7, h5, h⟩ := bd_s h
    refine x_Vi (Rz := (r6, z7)) (As := [.int 0, .int 60]) (rest := [.ref (G.2.2 17)]) ⟨hx, hb, hml, hown, hts⟩ hK hP hS (kd_lt k_32 (by decide)) (cell_6 k_32) rfl (m_X6_numberWithin hG   h5) (cwV 2 hts (gV lw_825 lw_827 lw_10 lw_112 lw_828) rfl rfl rfl (by decide +kernel) (rmd_ok (by decide) (by decide))) rfl hl.1 rfl (Nat.le_of_ble_eq_true rfl) dX6_paceLine_35 ⟨Nat.le_refl _, Nat.le_refl _⟩ (fun H locs hP hS => ?_)
    obtain ⟨z8, e_z8, h⟩ := nm_s h
    refine pu_7_12 hx hb hts (inU inW_X7) hown hK hG hP hS k_17 (hts _ (List.mem_cons_of_mem _ lw_220)) dX6_paceLine_38 (fun H locs hP hS => ?_)
    rw [← e_z8] at hP
    refine lv_aload_n hx hb dX6_paceLine_41 rfl (lv_at hl 0 rfl) ?_
    refine lv_bipush (v := 59) hx hb dX6_paceLine_42 (by decide) ?_
    obtain ⟨z10, h9, h⟩ := bv_s h
    refine x_Vv (Rz := z10) (As := [.int 59]) (rest := []) ⟨hx, hb, hml, hown, hts⟩ hK hP hS (kd_lt k_32 (by decide)) (cell_6 k_32) rfl (m_X6_expectSign hG   h9) (cwV 1 hts (gV lw_837 lw_839 lw_13 lw_112 lw_840) rfl rfl rfl (by decide +kernel) (rmd_ok (by decide) (by decide))) rfl hl.1 rfl (Nat.le_of_ble_eq_true rfl) dX6_paceLine_44 ⟨Nat.le_refl _, Nat.le_refl _⟩ (fun H locs hP hS => ?_)
    exact x_vret hx hb hr hlocks hK hP hS h dX6_paceLine_47
  · rw [if_neg c1] at h
    refine lv_aload_n hx hb dX6_paceLine_10 rfl (lv_at hl 0 rfl) ?_
    obtain ⟨z12, h11, h⟩ := bv_s h
    refine x_Vv (Rz := z12) (As := []) (rest := []) ⟨hx, hb, hml, hown, hts⟩ hK hP hS (kd_lt k_32 (by decide)) (cell_6 k_32) rfl (m_X6_refuse hG   h11) (cwV 0 hts (gV lw_813 lw_815 lw_7 lw_112 lw_816) rfl rfl rfl (by decide +kernel) (rmd_ok (by decide) (by decide))) rfl hl.1 rfl (Nat.le_of_ble_eq_true rfl) dX6_paceLine_11 ⟨Nat.le_refl _, Nat.le_refl _⟩ (fun H locs hP hS => ?_)
    exact x_vret hx hb hr hlocks hK hP hS h dX6_paceLine_14
def fn_X6_drawLine  (z : St) : Option (St) := (if (z.1 17 15) = 0 then bv (fn_X6_advance   z) (fun z3 => nm (sI z3 17 15 1) (fun z4 => bd (fn_X6_numberWithin  0 999 z4) (fun r6 z7 => nm (sI z7 17 14 r6) (fun z8 => bv (fn_X6_expectSign  59 z8) (fun z10 => some z10))))) else bv (fn_X6_refuse   z) (fun z12 => some z12))
set_option maxHeartbeats 4000000 in
set_option maxRecDepth 100000 in
theorem m_X6_drawLine {l : Launch} {G : wG} (hG : Ok G)  {z : St} {Rz : St}  (h : fn_X6_drawLine   z = some Rz) : Met l yX6_drawLine (wsU yX6_drawLine cX6_drawLine 1 none) (rmd 5) (va_Pc [.ref (G.2.2 32)] (Pre G z)) (va_Qv (fun u => u = Rz) (Pre G) (AW G)) 0 0 (AW G) := by
  refine Met.ofW (cc := cX6_drawLine) (maxL := 1) (ret := none) (by decide) rfl ?_
  intro p e s m args below meth c s₁ B hml hv
  obtain ⟨rfl, hP, hK⟩ := hv
  have C : CX p s m ([.ref (G.2.2 32)] : List Value).toArray meth c cX6_drawLine 1 (wsU yX6_drawLine cX6_drawLine 1 none) RX6 none G := ⟨B.exec, B.bytes, hml, findClass_of_methodNamed B.named, atoms_spec (ws := (wsU yX6_drawLine cX6_drawLine 1 none)) B.pre, B.returns, B.notSynchronized, hK, hG⟩
  obtain ⟨hx, hb, -, hown, hts, hr, hlocks, -, -⟩ := id C
  have hS : va_S (AW G) s.heap s.heap [] := va_S.rf
  have hl := lv_entry [.ref (G.2.2 32)] (n := 1) (Nat.le_of_ble_eq_true rfl)
  rw [lg_entry_eq]
  generalize (lg_sl [.ref (G.2.2 32)] ++ List.replicate (1 - (lg_sl [.ref (G.2.2 32)]).length) Slot.unset).toArray = ls at hl ⊢
  have hl : lv_has ls 1 [(0, .ref (G.2.2 32))] := hl
  unfold fn_X6_drawLine at h
  refine lv_aload_n hx hb dX6_drawLine_0 rfl (lv_at hl 0 rfl) ?_
  refine ge_6_1 hx hb hts (inU inW_X6) hown hK hP k_32 (hts _ (List.mem_cons_of_mem _ lw_321)) dX6_drawLine_1 ?_
  refine ge_7_15 hx hb hts (inU inW_X7) hown hK hP k_17 (hts _ (List.mem_cons_of_mem _ lw_227)) dX6_drawLine_4 ?_
  refine lv_if_eq (tgt := 15) hx hb dX6_drawLine_7 (by decide) (fun c1 => ?_) (fun c1 => ?_)
  · rw [if_pos c1] at h
    refine lv_aload_n hx hb dX6_drawLine_15 rfl (lv_at hl 0 rfl) ?_
    obtain ⟨z3, h2, h⟩ := bv_s h
    refine x_Vv (Rz := z3) (As := []) (rest := []) ⟨hx, hb, hml, hown, hts⟩ hK hP hS (kd_lt k_32 (by decide)) (cell_6 k_32) rfl (m_X6_advance hG   h2) (cwV 0 hts (gV lw_777 lw_779 lw_1 lw_112 lw_780) rfl rfl rfl (by decide +kernel) (rmd_ok (by decide) (by decide))) rfl hl.1 rfl (Nat.le_of_ble_eq_true rfl) dX6_drawLine_16 ⟨Nat.le_refl _, Nat.le_refl _⟩ (fun H locs hP hS => ?_)
    refine lv_aload_n hx hb dX6_drawLine_19 rfl (lv_at hl 0 rfl) ?_
    refine ge_6_1 hx hb hts (inU inW_X6) hown hK hP k_32 (hts _ (List.mem_cons_of_mem _ lw_321)) dX6_drawLine_20 ?_
    refine lv_iconst (v := 1) hx hb dX6_drawLine_23 (by decide) ?_
    obtain ⟨z4, e_z4, h⟩ := nm_s h
    refine pu_7_15 hx hb hts (inU inW_X7) hown hK hG hP hS k_17 (hts _ (List.mem_cons_of_mem _ lw_227)) rfl dX6_drawLine_24 (fun H locs hP hS => ?_)
    rw [← e_z4] at hP
    refine lv_aload_n hx hb dX6_drawLine_27 rfl (lv_at hl 0 rfl) ?_
    refine ge_6_1 hx hb hts (inU inW_X6) hown hK hP k_32 (hts _ (List.mem_cons_of_mem _ lw_321)) dX6_drawLine_28 ?_
    refine lv_aload_n hx hb dX6_drawLine_31 rfl (lv_at hl 0 rfl) ?_
    refine lv_iconst (v := 0) hx hb dX6_drawLine_32 (by decide) ?_
    refine lv_sipush (v := 999) hx hb dX6_drawLine_33 (by decide) ?_
    obtain ⟨r6, z7, h5, h⟩ := bd_s h
    refine x_Vi (Rz := (r6, z7)) (As := [.int 0, .int 999]) (rest := [.ref (G.2.2 17)]) ⟨hx, hb, hml, hown, hts⟩ hK hP hS (kd_lt k_32 (by decide)) (cell_6 k_32) rfl (m_X6_numberWithin hG   h5) (cwV 2 hts (gV lw_825 lw_827 lw_10 lw_112 lw_828) rfl rfl rfl (by decide +kernel) (rmd_ok (by decide) (by decide))) rfl hl.1 rfl (Nat.le_of_ble_eq_true rfl) dX6_drawLine_36 ⟨Nat.le_refl _, Nat.le_refl _⟩ (fun H locs hP hS => ?_)
    obtain ⟨z8, e_z8, h⟩ := nm_s h
    refine pu_7_14 hx hb hts (inU inW_X7) hown hK hG hP hS k_17 (hts _ (List.mem_cons_of_mem _ lw_225)) dX6_drawLine_39 (fun H locs hP hS => ?_)
    rw [← e_z8] at hP
    refine lv_aload_n hx hb dX6_drawLine_42 rfl (lv_at hl 0 rfl) ?_
    refine lv_bipush (v := 59) hx hb dX6_drawLine_43 (by decide) ?_
    obtain ⟨z10, h9, h⟩ := bv_s h
    refine x_Vv (Rz := z10) (As := [.int 59]) (rest := []) ⟨hx, hb, hml, hown, hts⟩ hK hP hS (kd_lt k_32 (by decide)) (cell_6 k_32) rfl (m_X6_expectSign hG   h9) (cwV 1 hts (gV lw_837 lw_839 lw_13 lw_112 lw_840) rfl rfl rfl (by decide +kernel) (rmd_ok (by decide) (by decide))) rfl hl.1 rfl (Nat.le_of_ble_eq_true rfl) dX6_drawLine_45 ⟨Nat.le_refl _, Nat.le_refl _⟩ (fun H locs hP hS => ?_)
    exact x_vret hx hb hr hlocks hK hP hS h dX6_drawLine_48
  · rw [if_neg c1] at h
    refine lv_aload_n hx hb dX6_drawLine_10 rfl (lv_at hl 0 rfl) ?_
    obtain ⟨z12, h11, h⟩ := bv_s h
    refine x_Vv (Rz := z12) (As := []) (rest := []) ⟨hx, hb, hml, hown, hts⟩ hK hP hS (kd_lt k_32 (by decide)) (cell_6 k_32) rfl (m_X6_refuse hG   h11) (cwV 0 hts (gV lw_813 lw_815 lw_7 lw_112 lw_816) rfl rfl rfl (by decide +kernel) (rmd_ok (by decide) (by decide))) rfl hl.1 rfl (Nat.le_of_ble_eq_true rfl) dX6_drawLine_11 ⟨Nat.le_refl _, Nat.le_refl _⟩ (fun H locs hP hS => ?_)
    exact x_vret hx hb hr hlocks hK hP hS h dX6_drawLine_14
def fn_X6_plainUnit_26 (tv0 : Int32) (z : St) : Option (Int32 × St) := (if tv0 = 5 then some (3, z) else (if tv0 = 6 then some ((-1), z) else (if tv0 = 7 then some ((-1), z) else (if tv0 = 8 then some ((-1), z) else (if tv0 = 9 then some ((-1), z) else (if tv0 = 10 then some ((-1), z) else (if tv0 = 11 then some ((-1), z) else (if tv0 = 12 then some ((-1), z) else (if tv0 = 13 then some ((-1), z) else (if tv0 = 14 then some (1, z) else (if tv0 = 15 then some (2, z) else (if tv0 = 16 then some (4, z) else (if tv0 = 17 then some (5, z) else (if tv0 = 18 then some (6, z) else (some ((-1), z))))))))))))))))
set_option maxHeartbeats 4000000 in
set_option maxRecDepth 100000 in
theorem pf_X6_plainUnit_26 {p : Program} {l : Launch} {e : Env} {s : State} {m : MethodId} {args : Array Value} {below : List Frame} {meth : Method} {c : Code} {G : wG} (C : CX p s m args meth c cX6_plainUnit 1 (wsU yX6_plainUnit cX6_plainUnit 1 (some .int)) RX6 (some .int) G) {Rz : Int32 × St} (tv0 : Int32) (z : St)  {H : Heap} {locs : List Loc} {ls : Array Slot} (hP : WP G z H) (hS : va_S (AW G) s.heap H locs) (hl : lv_has ls 1 []) (h : fn_X6_plainUnit_26   tv0 z = some Rz) : W p l e (rmd 1) s m args below meth c H locs 0 0 (QI below args s G Rz) (F0 m 26 ls [.int tv0]) := by
  obtain ⟨hx, hb, hml, hown, hts, hr, hlocks, hK, hG⟩ := id C
  unfold fn_X6_plainUnit_26 at h
  by_cases c1 : tv0 = 5
  · rw [if_pos c1] at h
    refine lv_tableIn (off := 74) (tgt := 100) hx hb dX6_plainUnit_26 (by rw [c1]; decide) (by rw [c1]; decide) (by rw [c1]; rfl) (by decide) ?_
    refine lv_iconst (v := 3) hx hb dX6_plainUnit_100 (by decide) ?_
    exact x_iret hx hb hr hlocks hK hP hS h dX6_plainUnit_101
  rw [if_neg c1] at h
  by_cases c2 : tv0 = 6
  · rw [if_pos c2] at h
    refine lv_tableIn (off := 83) (tgt := 109) hx hb dX6_plainUnit_26 (by rw [c2]; decide) (by rw [c2]; decide) (by rw [c2]; rfl) (by decide) ?_
    refine lv_iconst (v := (-1)) hx hb dX6_plainUnit_109 (by decide) ?_
    exact x_iret hx hb hr hlocks hK hP hS h dX6_plainUnit_110
  rw [if_neg c2] at h
  by_cases c3 : tv0 = 7
  · rw [if_pos c3] at h
    refine lv_tableIn (off := 83) (tgt := 109) hx hb dX6_plainUnit_26 (by rw [c3]; decide) (by rw [c3]; decide) (by rw [c3]; rfl) (by decide) ?_
    refine lv_iconst (v := (-1)) hx hb dX6_plainUnit_109 (by decide) ?_
    exact x_iret hx hb hr hlocks hK hP hS h dX6_plainUnit_110
  rw [if_neg c3] at h
  by_cases c4 : tv0 = 8
  · rw [if_pos c4] at h
    refine lv_tableIn (off := 83) (tgt := 109) hx hb dX6_plainUnit_26 (by rw [c4]; decide) (by rw [c4]; decide) (by rw [c4]; rfl) (by decide) ?_
    refine lv_iconst (v := (-1)) hx hb dX6_plainUnit_109 (by decide) ?_
    exact x_iret hx hb hr hlocks hK hP hS h dX6_plainUnit_110
  rw [if_neg c4] at h
  by_cases c5 : tv0 = 9
  · rw [if_pos c5] at h
    refine lv_tableIn (off := 83) (tgt := 109) hx hb dX6_plainUnit_26 (by rw [c5]; decide) (by rw [c5]; decide) (by rw [c5]; rfl) (by decide) ?_
    refine lv_iconst (v := (-1)) hx hb dX6_plainUnit_109 (by decide) ?_
    exact x_iret hx hb hr hlocks hK hP hS h dX6_plainUnit_110
  rw [if_neg c5] at h
  by_cases c6 : tv0 = 10
  · rw [if_pos c6] at h
    refine lv_tableIn (off := 83) (tgt := 109) hx hb dX6_plainUnit_26 (by rw [c6]; decide) (by rw [c6]; decide) (by rw [c6]; rfl) (by decide) ?_
    refine lv_iconst (v := (-1)) hx hb dX6_plainUnit_109 (by decide) ?_
    exact x_iret hx hb hr hlocks hK hP hS h dX6_plainUnit_110
  rw [if_neg c6] at h
  by_cases c7 : tv0 = 11
  · rw [if_pos c7] at h
    refine lv_tableIn (off := 83) (tgt := 109) hx hb dX6_plainUnit_26 (by rw [c7]; decide) (by rw [c7]; decide) (by rw [c7]; rfl) (by decide) ?_
    refine lv_iconst (v := (-1)) hx hb dX6_plainUnit_109 (by decide) ?_
    exact x_iret hx hb hr hlocks hK hP hS h dX6_plainUnit_110
  rw [if_neg c7] at h
  by_cases c8 : tv0 = 12
  · rw [if_pos c8] at h
    refine lv_tableIn (off := 83) (tgt := 109) hx hb dX6_plainUnit_26 (by rw [c8]; decide) (by rw [c8]; decide) (by rw [c8]; rfl) (by decide) ?_
    refine lv_iconst (v := (-1)) hx hb dX6_plainUnit_109 (by decide) ?_
    exact x_iret hx hb hr hlocks hK hP hS h dX6_plainUnit_110
  rw [if_neg c8] at h
  by_cases c9 : tv0 = 13
  · rw [if_pos c9] at h
    refine lv_tableIn (off := 83) (tgt := 109) hx hb dX6_plainUnit_26 (by rw [c9]; decide) (by rw [c9]; decide) (by rw [c9]; rfl) (by decide) ?_
    refine lv_iconst (v := (-1)) hx hb dX6_plainUnit_109 (by decide) ?_
    exact x_iret hx hb hr hlocks hK hP hS h dX6_plainUnit_110
  rw [if_neg c9] at h
  by_cases c10 : tv0 = 14
  · rw [if_pos c10] at h
    refine lv_tableIn (off := 70) (tgt := 96) hx hb dX6_plainUnit_26 (by rw [c10]; decide) (by rw [c10]; decide) (by rw [c10]; rfl) (by decide) ?_
    refine lv_iconst (v := 1) hx hb dX6_plainUnit_96 (by decide) ?_
    exact x_iret hx hb hr hlocks hK hP hS h dX6_plainUnit_97
  rw [if_neg c10] at h
  by_cases c11 : tv0 = 15
  · rw [if_pos c11] at h
    refine lv_tableIn (off := 72) (tgt := 98) hx hb dX6_plainUnit_26 (by rw [c11]; decide) (by rw [c11]; decide) (by rw [c11]; rfl) (by decide) ?_
    refine lv_iconst (v := 2) hx hb dX6_plainUnit_98 (by decide) ?_
    exact x_iret hx hb hr hlocks hK hP hS h dX6_plainUnit_99
  rw [if_neg c11] at h
  by_cases c12 : tv0 = 16
  · rw [if_pos c12] at h
    refine lv_tableIn (off := 76) (tgt := 102) hx hb dX6_plainUnit_26 (by rw [c12]; decide) (by rw [c12]; decide) (by rw [c12]; rfl) (by decide) ?_
    refine lv_iconst (v := 4) hx hb dX6_plainUnit_102 (by decide) ?_
    exact x_iret hx hb hr hlocks hK hP hS h dX6_plainUnit_103
  rw [if_neg c12] at h
  by_cases c13 : tv0 = 17
  · rw [if_pos c13] at h
    refine lv_tableIn (off := 78) (tgt := 104) hx hb dX6_plainUnit_26 (by rw [c13]; decide) (by rw [c13]; decide) (by rw [c13]; rfl) (by decide) ?_
    refine lv_iconst (v := 5) hx hb dX6_plainUnit_104 (by decide) ?_
    exact x_iret hx hb hr hlocks hK hP hS h dX6_plainUnit_105
  rw [if_neg c13] at h
  by_cases c14 : tv0 = 18
  · rw [if_pos c14] at h
    refine lv_tableIn (off := 80) (tgt := 106) hx hb dX6_plainUnit_26 (by rw [c14]; decide) (by rw [c14]; decide) (by rw [c14]; rfl) (by decide) ?_
    refine lv_bipush (v := 6) hx hb dX6_plainUnit_106 (by decide) ?_
    exact x_iret hx hb hr hlocks hK hP hS h dX6_plainUnit_108
  rw [if_neg c14] at h
  have n15 : (tv0 : Int32).toInt < 5 ∨ 18 < (tv0 : Int32).toInt := by
    have c1_n := lv_neT (a := 5) c1 (by decide)
    have c2_n := lv_neT (a := 6) c2 (by decide)
    have c3_n := lv_neT (a := 7) c3 (by decide)
    have c4_n := lv_neT (a := 8) c4 (by decide)
    have c5_n := lv_neT (a := 9) c5 (by decide)
    have c6_n := lv_neT (a := 10) c6 (by decide)
    have c7_n := lv_neT (a := 11) c7 (by decide)
    have c8_n := lv_neT (a := 12) c8 (by decide)
    have c9_n := lv_neT (a := 13) c9 (by decide)
    have c10_n := lv_neT (a := 14) c10 (by decide)
    have c11_n := lv_neT (a := 15) c11 (by decide)
    have c12_n := lv_neT (a := 16) c12 (by decide)
    have c13_n := lv_neT (a := 17) c13 (by decide)
    have c14_n := lv_neT (a := 18) c14 (by decide)
    omega
  refine lv_tableOut (tgt := 109) hx hb dX6_plainUnit_26 n15 (by decide) ?_
  refine lv_iconst (v := (-1)) hx hb dX6_plainUnit_109 (by decide) ?_
  exact x_iret hx hb hr hlocks hK hP hS h dX6_plainUnit_110
def fn_X6_plainUnit  (z : St) : Option (Int32 × St) := (if (z.1 32 5) = 2 then some (0, z) else (if (z.1 32 5) = 1 then fn_X6_plainUnit_26   (z.1 32 9) z else fn_X6_plainUnit_26   (-1) z))
set_option maxHeartbeats 4000000 in
set_option maxRecDepth 100000 in
theorem m_X6_plainUnit {l : Launch} {G : wG} (hG : Ok G)  {z : St} {Rz : Int32 × St}  (h : fn_X6_plainUnit   z = some Rz) : Met l yX6_plainUnit (wsU yX6_plainUnit cX6_plainUnit 1 (some .int)) (rmd 1) (va_Pc [.ref (G.2.2 32)] (Pre G z)) (va_Qi (fun r u => (r, u) = Rz) (Pre G) (AW G)) 0 0 (AW G) := by
  refine Met.ofW (cc := cX6_plainUnit) (maxL := 1) (ret := (some .int)) (by decide) rfl ?_
  intro p e s m args below meth c s₁ B hml hv
  obtain ⟨rfl, hP, hK⟩ := hv
  have C : CX p s m ([.ref (G.2.2 32)] : List Value).toArray meth c cX6_plainUnit 1 (wsU yX6_plainUnit cX6_plainUnit 1 (some .int)) RX6 (some .int) G := ⟨B.exec, B.bytes, hml, findClass_of_methodNamed B.named, atoms_spec (ws := (wsU yX6_plainUnit cX6_plainUnit 1 (some .int))) B.pre, B.returns, B.notSynchronized, hK, hG⟩
  obtain ⟨hx, hb, -, hown, hts, hr, hlocks, -, -⟩ := id C
  have hS : va_S (AW G) s.heap s.heap [] := va_S.rf
  have hl := lv_entry [.ref (G.2.2 32)] (n := 1) (Nat.le_of_ble_eq_true rfl)
  rw [lg_entry_eq]
  generalize (lg_sl [.ref (G.2.2 32)] ++ List.replicate (1 - (lg_sl [.ref (G.2.2 32)]).length) Slot.unset).toArray = ls at hl ⊢
  have hl : lv_has ls 1 [(0, .ref (G.2.2 32))] := hl
  unfold fn_X6_plainUnit at h
  refine lv_aload_n hx hb dX6_plainUnit_0 rfl (lv_at hl 0 rfl) ?_
  refine ge_6_5 hx hb hts (inU inW_X6) hown hK hP k_32 (hts _ (List.mem_cons_of_mem _ lw_325)) dX6_plainUnit_1 ?_
  refine lv_iconst (v := 2) hx hb dX6_plainUnit_4 (by decide) ?_
  refine lv_icmp_ne (tgt := 10) hx hb dX6_plainUnit_5 (by decide) (fun c1 => ?_) (fun c1 => ?_)
  · rw [if_neg c1] at h
    refine lv_aload_n hx hb dX6_plainUnit_10 rfl (lv_at hl 0 rfl) ?_
    refine ge_6_5 hx hb hts (inU inW_X6) hown hK hP k_32 (hts _ (List.mem_cons_of_mem _ lw_325)) dX6_plainUnit_11 ?_
    refine lv_iconst (v := 1) hx hb dX6_plainUnit_14 (by decide) ?_
    refine lv_icmp_ne (tgt := 25) hx hb dX6_plainUnit_15 (by decide) (fun c2 => ?_) (fun c2 => ?_)
    · rw [if_neg c2] at h
      refine lv_iconst (v := (-1)) hx hb dX6_plainUnit_25 (by decide) ?_
      exact pf_X6_plainUnit_26 C   (-1) z  hP hS (lv_sub hl [] rfl) h
    · rw [if_pos c2] at h
      refine lv_aload_n hx hb dX6_plainUnit_18 rfl (lv_at hl 0 rfl) ?_
      refine ge_6_9 hx hb hts (inU inW_X6) hown hK hP k_32 (hts _ (List.mem_cons_of_mem _ lw_329)) dX6_plainUnit_19 ?_
      refine lv_goto (tgt := 26) hx hb dX6_plainUnit_22 (by decide) ?_
      exact pf_X6_plainUnit_26 C   (z.1 32 9) z  hP hS (lv_sub hl [] rfl) h
  · rw [if_pos c1] at h
    refine lv_iconst (v := 0) hx hb dX6_plainUnit_8 (by decide) ?_
    exact x_iret hx hb hr hlocks hK hP hS h dX6_plainUnit_9
