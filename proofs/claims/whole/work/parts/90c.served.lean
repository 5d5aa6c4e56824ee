section
variable {z w : St} {c : RC} {F0 F1 : FO} {b : BD}
theorem m_put {pl v : Nat} (hN : 6 ≤ ln pl ∧ ln pl ≤ 25) (hv : v ≤ 2000) : ∀ (r : List Nat) (m : Nat) (z : St), AR pl z r → r.length < ln pl → r.length < m → (∀ x ∈ r, x ≤ 2000) → ∃ w, fn_X12_put_2 m pl (iI (v : Int)) (iI (r.length : Int)) z = some w ∧ AR pl w (insR v r) ∧ ∀ a j, a ≠ pl ∨ r.length < j → SA z w a j := by
  intro r
  induction r with
  | nil =>
    intro m z h1 h2 h3 h4
    obtain ⟨m, rfl⟩ : ∃ k, m = k + 1 := ⟨m - 1, by simp at h3; omega⟩
    rw [fn_X12_put_2, if_pos (by decide)]
    unfold fn_X12_put_29
    rw [gd_t (iI_ix (by simp; omega)), nm_o, iI_clampN (by simp)]
    refine ⟨_, rfl, ⟨by rw [sI_at, if_pos rfl], trivial⟩, fun a j h => sa_I rfl (by rw [List.length_nil] at h; show ¬ (a = pl ∧ j = 0); omega)⟩
  | cons a t ih =>
    intro m z h1 h2 h3 h4
    rw [List.length_cons] at h2 h3
    obtain ⟨m, rfl⟩ : ∃ k, m = k + 1 := ⟨m - 1, by omega⟩
    have ha := h4 a (List.mem_cons_self ..)
    have e1 : iI (((a :: t).length : Nat) : Int) - 1 = iI (t.length : Int) := by rw [q_1, iI_sub, List.length_cons]; congr 1; omega
    rw [fn_X12_put_2, if_neg (by rw [q_0]; exact nle (by rw [List.length_cons]; omega) (by omega) (by rw [List.length_cons]; omega)), e1, gd_t (iI_ix (by omega)), iI_clampN (by omega), h1.1, insR]
    by_cases hva : v < a
    · rw [if_neg (nle (by omega) (by omega) (by omega)), gd_t (iI_ix (by omega)), gd_t (iI_ix (by rw [List.length_cons]; omega)), nm_o, iI_clampN (by rw [List.length_cons]; omega), if_pos hva, show iI (((a :: t).length : Nat) : Int) + -1 = iI (t.length : Int) from by rw [q_m1, iI_add, List.length_cons]; congr 1; omega]
      obtain ⟨w, g1, g2, g3⟩ := ih m (sI z pl (a :: t).length (iI (a : Int))) (h1.2.fr fun j hj => by rw [sI_at, if_neg (by rw [List.length_cons]; omega)]) (by omega) (by omega) fun x hx => h4 x (List.mem_cons_of_mem _ hx)
      refine ⟨w, g1, ⟨?_, g2⟩, fun a' j h => (sa_I rfl (by rw [List.length_cons] at h ⊢; omega)).tr (g3 a' j (by rw [List.length_cons] at h; omega))⟩
      rw [insR_len, (g3 pl (t.length + 1) (Or.inr (by omega))).1, sI_at, if_pos (by rw [List.length_cons])]
    · rw [if_pos (yle (by omega) (by omega) (by omega)), if_neg hva]
      unfold fn_X12_put_29
      rw [gd_t (iI_ix (by rw [List.length_cons]; omega)), nm_o, iI_clampN (by rw [List.length_cons]; omega)]
      refine ⟨_, rfl, ⟨by rw [sI_at, if_pos rfl], AR.fr h1 fun j hj => by rw [sI_at, if_neg (by rw [List.length_cons] at hj ⊢; omega)]⟩, fun a j h => sa_I rfl (by omega)⟩
def Cg (b : BD) (g0 : Int) (g : Nat) : Bool := decide ((g : Int) ≠ g0 ∧ hp b g = -1)
def Vg (c : RC) (mo : Int) (g : Nat) : Nat := (c 3 g + mo).toNat
def Cp (b : BD) (p0 : Int) (p : Nat) : Bool := decide ((p : Int) ≠ p0 ∧ pc b p 6 = -1)
def Vp (c : RC) (b : BD) (p : Nat) : Nat := (ar c (pc b p)).toNat
/-- how many can be served -/
def sv (c : RC) (b : BD) (g0 p0 mo : Int) : Int := svI (fun w => (cA (Cp b p0) (Vp c b) w (b 168).toNat : Int)) (WL (Cg b g0) (Vg c mo) (c 6 1).toNat)
theorem Vg_b (hC : VC c) {mo : Int} (hm : -99 ≤ mo ∧ mo ≤ 99) {g : Nat} (hg : (g : Int) < c 6 1) : Vg c mo g ≤ 2000 := by
  have := hC.2.2.2.2 g hg
  unfold Vg
  omega
theorem Vp_b (hC : VC c) (hV : VB c b) {p : Nat} (hp : (p : Int) < b 168) : ((Vp c b p : Nat) : Int) = ar c (pc b p) ∧ Vp c b p ≤ 2000 := by
  have := ar_b hC (hV.2.2.1 p hp)
  unfold Vp
  omega
theorem WR_mem {C : Nat → Bool} {V : Nat → Nat} {k B : Nat} (h : ∀ i, i < k → C i = true → V i ≤ B) : ∀ x ∈ WR C V k, x ≤ B := fun x hx => WL_bound k h x (by rw [← WL_WR]; exact List.mem_reverse.mpr hx)
theorem m_greedy {as ds : List Nat} (h55 : z.1 172 55 = iI (ds.length : Int)) (h56 : z.1 172 56 = iI (as.length : Int)) (ha : as.length ≤ 25) (hd : ds.length ≤ 6) (ga : ∀ i x : Nat, as[i]? = some x → z.1 201 i = iI (x : Int)) (gb : ∀ i x : Nat, ds[i]? = some x → z.1 200 i = iI (x : Int)) (ba : ∀ x ∈ as, x ≤ 2000) (bd : ∀ x ∈ ds, x ≤ 2000) : ∀ (d k n m : Nat), k + d = as.length → n ≤ ds.length → d < m → fn_X12_servedBut_159 m (iI (n : Int)) (iI (k : Int)) z = some (iI ((n + sv_gr (as.drop k) (ds.drop n) : Nat) : Int), z) := by
  intro d
  induction d with
  | zero =>
    intro k n m hk hn hm
    obtain ⟨m, rfl⟩ : ∃ k, m = k + 1 := ⟨m - 1, by omega⟩
    rw [fn_X12_servedBut_159, h56, if_pos (yle (by omega) (by omega) (by omega)), List.drop_eq_nil_of_le (show as.length ≤ k from by omega)]
    rfl
  | succ d ih =>
    intro k n m hk hn hm
    obtain ⟨m, rfl⟩ : ∃ k, m = k + 1 := ⟨m - 1, by omega⟩
    have hka : k < as.length := by omega
    rw [fn_X12_servedBut_159, h56, if_neg (nle (by omega) (by omega) (by omega)), h55, List.drop_eq_getElem_cons hka]
    by_cases hnd : n = ds.length
    · rw [if_pos (yle (by omega) (by omega) (by omega)), List.drop_eq_nil_of_le (show ds.length ≤ n from by omega)]
      rfl
    · have hnl : n < ds.length := by omega
      have b1 := ba _ (List.getElem_mem hka)
      have b2 := bd _ (List.getElem_mem hnl)
      rw [if_neg (nle (by omega) (by omega) (by omega)), gd_t (iI_ix (by omega)), gd_t (iI_ix (by omega)), iI_clampN (by omega), iI_clampN (by omega), ga k _ (List.getElem?_eq_getElem hka), gb n _ (List.getElem?_eq_getElem hnl), List.drop_eq_getElem_cons hnl, sv_gr]
      unfold fn_X12_servedBut_195
      rw [k1]
      by_cases hle : ds[n] ≤ as[k]
      · rw [if_neg (nlt (by omega) (by omega) (by omega)), if_pos hle, k1, ih (k + 1) (n + 1) m (by omega) (by omega) (by omega)]
        congr 4
        omega
      · rw [if_pos (ylt (by omega) (by omega) (by omega)), if_neg hle, ih (k + 1) n m (by omega) (by omega) (by omega), List.drop_eq_getElem_cons hnl]
theorem m_servedBut {g0 p0 mo : Int} (h : RM z c F0 F1 b) (hmo : z.1 172 57 = iI mo) (hm : -99 ≤ mo ∧ mo ≤ 99) (hg0 : -2147483648 ≤ g0 ∧ g0 < 2147483648) (hp0 : -2147483648 ≤ p0 ∧ p0 < 2147483648) : ∃ w, fn_X12_servedBut (iI g0) (iI p0) z = some (iI (sv c b g0 p0 mo), w) := by
  have hC := h.1
  have hV := h.2.1
  have hn := hV.1
  have hG := hC.2.1
  have l200 : ln 200 = 6 := by decide
  have l201 : ln 201 = 25 := by decide
  -- wants
  obtain ⟨m, s, ⟨i1, i2, i3, i4⟩, hm1⟩ := loopE (fun m g s => fn_X12_servedBut_12 m (iI g0) (iI p0) (iI (g : Int)) s) (fun g s => AR 200 s (WR (Cg b g0) (Vg c mo) g) ∧ s.1 172 55 = iI ((WR (Cg b g0) (Vg c mo) g).length : Int) ∧ s.1 172 56 = 0 ∧ ∀ a j, a ≠ 200 → ¬ (a = 172 ∧ (j = 55 ∨ j = 56)) → SA z s a j) (c 6 1).toNat (by omega) (sI (sI z 172 55 0) 172 56 0) ⟨trivial, by rw [sI_at, if_neg (by omega), sI_at, if_pos rfl]; exact q_0, by rw [sI_at, if_pos rfl], fun a j h1 h2 => (sa_I rfl (by omega)).tr (sa_I rfl (by omega))⟩ (fun g m s hg ⟨i1, i2, i3, i4⟩ => by
    have hgc : (g : Int) < c 6 1 := by omega
    have Ms : RM s c F0 F1 b := h.fr fun a j q => i4 a j (by unfold QM QR at q; omega) (by unfold QM QR at q; omega)
    have hb := hp_b hV g
    have hl := WR_len (C := Cg b g0) (V := Vg c mo) g
    have hw := hC.2.2.2.2 g hgc
    show ∃ s', _ ∧ fn_X12_servedBut_12 (m + 1) _ _ _ _ = fn_X12_servedBut_12 m _ _ _ _
    rw [fn_X12_servedBut_12, Ms.2.2.2.2.1.2.1, if_neg (nle (by omega) (by omega) (by omega))]
    unfold fn_X12_servedBut_73 fn_X12_servedBut_86
    rw [k1, WR]
    by_cases e0 : (g : Int) = g0
    · rw [if_pos (show iI (g : Int) = iI g0 from by rw [e0]), if_neg (show ¬ Cg b g0 g = true from by unfold Cg; simp [e0])]
      exact ⟨s, ⟨i1, i2, i3, i4⟩, rfl⟩
    · rw [if_neg (neq (by omega) hg0 e0), bd_o (m_pieceOf hC Ms.2.2.2.2.2.1 hV (by omega))]
      by_cases hh : hp b g = -1
      · have ec : Cg b g0 g = true := decide_eq_true ⟨e0, hh⟩
        have m57 : s.1 172 57 = iI mo := (i4 172 57 (by omega) (by omega)).1.trans hmo
        rw [hh, if_pos (show iI (-1) < 0 from by decide), gd_t (iI_ix (by omega)), gd_t (iI_ix (by omega)), iI_clampN (by omega), (Ms.2.2.2.2.1.2.2.2.2 g hgc).1, m57, iI_add, if_pos ec, i2]
        have hv : (if 0 ≤ iI (c 3 g + mo) then iI (c 3 g + mo) else 0) = iI ((Vg c mo g : Nat) : Int) := by
          unfold Vg
          by_cases h0 : 0 ≤ c 3 g + mo
          · rw [if_pos (by rw [q_0]; exact yle (by omega) (by omega) h0)]; congr 1; omega
          · rw [if_neg (by rw [q_0]; exact nle (by omega) (by omega) h0), q_0]; congr 1; omega
        obtain ⟨w, e, g1, g2⟩ := m_put (pl := 200) (v := Vg c mo g) (by rw [l200]; omega) (Vg_b hC hm hgc) (WR (Cg b g0) (Vg c mo) g) fu s i1 (by rw [l200]; omega) (by unfold fu; omega) (WR_mem fun i hi _ => Vg_b hC hm (by omega))
        have e' : ∀ v, v = iI ((Vg c mo g : Nat) : Int) → (bv (fn_X12_put 200 (iI ((WR (Cg b g0) (Vg c mo) g).length : Int)) v s) fun z2 => nm (sI z2 172 55 (z2.1 172 55 + 1)) fun z3 => fn_X12_servedBut_12 m (iI g0) (iI p0) (iI ((g + 1 : Nat) : Int)) z3) = fn_X12_servedBut_12 m (iI g0) (iI p0) (iI ((g + 1 : Nat) : Int)) (sI w 172 55 (iI ((insR (Vg c mo g) (WR (Cg b g0) (Vg c mo) g)).length : Int))) := by
          intro v hv'
          unfold fn_X12_put
          rw [hv', bv_o e, nm_o, (g2 172 55 (Or.inl (by omega))).1, i2, k1, insR_len]
        refine ⟨sI w 172 55 (iI ((insR (Vg c mo g) (WR (Cg b g0) (Vg c mo) g)).length : Int)), ⟨g1.fr fun j _ => (sa_Ia rfl (by omega)).1, by rw [sI_at, if_pos rfl], ?_, fun a j h1 h2 => ((i4 a j h1 h2).tr (g2 a j (Or.inl h1))).tr (sa_I rfl (by omega))⟩, ?_⟩
        · rw [sI_at, if_neg (by omega), (g2 172 56 (Or.inl (by omega))).1, i3]
        · by_cases h0 : 0 ≤ iI (c 3 g + mo)
          · rw [if_pos h0] at hv ⊢
            exact e' _ hv
          · rw [if_neg h0] at hv ⊢
            exact e' _ hv
      · rw [if_neg (show ¬ iI (hp b g) < 0 from by rw [q_0]; exact nlt (by omega) (by omega) (by omega)), if_neg (show ¬ Cg b g0 g = true from by unfold Cg; simp [hh])]
        exact ⟨s, ⟨i1, i2, i3, i4⟩, rfl⟩)
  have Ms : RM s c F0 F1 b := h.fr fun a j q => i4 a j (by unfold QM QR at q; omega) (by unfold QM QR at q; omega)
  -- areas
  obtain ⟨m2, t, ⟨j1, j2, j3⟩, hm2⟩ := loopE (fun m p t => fn_X12_servedBut_94 m (iI p0) (iI (p : Int)) t) (fun p t => AR 201 t (WR (Cp b p0) (Vp c b) p) ∧ t.1 172 56 = iI ((WR (Cp b p0) (Vp c b) p).length : Int) ∧ ∀ a j, a ≠ 201 → ¬ (a = 172 ∧ j = 56) → SA s t a j) (b 168).toNat (by omega) s ⟨trivial, by rw [i3]; exact q_0, fun a j _ _ => SA.rf⟩ (fun p m t hp ⟨j1, j2, j3⟩ => by
    have hpb : (p : Int) < b 168 := by omega
    have Mt : RM t c F0 F1 b := Ms.fr fun a j q => j3 a j (by unfold QM QR at q; omega) (by unfold QM QR at q; omega)
    have hl := WR_len (C := Cp b p0) (V := Vp c b) p
    have e168 : t.1 198 168 = iI (b 168) := Mt.2.2.2.2.2.1.1
    have hv := Vp_b hC hV hpb
    show ∃ s', _ ∧ fn_X12_servedBut_94 (m + 1) _ _ _ = fn_X12_servedBut_94 m _ _ _
    rw [fn_X12_servedBut_94, c_168, e168, if_neg (nle (by omega) (by omega) (by omega))]
    unfold fn_X12_servedBut_148
    rw [k1, WR]
    by_cases e0 : (p : Int) = p0
    · rw [if_pos (show iI (p : Int) = iI p0 from by rw [e0]), if_neg (show ¬ Cp b p0 p = true from by unfold Cp; simp [e0])]
      exact ⟨t, ⟨j1, j2, j3⟩, rfl⟩
    · rw [if_neg (neq (by omega) hp0 e0), bd_o (m_isFree hC Mt.2.2.2.2.2.1 hV hpb)]
      by_cases hf : pc b p 6 = -1
      · rw [tr_1 hf, if_neg (show ¬ iI 1 = 0 from by decide), bd_o (m_area Mt.2.2.2.2.1 hC Mt.2.2.2.2.2.1 hV hpb), if_pos (show Cp b p0 p = true from decide_eq_true ⟨e0, hf⟩), ← hv.1, j2]
        obtain ⟨w, e, g1, g2⟩ := m_put (pl := 201) (v := Vp c b p) (by rw [l201]; omega) hv.2 (WR (Cp b p0) (Vp c b) p) fu t j1 (by rw [l201]; omega) (by unfold fu; omega) (WR_mem fun i hi _ => (Vp_b hC hV (by omega)).2)
        unfold fn_X12_put
        rw [bv_o e, nm_o, (g2 172 56 (Or.inl (by omega))).1, j2, k1]
        refine ⟨_, ⟨g1.fr fun j _ => (sa_Ia rfl (by omega)).1, by rw [sI_at, if_pos rfl, insR_len], fun a j h1 h2 => ((j3 a j h1 h2).tr (g2 a j (Or.inl h1))).tr (sa_I rfl h2)⟩, rfl⟩
      · rw [tr_n hf, if_pos (show iI 0 = 0 from q_0.symm), if_neg (show ¬ Cp b p0 p = true from by unfold Cp; simp [hf])]
        exact ⟨t, ⟨j1, j2, j3⟩, rfl⟩)
  have Mt : RM t c F0 F1 b := Ms.fr fun a j q => j3 a j (by unfold QM QR at q; omega) (by unfold QM QR at q; omega)
  have hlA := WL_len (C := Cp b p0) (V := Vp c b) (b 168).toNat
  have hlD := WL_len (C := Cg b g0) (V := Vg c mo) (c 6 1).toNat
  have lrA : (WR (Cp b p0) (Vp c b) (b 168).toNat).length = (WL (Cp b p0) (Vp c b) (b 168).toNat).length := by rw [← WL_WR, List.length_reverse]
  have lrD : (WR (Cg b g0) (Vg c mo) (c 6 1).toNat).length = (WL (Cg b g0) (Vg c mo) (c 6 1).toNat).length := by rw [← WL_WR, List.length_reverse]
  have gr := m_greedy (z := t) (as := WL (Cp b p0) (Vp c b) (b 168).toNat) (ds := WL (Cg b g0) (Vg c mo) (c 6 1).toNat) (by rw [(j3 172 55 (by omega) (by omega)).1, i2, lrD]) (by rw [j2, lrA]) (by omega) (by omega) (fun i x hx => j1.get i x (by rw [WL_WR]; exact hx)) (fun i x hx => (i1.fr fun j _ => (j3 200 j (by omega) (by omega)).1).get i x (by rw [WL_WR]; exact hx)) (WL_bound _ fun i hi _ => (Vp_b hC hV (by omega)).2) (WL_bound _ fun i hi _ => Vg_b hC hm (by omega)) _ 0 0 fu (Nat.zero_add _) (by omega) (by unfold fu; omega)
  refine ⟨t, ?_⟩
  unfold fn_X12_servedBut
  rw [nm_o, nm_o]
  refine (show _ = fn_X12_servedBut_12 fu (iI g0) (iI p0) (iI ((0 : Nat) : Int)) (sI (sI z 172 55 0) 172 56 0) from by rw [z0]).trans (hm1.trans ?_)
  show fn_X12_servedBut_12 (m + 1) _ _ _ _ = _
  rw [fn_X12_servedBut_12, Ms.2.2.2.2.1.2.1, if_pos (yle (by omega) (by omega) (by omega))]
  refine (show _ = fn_X12_servedBut_94 fu (iI p0) (iI ((0 : Nat) : Int)) s from by rw [z0]).trans (hm2.trans ?_)
  show fn_X12_servedBut_94 (m2 + 1) _ _ _ = _
  rw [fn_X12_servedBut_94, c_168, show t.1 198 168 = iI (b 168) from Mt.2.2.2.2.2.1.1, if_pos (yle (by omega) (by omega) (by omega)), show (0 : Int32) = iI ((0 : Nat) : Int) from z0.symm, gr]
  congr 3
  rw [List.drop_zero, List.drop_zero, Nat.zero_add, sv_same _ _ (WL_up _) (WL_up _), ← svI_e]
  unfold sv
  exact svI_ext _ fun x _ => by rw [WL_cnt]
end
