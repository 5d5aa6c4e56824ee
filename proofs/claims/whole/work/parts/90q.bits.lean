/-! bits -/
def tb (x : Int32) (j : Nat) : Bool := x.toBitVec.getLsbD j
theorem tb_ext {x y : Int32} (h : ∀ j, j < 32 → tb x j = tb y j) : x = y := Int32.toBitVec_inj.mp (BitVec.eq_of_getLsbD_eq fun i hi => h i hi)
theorem tb_0 (j : Nat) : tb 0 j = false := by unfold tb; exact BitVec.getLsbD_zero
theorem tb_m1 {j : Nat} (h : j < 32) : tb (-1) j = true := by
  have : ∀ j : Nat, j < 32 → tb (-1) j = true := by decide +kernel
  exact this j h
theorem tb_1s {j k : Nat} (hj : j < 32) (hk : k < 32) : tb (1 <<< (iI (k : Int) &&& 31)) j = decide (j = k) := by
  have : ∀ k : Nat, k < 32 → ∀ j : Nat, j < 32 → tb (1 <<< (iI (k : Int) &&& 31)) j = decide (j = k) := by decide +kernel
  exact this k hk j hj
theorem tb_or (x y : Int32) (j : Nat) : tb (x ||| y) j = (tb x j || tb y j) := by unfold tb; rw [Int32.toBitVec_or, BitVec.getLsbD_or]
theorem tb_and (x y : Int32) (j : Nat) : tb (x &&& y) j = (tb x j && tb y j) := by unfold tb; rw [Int32.toBitVec_and, BitVec.getLsbD_and]
theorem tb_xor (x y : Int32) (j : Nat) : tb (x ^^^ y) j = (tb x j != tb y j) := by unfold tb; rw [Int32.toBitVec_xor, BitVec.getLsbD_xor]
theorem tb_in {x : Int32} {j k : Nat} (hj : j < 32) (hk : k < 32) : tb (x ||| (1 <<< (iI (k : Int) &&& 31))) j = (tb x j || decide (j = k)) := by rw [tb_or, tb_1s hj hk]
theorem tb_rm {x : Int32} {j k : Nat} (hj : j < 32) (hk : k < 32) : tb (x &&& ((1 <<< (iI (k : Int) &&& 31)) ^^^ (-1))) j = (tb x j && !decide (j = k)) := by
  rw [tb_and, tb_xor, tb_1s hj hk, tb_m1 hj]
  cases decide (j = k) <;> rfl
theorem tb_sh {x : Int32} {k : Nat} (hk : k < 32) : ((x >>> (iI (k : Int) &&& 31)) &&& 1) = if tb x k then 1 else 0 := by
  have hs : ∀ k : Nat, k < 32 → ((iI (k : Int) &&& 31).toBitVec.smod 32).toNat = k := by decide +kernel
  refine tb_ext fun j hj => ?_
  have h1 : ∀ j : Nat, j < 32 → tb 1 j = decide (j = 0) := by decide +kernel
  rw [tb_and, h1 j hj]
  by_cases h0 : j = 0
  · subst h0
    have : tb (x >>> (iI (k : Int) &&& 31)) 0 = tb x k := by
      unfold tb
      rw [Int32.toBitVec_shiftRight, BitVec.sshiftRight', hs k hk, BitVec.getLsbD_sshiftRight]
      simp [hk]
    rw [this]
    cases tb x k
    · rw [if_neg (by decide), tb_0]; rfl
    · rw [if_pos rfl, h1 0 hj]; rfl
  · rw [show decide (j = 0) = false from decide_eq_false h0, Bool.and_false]
    cases tb x k
    · rw [if_neg (by decide), tb_0]
    · rw [if_pos rfl, h1 j hj, decide_eq_false h0]
/-! numbers under masks -/
theorem L2 {d X m M k : Nat} (hd : d < 16) (hm : m < 2 ^ (4 - k)) (hk : k ≤ 4) : ((d + 16 * X) >>> k) &&& (m + 16 * M) = ((d >>> k) &&& m) + 16 * ((X >>> k) &&& M) := by
  have hm' : m < 2 ^ 4 := Nat.lt_of_lt_of_le hm (Nat.pow_le_pow_right (by omega) (by omega))
  have hd' : d < 2 ^ 4 := hd
  have hdm : (d >>> k) &&& m < 2 ^ 4 := Nat.lt_of_le_of_lt Nat.and_le_right hm'
  rw [show d + 16 * X = 2 ^ 4 * X + d from by omega, show m + 16 * M = 2 ^ 4 * M + m from by omega, show ((d >>> k) &&& m) + 16 * ((X >>> k) &&& M) = 2 ^ 4 * ((X >>> k) &&& M) + ((d >>> k) &&& m) from by omega]
  refine Nat.eq_of_testBit_eq fun j => ?_
  rw [Nat.testBit_and, Nat.testBit_shiftRight, Nat.testBit_two_pow_mul_add _ hd', Nat.testBit_two_pow_mul_add _ hm', Nat.testBit_two_pow_mul_add _ hdm, Nat.testBit_and, Nat.testBit_and, Nat.testBit_shiftRight, Nat.testBit_shiftRight]
  by_cases hj : j < 4
  · rw [if_pos hj, if_pos hj]
    by_cases hkj : k + j < 4
    · rw [if_pos hkj]
    · have : m.testBit j = false := Nat.testBit_lt_two_pow (Nat.lt_of_lt_of_le hm (Nat.pow_le_pow_right (by omega) (by omega)))
      rw [this, Bool.and_false, Bool.and_false]
  · rw [if_neg hj, if_neg hj, if_neg (by omega), show k + j - 4 = k + (j - 4) from by omega]
theorem L1 {d X m M : Nat} (hd : d < 16) (hm : m < 16) : (d + 16 * X) &&& (m + 16 * M) = (d &&& m) + 16 * (X &&& M) := by
  have := L2 (X := X) (M := M) (k := 0) hd hm (by omega)
  simpa using this
theorem andN {a b : Nat} (ha : a < 2147483648) (hb : b < 2147483648) : iI (a : Int) &&& iI (b : Int) = iI ((a &&& b : Nat) : Int) := by
  refine Int32.toBitVec_inj.mp ?_
  rw [Int32.toBitVec_and]
  unfold iI
  rw [Int32.toBitVec_ofInt, Int32.toBitVec_ofInt, Int32.toBitVec_ofInt, BitVec.ofInt_natCast, BitVec.ofInt_natCast, BitVec.ofInt_natCast, BitVec.ofNat_and]
theorem toB (a : Nat) : (iI (a : Int)).toBitVec = BitVec.ofNat 32 a := by unfold iI; rw [Int32.toBitVec_ofInt, BitVec.ofInt_natCast]
theorem shrN {a : Nat} {k : Int32} {j : Nat} (ha : a < 2147483648) (hk : ((Int32.toUInt32 k &&& Int32.toUInt32 31).toBitVec % 32#32).toNat = j) : (Int32.toUInt32 (iI (a : Int)) >>> (Int32.toUInt32 k &&& Int32.toUInt32 31)).toInt32 = iI ((a >>> j : Nat) : Int) := by
  refine Int32.toBitVec_inj.mp ?_
  rw [toB]
  show (Int32.toUInt32 (iI (a : Int)) >>> (Int32.toUInt32 k &&& Int32.toUInt32 31)).toBitVec = _
  rw [UInt32.toBitVec_shiftRight]
  show (iI (a : Int)).toBitVec >>> _ = _
  rw [toB]
  show (BitVec.ofNat 32 a) >>> (((Int32.toUInt32 k &&& Int32.toUInt32 31).toBitVec % 32#32).toNat) = _
  rw [hk]
  refine BitVec.eq_of_toNat_eq ?_
  rw [BitVec.toNat_ushiftRight, BitVec.toNat_ofNat, BitVec.toNat_ofNat, Nat.mod_eq_of_lt (by omega), Nat.mod_eq_of_lt (by have := Nat.shiftRight_le a j; omega)]

def cn (N : Nat) : Nat → Nat
  | 0 => 0
  | k + 1 => cn N k + N / 2 ^ k % 2
set_option maxRecDepth 100000 in
theorem nib : ∀ d : Nat, d < 16 → ((d >>> 1) &&& 5 ≤ d) ∧ (d - ((d >>> 1) &&& 5) < 16) ∧ ((d - ((d >>> 1) &&& 5)) &&& 3) + (((d - ((d >>> 1) &&& 5)) >>> 2) &&& 3) = d % 2 + d / 2 % 2 + d / 4 % 2 + d / 8 % 2 := by decide +kernel
theorem swar (d0 d1 d2 d3 d4 d5 : Nat) (h0 : d0 < 16) (h1 : d1 < 16) (h2 : d2 < 16) (h3 : d3 < 16) (h4 : d4 < 16) (h5 : d5 < 16) {N : Nat} (hN : N = d0 + 16 * (d1 + 16 * (d2 + 16 * (d3 + 16 * (d4 + 16 * d5))))) : (N >>> 1) &&& 1431655765 = ((d0 >>> 1) &&& 5) + 16 * (((d1 >>> 1) &&& 5) + 16 * (((d2 >>> 1) &&& 5) + 16 * (((d3 >>> 1) &&& 5) + 16 * (((d4 >>> 1) &&& 5) + 16 * ((d5 >>> 1) &&& 5))))) := by
  rw [hN, show (1431655765 : Nat) = 5 + 16 * (5 + 16 * (5 + 16 * (5 + 16 * (5 + 16 * (5 + 16 * 85))))) from rfl, L2 h0 (by decide) (by omega), L2 h1 (by decide) (by omega), L2 h2 (by decide) (by omega), L2 h3 (by decide) (by omega), L2 h4 (by decide) (by omega)]
  have := L2 (d := d5) (X := 0) (m := 5) (M := 85) (k := 1) h5 (by decide) (by omega)
  rw [Nat.mul_zero, Nat.add_zero, Nat.zero_shiftRight, Nat.zero_and, Nat.mul_zero, Nat.add_zero] at this
  rw [this, Nat.add_zero]
theorem swar2 (d0 d1 d2 d3 d4 d5 : Nat) (h0 : d0 < 16) (h1 : d1 < 16) (h2 : d2 < 16) (h3 : d3 < 16) (h4 : d4 < 16) (h5 : d5 < 16) {N : Nat} (hN : N = d0 + 16 * (d1 + 16 * (d2 + 16 * (d3 + 16 * (d4 + 16 * d5))))) : (N >>> 2) &&& 858993459 = ((d0 >>> 2) &&& 3) + 16 * (((d1 >>> 2) &&& 3) + 16 * (((d2 >>> 2) &&& 3) + 16 * (((d3 >>> 2) &&& 3) + 16 * (((d4 >>> 2) &&& 3) + 16 * ((d5 >>> 2) &&& 3))))) := by
  rw [hN, show (858993459 : Nat) = 3 + 16 * (3 + 16 * (3 + 16 * (3 + 16 * (3 + 16 * (3 + 16 * 51))))) from rfl, L2 h0 (by decide) (by omega), L2 h1 (by decide) (by omega), L2 h2 (by decide) (by omega), L2 h3 (by decide) (by omega), L2 h4 (by decide) (by omega)]
  have := L2 (d := d5) (X := 0) (m := 3) (M := 51) (k := 2) h5 (by decide) (by omega)
  rw [Nat.mul_zero, Nat.add_zero, Nat.zero_shiftRight, Nat.zero_and, Nat.mul_zero, Nat.add_zero] at this
  rw [this, Nat.add_zero]
theorem swar0 (d0 d1 d2 d3 d4 d5 : Nat) (h0 : d0 < 16) (h1 : d1 < 16) (h2 : d2 < 16) (h3 : d3 < 16) (h4 : d4 < 16) (h5 : d5 < 16) {N : Nat} (hN : N = d0 + 16 * (d1 + 16 * (d2 + 16 * (d3 + 16 * (d4 + 16 * d5))))) : N &&& 858993459 = (d0 &&& 3) + 16 * ((d1 &&& 3) + 16 * ((d2 &&& 3) + 16 * ((d3 &&& 3) + 16 * ((d4 &&& 3) + 16 * (d5 &&& 3))))) := by
  rw [hN, show (858993459 : Nat) = 3 + 16 * (3 + 16 * (3 + 16 * (3 + 16 * (3 + 16 * (3 + 16 * 51))))) from rfl, L1 h0 (by decide), L1 h1 (by decide), L1 h2 (by decide), L1 h3 (by decide), L1 h4 (by decide)]
  have := L1 (d := d5) (X := 0) (m := 3) (M := 51) h5 (by decide)
  rw [Nat.mul_zero, Nat.add_zero, Nat.zero_and, Nat.mul_zero, Nat.add_zero] at this
  rw [this, Nat.add_zero]
theorem swar4 (d0 d1 d2 d3 d4 d5 : Nat) (h0 : d0 < 16) (h1 : d1 < 16) (h2 : d2 < 16) (h3 : d3 < 16) (h4 : d4 < 16) (h5 : d5 < 16) {N : Nat} (hN : N = d0 + 16 * (d1 + 16 * (d2 + 16 * (d3 + 16 * (d4 + 16 * d5))))) : N &&& 252645135 = d0 + 16 * (0 + 16 * (d2 + 16 * (0 + 16 * (d4 + 16 * 0)))) := by
  have f : ∀ d : Nat, d < 16 → d &&& 15 = d := by decide +kernel
  rw [hN, show (252645135 : Nat) = 15 + 16 * (0 + 16 * (15 + 16 * (0 + 16 * (15 + 16 * (0 + 16 * 15))))) from rfl, L1 h0 (by decide), L1 h1 (by decide), L1 h2 (by decide), L1 h3 (by decide), L1 h4 (by decide), f d0 h0, f d2 h2, f d4 h4, Nat.and_zero, Nat.and_zero]
  have := L1 (d := d5) (X := 0) (m := 0) (M := 15) h5 (by decide)
  rw [Nat.mul_zero, Nat.add_zero, Nat.zero_and, Nat.mul_zero, Nat.add_zero, Nat.and_zero] at this
  rw [this]
def pn (d : Nat) : Nat := d % 2 + d / 2 % 2 + d / 4 % 2 + d / 8 % 2
theorem pn_b (d : Nat) : pn d ≤ 4 := by unfold pn; omega
theorem nib' {d : Nat} (h : d < 16) : ((d >>> 1) &&& 5 ≤ d) ∧ (d - ((d >>> 1) &&& 5) < 16) ∧ ((d - ((d >>> 1) &&& 5)) &&& 3) + (((d - ((d >>> 1) &&& 5)) >>> 2) &&& 3) = pn d := nib d h
theorem dec6 {N : Nat} (hN : N < 16777216) : N = N % 16 + 16 * (N / 16 % 16 + 16 * (N / 256 % 16 + 16 * (N / 4096 % 16 + 16 * (N / 65536 % 16 + 16 * (N / 1048576 % 16))))) := by omega
theorem pn_0 (N : Nat) : pn (N % 16) = N / 2 ^ 0 % 2 + N / 2 ^ 1 % 2 + N / 2 ^ 2 % 2 + N / 2 ^ 3 % 2 := by
  unfold pn
  rw [show N % 16 % 2 = N / 2 ^ 0 % 2 from by omega, show N % 16 / 2 % 2 = N / 2 ^ 1 % 2 from by omega, show N % 16 / 4 % 2 = N / 2 ^ 2 % 2 from by omega, show N % 16 / 8 % 2 = N / 2 ^ 3 % 2 from by omega]
theorem pn_k (N j : Nat) : pn (N / 2 ^ j % 16) = N / 2 ^ j % 2 + N / 2 ^ (j + 1) % 2 + N / 2 ^ (j + 2) % 2 + N / 2 ^ (j + 3) % 2 := by
  rw [pn_0, Nat.pow_add, Nat.pow_add, Nat.pow_add, ← Nat.div_div_eq_div_mul, ← Nat.div_div_eq_div_mul, ← Nat.div_div_eq_div_mul, Nat.pow_zero, Nat.div_one]
theorem cn_pn (N : Nat) : cn N 24 = pn (N % 16) + pn (N / 16 % 16) + pn (N / 256 % 16) + pn (N / 4096 % 16) + pn (N / 65536 % 16) + pn (N / 1048576 % 16) := by
  rw [pn_0, show (16 : Nat) = 2 ^ 4 from rfl, show (256 : Nat) = 2 ^ 8 from rfl, show (4096 : Nat) = 2 ^ 12 from rfl, show (65536 : Nat) = 2 ^ 16 from rfl, show (1048576 : Nat) = 2 ^ 20 from rfl]
  have e := pn_k N
  rw [show (16 : Nat) = 2 ^ 4 from rfl] at e
  rw [e, e, e, e, e]
  simp only [cn]
  simp only [Nat.zero_add, ← Nat.add_assoc]
theorem stA {d0 d1 d2 d3 d4 d5 x0 x1 x2 x3 x4 x5 : Nat} (a0 : x0 ≤ d0) (a1 : x1 ≤ d1) (a2 : x2 ≤ d2) (a3 : x3 ≤ d3) (a4 : x4 ≤ d4) (a5 : x5 ≤ d5) : ((d0 + 16 * (d1 + 16 * (d2 + 16 * (d3 + 16 * (d4 + 16 * d5)))) : Nat) : Int) - ((x0 + 16 * (x1 + 16 * (x2 + 16 * (x3 + 16 * (x4 + 16 * x5)))) : Nat) : Int) = (((d0 - x0) + 16 * ((d1 - x1) + 16 * ((d2 - x2) + 16 * ((d3 - x3) + 16 * ((d4 - x4) + 16 * (d5 - x5))))) : Nat) : Int) := by
  generalize h0 : d0 - x0 = y0
  generalize h1 : d1 - x1 = y1
  generalize h2 : d2 - x2 = y2
  generalize h3 : d3 - x3 = y3
  generalize h4 : d4 - x4 = y4
  generalize h5 : d5 - x5 = y5
  rw [show d0 = x0 + y0 from by omega, show d1 = x1 + y1 from by omega, show d2 = x2 + y2 from by omega, show d3 = x3 + y3 from by omega, show d4 = x4 + y4 from by omega, show d5 = x5 + y5 from by omega]
  clear h0 h1 h2 h3 h4 h5 a0 a1 a2 a3 a4 a5
  omega
theorem stB (y0 y1 y2 y3 y4 y5 w0 w1 w2 w3 w4 w5 : Nat) : ((y0 + 16 * (y1 + 16 * (y2 + 16 * (y3 + 16 * (y4 + 16 * y5)))) : Nat) : Int) + ((w0 + 16 * (w1 + 16 * (w2 + 16 * (w3 + 16 * (w4 + 16 * w5)))) : Nat) : Int) = (((y0 + w0) + 16 * ((y1 + w1) + 16 * ((y2 + w2) + 16 * ((y3 + w3) + 16 * ((y4 + w4) + 16 * (y5 + w5))))) : Nat) : Int) := by omega
/-- from the counts of the six nibbles on -/
theorem stC {z : St} {n0 n1 n2 n3 n4 n5 P : Nat} (h0 : n0 ≤ 4) (h1 : n1 ≤ 4) (h2 : n2 ≤ 4) (h3 : n3 ≤ 4) (h4 : n4 ≤ 4) (h5 : n5 ≤ 4) (hP : P = n0 + 16 * (n1 + 16 * (n2 + 16 * (n3 + 16 * (n4 + 16 * n5))))) : (nm ((iI (P : Int) + ((Int32.toUInt32 (iI (P : Int)) >>> (Int32.toUInt32 4 &&& Int32.toUInt32 31)).toInt32)) &&& 252645135) (fun v0_3 => nm (v0_3 + ((Int32.toUInt32 v0_3 >>> (Int32.toUInt32 8 &&& Int32.toUInt32 31)).toInt32)) (fun v0_4 => nm (v0_4 + ((Int32.toUInt32 v0_4 >>> (Int32.toUInt32 16 &&& Int32.toUInt32 31)).toInt32)) (fun v0_5 => some ((v0_5 &&& 63), z))))) = some (iI ((n0 + n1 + n2 + n3 + n4 + n5 : Nat) : Int), z) := by
  have hP' : P < 16777216 := by omega
  have q1 : (P : Int) + ((P >>> 4 : Nat) : Int) = (((n0 + n1) + 16 * ((n1 + n2) + 16 * ((n2 + n3) + 16 * ((n3 + n4) + 16 * ((n4 + n5) + 16 * n5)))) : Nat) : Int) := by
    rw [Nat.shiftRight_eq_div_pow, show P / 2 ^ 4 = n1 + 16 * (n2 + 16 * (n3 + 16 * (n4 + 16 * n5))) from by omega, hP]
    clear hP hP' h0 h1 h2 h3 h4 h5
    omega
  have e4 := swar4 (n0 + n1) (n1 + n2) (n2 + n3) (n3 + n4) (n4 + n5) n5 (by omega) (by omega) (by omega) (by omega) (by omega) (by omega) (N := (n0 + n1) + 16 * ((n1 + n2) + 16 * ((n2 + n3) + 16 * ((n3 + n4) + 16 * ((n4 + n5) + 16 * n5))))) rfl
  have eU : (n0 + n1) + 16 * (0 + 16 * ((n2 + n3) + 16 * (0 + 16 * ((n4 + n5) + 16 * 0)))) = (n0 + n1) + 256 * (n2 + n3) + 65536 * (n4 + n5) := by omega
  rw [eU] at e4
  have g0 : n0 + n1 ≤ 8 := by omega
  have g1 : n2 + n3 ≤ 8 := by omega
  have g2 : n4 + n5 ≤ 8 := by omega
  have eS : n0 + n1 + n2 + n3 + n4 + n5 = (n0 + n1) + (n2 + n3) + (n4 + n5) := by omega
  have hQ' : (n0 + n1) + 16 * ((n1 + n2) + 16 * ((n2 + n3) + 16 * ((n3 + n4) + 16 * ((n4 + n5) + 16 * n5)))) < 2147483648 := by omega
  rw [shrN (j := 4) (by omega) (by decide +kernel), iI_add, q1, show (252645135 : Int32) = iI ((252645135 : Nat) : Int) from by decide +kernel, andN hQ' (by omega), e4, nm_o, eS]
  clear hQ' eS eU e4 q1 hP' hP h0 h1 h2 h3 h4 h5
  generalize n0 + n1 = u0 at *
  generalize n2 + n3 = u1 at *
  generalize n4 + n5 = u2 at *
  have v1 : ((u0 + 256 * u1 + 65536 * u2 : Nat) : Int) + (((u0 + 256 * u1 + 65536 * u2) >>> 8 : Nat) : Int) = (((u0 + u1) + 256 * (u1 + u2) + 65536 * u2 : Nat) : Int) := by
    rw [Nat.shiftRight_eq_div_pow, show (u0 + 256 * u1 + 65536 * u2) / 2 ^ 8 = u1 + 256 * u2 from by omega]
    omega
  have w1 : (((u0 + u1) + 256 * (u1 + u2) + 65536 * u2 : Nat) : Int) + ((((u0 + u1) + 256 * (u1 + u2) + 65536 * u2) >>> 16 : Nat) : Int) = (((u0 + u1 + u2) + 256 * (u1 + u2) + 65536 * u2 : Nat) : Int) := by
    rw [Nat.shiftRight_eq_div_pow, show ((u0 + u1) + 256 * (u1 + u2) + 65536 * u2) / 2 ^ 16 = u2 from by omega]
    omega
  have e6 : ((u0 + u1 + u2) + 256 * (u1 + u2) + 65536 * u2) &&& 63 = u0 + u1 + u2 := by
    rw [show (63 : Nat) = 2 ^ 6 - 1 from rfl, Nat.and_two_pow_sub_one_eq_mod]
    omega
  rw [shrN (j := 8) (by omega) (by decide +kernel), iI_add, v1, nm_o, shrN (j := 16) (by omega) (by decide +kernel), iI_add, w1, nm_o, show (63 : Int32) = iI ((63 : Nat) : Int) from by decide +kernel, andN (by omega) (by omega), e6]
theorem sm6 {d0 d1 d2 d3 d4 d5 : Nat} (h0 : d0 < 16) (h1 : d1 < 16) (h2 : d2 < 16) (h3 : d3 < 16) (h4 : d4 < 16) (h5 : d5 < 16) : d0 + 16 * (d1 + 16 * (d2 + 16 * (d3 + 16 * (d4 + 16 * d5)))) < 16777216 := by omega
theorem bitN {z : St} {N : Nat} (hN : N < 16777216) : fn_J6_bitCount_0f7a4 (iI (N : Int)) z = some (iI ((cn N 24 : Nat) : Int), z) := by
  rw [cn_pn]
  have hd := dec6 hN
  have k0 : N % 16 < 16 := Nat.mod_lt _ (by omega)
  have k1 : N / 16 % 16 < 16 := Nat.mod_lt _ (by omega)
  have k2 : N / 256 % 16 < 16 := Nat.mod_lt _ (by omega)
  have k3 : N / 4096 % 16 < 16 := Nat.mod_lt _ (by omega)
  have k4 : N / 65536 % 16 < 16 := Nat.mod_lt _ (by omega)
  have k5 : N / 1048576 % 16 < 16 := Nat.mod_lt _ (by omega)
  generalize N % 16 = d0 at *
  generalize N / 16 % 16 = d1 at *
  generalize N / 256 % 16 = d2 at *
  generalize N / 4096 % 16 = d3 at *
  generalize N / 65536 % 16 = d4 at *
  generalize N / 1048576 % 16 = d5 at *
  have e1 := swar d0 d1 d2 d3 d4 d5 k0 k1 k2 k3 k4 k5 hd
  obtain ⟨a0, b0, c0⟩ := nib' k0
  obtain ⟨a1, b1, c1⟩ := nib' k1
  obtain ⟨a2, b2, c2⟩ := nib' k2
  obtain ⟨a3, b3, c3⟩ := nib' k3
  obtain ⟨a4, b4, c4⟩ := nib' k4
  obtain ⟨a5, b5, c5⟩ := nib' k5
  have sA := stA a0 a1 a2 a3 a4 a5
  rw [← e1, ← hd] at sA
  have mB := sm6 b0 b1 b2 b3 b4 b5
  have e2 := swar0 (d0 - (d0 >>> 1 &&& 5)) (d1 - (d1 >>> 1 &&& 5)) (d2 - (d2 >>> 1 &&& 5)) (d3 - (d3 >>> 1 &&& 5)) (d4 - (d4 >>> 1 &&& 5)) (d5 - (d5 >>> 1 &&& 5)) b0 b1 b2 b3 b4 b5 rfl
  have e3 := swar2 (d0 - (d0 >>> 1 &&& 5)) (d1 - (d1 >>> 1 &&& 5)) (d2 - (d2 >>> 1 &&& 5)) (d3 - (d3 >>> 1 &&& 5)) (d4 - (d4 >>> 1 &&& 5)) (d5 - (d5 >>> 1 &&& 5)) b0 b1 b2 b3 b4 b5 rfl
  generalize hM : (d0 - (d0 >>> 1 &&& 5)) + 16 * ((d1 - (d1 >>> 1 &&& 5)) + 16 * ((d2 - (d2 >>> 1 &&& 5)) + 16 * ((d3 - (d3 >>> 1 &&& 5)) + 16 * ((d4 - (d4 >>> 1 &&& 5)) + 16 * (d5 - (d5 >>> 1 &&& 5)))))) = M at *
  have hM2 : M >>> 2 < 2147483648 := Nat.lt_of_le_of_lt (Nat.shiftRight_le M 2) (by omega)
  have hN1 : N >>> 1 < 2147483648 := Nat.lt_of_le_of_lt (Nat.shiftRight_le N 1) (by omega)
  have sB := stB (d0 - (d0 >>> 1 &&& 5) &&& 3) (d1 - (d1 >>> 1 &&& 5) &&& 3) (d2 - (d2 >>> 1 &&& 5) &&& 3) (d3 - (d3 >>> 1 &&& 5) &&& 3) (d4 - (d4 >>> 1 &&& 5) &&& 3) (d5 - (d5 >>> 1 &&& 5) &&& 3) ((d0 - (d0 >>> 1 &&& 5)) >>> 2 &&& 3) ((d1 - (d1 >>> 1 &&& 5)) >>> 2 &&& 3) ((d2 - (d2 >>> 1 &&& 5)) >>> 2 &&& 3) ((d3 - (d3 >>> 1 &&& 5)) >>> 2 &&& 3) ((d4 - (d4 >>> 1 &&& 5)) >>> 2 &&& 3) ((d5 - (d5 >>> 1 &&& 5)) >>> 2 &&& 3)
  rw [← e2, ← e3, c0, c1, c2, c3, c4, c5] at sB
  unfold fn_J6_bitCount_0f7a4
  rw [shrN (j := 1) (by omega) (by decide +kernel), show (1431655765 : Int32) = iI ((1431655765 : Nat) : Int) from by decide +kernel, andN hN1 (by omega), iI_sub, sA, nm_o, shrN (j := 2) (by omega) (by decide +kernel), show (858993459 : Int32) = iI ((858993459 : Nat) : Int) from by decide +kernel, andN (by omega) (by omega), andN hM2 (by omega), iI_add, sB, nm_o]
  exact stC (pn_b d0) (pn_b d1) (pn_b d2) (pn_b d3) (pn_b d4) (pn_b d5) rfl
/-- how many of the pieces -/
theorem bitc24 {z : St} {y : Int32} {T : Nat → Bool} (h : ∀ j, j < 32 → tb y j = (T j && decide (j < 24))) : fn_J6_bitCount_0f7a4 y z = some (iI (cB6 T 24), z) := by
  have hy : y = iI ((y.toBitVec.toNat : Nat) : Int) := Int32.toBitVec_inj.mp (by rw [toB, BitVec.ofNat_toNat, BitVec.setWidth_eq])
  generalize hN : y.toBitVec.toNat = N at hy
  have hb : ∀ j, N.testBit j = (T j && decide (j < 24)) := fun j => by
    by_cases hj : j < 32
    · rw [← hN]; exact h j hj
    · rw [Nat.testBit_lt_two_pow (by rw [← hN]; exact Nat.lt_of_lt_of_le y.toBitVec.isLt (Nat.pow_le_pow_right (by omega) (by omega))), decide_eq_false (by omega), Bool.and_false]
  have h24 : N < 16777216 := by
    refine Nat.lt_pow_two_of_testBit (n := 24) N fun j hj => ?_
    rw [hb, decide_eq_false (by omega), Bool.and_false]
  have hc : ∀ k, k ≤ 24 → (cn N k : Int) = cB6 T k := by
    intro k
    induction k with
    | zero => intro _; rfl
    | succ k ih =>
      intro hk
      have := hb k
      rw [decide_eq_true (by omega), Bool.and_true, Nat.testBit_eq_decide_div_mod_eq] at this
      rw [cn, cB6, ← ih (by omega), ← this]
      by_cases q : N / 2 ^ k % 2 = 1
      · rw [if_pos (decide_eq_true q), q]; rfl
      · rw [if_neg (by rw [decide_eq_true_iff]; exact q), show N / 2 ^ k % 2 = 0 from by omega]; rfl
  rw [hy, bitN h24, hc 24 (by omega)]
