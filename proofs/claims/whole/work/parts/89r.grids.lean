/-! grids: widths w, depths d, p beside one another, q behind one another -/
def icl (w d p q i j : Nat) : Nat := (if i = 0 then d else 0) + (if i = p - 1 then d else 0) + (if j = 0 then w else 0) + (if j = q - 1 then w else 0)
def isJ (w d p q : Nat) (s : Int64) (i : Nat) : Nat → Int64
  | 0 => s
  | j + 1 => isJ w d p q s i j ||| (1 <<< (Int32.toInt64 (iI ((icl w d p q i j : Nat) : Int)) &&& 63))
def isI (w d p q : Nat) : Nat → Int64
  | 0 => 0
  | i + 1 => isJ w d p q (isI w d p q i) i q
/-- whether an icing is in the set -/
def bt64 (s : Int64) (k : Nat) : Bool := ((s >>> (Int32.toInt64 (iI (k : Int)) &&& 63)) &&& 1) == 1
def spS (s : Int64) : Nat → Int × Int
  | 0 => (-1, -1)
  | k + 1 => if bt64 s k then (if (spS s k).1 = -1 then (k : Int) else (spS s k).1, (k : Int)) else spS s k
def spr (w d p q : Nat) : Int := (spS (isI w d p q p) 33).2 - (spS (isI w d p q p) 33).1
/-- least and most, as the reference finds them -/
def unJ (w d p q : Nat) (s : Int × Int) (i : Nat) : Nat → Int × Int
  | 0 => s
  | j + 1 => (if ((icl w d p q i j : Nat) : Int) < (unJ w d p q s i j).1 then ((icl w d p q i j : Nat) : Int) else (unJ w d p q s i j).1, if (unJ w d p q s i j).2 < ((icl w d p q i j : Nat) : Int) then ((icl w d p q i j : Nat) : Int) else (unJ w d p q s i j).2)
def unI (w d p q : Nat) : Nat → Int × Int
  | 0 => (33, 0)
  | i + 1 => unJ w d p q (unI w d p q i) i q
def unv (w d p q : Nat) : Int := (unI w d p q p).2 - (unI w d p q p).1
def dom (f : Nat → Nat → Nat → Nat → Bool) : Bool := (List.range 9).all fun p => (List.range 9).all fun w => (List.range 9).all fun q => (List.range 9).all fun d => !(decide ((1 ≤ p ∧ 1 ≤ w ∧ p * w ≤ 8) ∧ 1 ≤ q ∧ 1 ≤ d ∧ q * d ≤ 8)) || f p w q d
theorem dom_s {f : Nat → Nat → Nat → Nat → Bool} (h : dom f = true) {p w q d : Nat} (h1 : 1 ≤ p ∧ 1 ≤ w ∧ p * w ≤ 8) (h2 : 1 ≤ q ∧ 1 ≤ d ∧ q * d ≤ 8) : f p w q d = true := by
  have b1 : p ≤ p * w := Nat.le_mul_of_pos_right p (by omega)
  have b2 : w ≤ p * w := Nat.le_mul_of_pos_left w (by omega)
  have b3 : q ≤ q * d := Nat.le_mul_of_pos_right q (by omega)
  have b4 : d ≤ q * d := Nat.le_mul_of_pos_left d (by omega)
  unfold dom at h
  have g1 := List.all_eq_true.mp h p (List.mem_range.mpr (by omega))
  have g2 := List.all_eq_true.mp g1 w (List.mem_range.mpr (by omega))
  have g3 := List.all_eq_true.mp g2 q (List.mem_range.mpr (by omega))
  have g4 := List.all_eq_true.mp g3 d (List.mem_range.mpr (by omega))
  rw [decide_eq_true (⟨h1, h2⟩ : (1 ≤ p ∧ 1 ≤ w ∧ p * w ≤ 8) ∧ 1 ≤ q ∧ 1 ≤ d ∧ q * d ≤ 8)] at g4
  exact g4
set_option maxRecDepth 100000 in
theorem spr_dom : dom (fun p w q d => decide (spr w d p q = unv w d p q)) = true := by decide +kernel
theorem spr_unv {p w q d : Nat} (h1 : 1 ≤ p ∧ 1 ≤ w ∧ p * w ≤ 8) (h2 : 1 ≤ q ∧ 1 ≤ d ∧ q * d ≤ 8) : spr w d p q = unv w d p q := of_decide_eq_true (dom_s spr_dom h1 h2)
def hic (w d p q a : Nat) : Bool := (List.range p).any fun i => (List.range q).any fun j => icl w d p q i j == a
set_option maxRecDepth 100000 in
theorem bt_dom : dom (fun p w q d => (List.range 33).all fun a => bt64 (isI w d p q p) a == hic w d p q a) = true := by decide +kernel
theorem bt_hic {p w q d a : Nat} (h1 : 1 ≤ p ∧ 1 ≤ w ∧ p * w ≤ 8) (h2 : 1 ≤ q ∧ 1 ≤ d ∧ q * d ≤ 8) (ha : a < 33) : bt64 (isI w d p q p) a = hic w d p q a :=
  eq_of_beq (List.all_eq_true.mp (dom_s bt_dom h1 h2) a (List.mem_range.mpr ha))
theorem icl_b {w d p q i j : Nat} (hw : w ≤ 8) (hd : d ≤ 8) : icl w d p q i j ≤ 32 := by
  unfold icl
  repeat' split
  all_goals omega
