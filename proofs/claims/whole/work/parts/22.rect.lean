def recT : Nat → Nat → Int32 → Int32 → Int32 → Int32 → St → Option St
  | 0 => fun _ _ _ _ _ _ => none
  | n + 1 => fn_X5_tryOrders (recT n)
theorem m_recTn {l : Launch} {G : wG} (hG : Ok G) (n : Nat) : ∀ {p1 : Nat} {v2 v3 v4 v5 : Int32} {z : St} {Rz : St}, kd p1 = 14 → recT n p1 v2 v3 v4 v5 z = some Rz → Met l yX5_tryOrders (wsU yX5_tryOrders cX5_tryOrders 9 none) (rmd (10 + 2 * n)) (va_Pc [.ref (G.2.2 156), .ref (G.2.2 p1), .int v2, .int v3, .int v4, .int v5] (Pre G z)) (va_Qv (fun u => u = Rz) (Pre G) (AW G)) 0 0 (AW G) := by
  induction n with
  | zero => intro p1 v2 v3 v4 v5 z Rz hk h; cases h
  | succ n ih => intro p1 v2 v3 v4 v5 z Rz hk h; exact m_X5_tryOrders hG (dd := 10 + 2 * n) (D := 10 + 2 * (n + 1)) (by omega) (by omega) ih hk h
theorem m_recT {l : Launch} {G : wG} (hG : Ok G) {p1 : Nat} {v2 v3 v4 v5 : Int32} {z : St} {Rz : St} (hk : kd p1 = 14) (h : recT 9 p1 v2 v3 v4 v5 z = some Rz) : Met l yX5_tryOrders (wsU yX5_tryOrders cX5_tryOrders 9 none) (rmd 28) (va_Pc [.ref (G.2.2 156), .ref (G.2.2 p1), .int v2, .int v3, .int v4, .int v5] (Pre G z)) (va_Qv (fun u => u = Rz) (Pre G) (AW G)) 0 0 (AW G) := m_recTn hG 9 hk h
