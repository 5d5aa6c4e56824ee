def rec6 : Nat → (Nat → Int32 → St → Option St) × (Nat → Int32 → St → Option St)
  | 0 => (fun _ _ _ => none, fun _ _ _ => none)
  | n + 1 => (fn_X6_either (rec6 n).1 (rec6 n).2, fn_X6_one (rec6 n).1 (rec6 n).2)
theorem m_rec6n {l : Launch} {G : wG} (hG : Ok G) (n : Nat) : (∀ {p1 : Nat} {v2 : Int32} {z : St} {Rz : St}, kd p1 = 2 → (rec6 n).1 p1 v2 z = some Rz → Met l yX6_either (wsU yX6_either cX6_either 4 none) (rmd (10 + 8 * n)) (va_Pc [.ref (G.2.2 32), .ref (G.2.2 p1), .int v2] (Pre G z)) (va_Qv (fun u => u = Rz) (Pre G) (AW G)) 0 0 (AW G)) ∧ (∀ {p1 : Nat} {v2 : Int32} {z : St} {Rz : St}, kd p1 = 2 → (rec6 n).2 p1 v2 z = some Rz → Met l yX6_one (wsU yX6_one cX6_one 3 none) (rmd (10 + 8 * n)) (va_Pc [.ref (G.2.2 32), .ref (G.2.2 p1), .int v2] (Pre G z)) (va_Qv (fun u => u = Rz) (Pre G) (AW G)) 0 0 (AW G)) := by
  induction n with
  | zero => exact ⟨fun {p1 v2 z Rz} hk h => (by cases h), fun {p1 v2 z Rz} hk h => (by cases h)⟩
  | succ n ih => exact ⟨fun {p1 v2 z Rz} hk h => m_X6_either hG (dd := 10 + 8 * n) (D := 10 + 8 * (n + 1)) (by omega) (by omega) ih.1 ih.2 hk h, fun {p1 v2 z Rz} hk h => m_X6_one hG (dd := 10 + 8 * n) (D := 10 + 8 * (n + 1)) (by omega) (by omega) ih.1 ih.2 hk h⟩
theorem m_rec6E {l : Launch} {G : wG} (hG : Ok G) {p1 : Nat} {v2 : Int32} {z : St} {Rz : St} (hk : kd p1 = 2) (h : (rec6 12).1 p1 v2 z = some Rz) : Met l yX6_either (wsU yX6_either cX6_either 4 none) (rmd 106) (va_Pc [.ref (G.2.2 32), .ref (G.2.2 p1), .int v2] (Pre G z)) (va_Qv (fun u => u = Rz) (Pre G) (AW G)) 0 0 (AW G) := (m_rec6n hG 12).1 hk h
