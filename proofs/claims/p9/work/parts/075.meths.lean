/-! what a callee must be, of all methods -/
def okMR (a b : Nat) : Bool := (List.range (b - a)).all (fun j => okMeth (a + j))
theorem om_0 : okMR 1 18 = true := by decide +kernel
theorem om_1 : okMR 18 35 = true := by decide +kernel
theorem om_2 : okMR 35 52 = true := by decide +kernel
theorem om_3 : okMR 52 69 = true := by decide +kernel
theorem om_4 : okMR 69 86 = true := by decide +kernel
theorem om_5 : okMR 86 103 = true := by decide +kernel
theorem om_6 : okMR 103 120 = true := by decide +kernel
theorem om_7 : okMR 120 137 = true := by decide +kernel
theorem om_8 : okMR 137 154 = true := by decide +kernel
theorem om_9 : okMR 154 171 = true := by decide +kernel
theorem om_10 : okMR 171 188 = true := by decide +kernel
theorem om_11 : okMR 188 202 = true := by decide +kernel
theorem okMR_get {a b k : Nat} (h : okMR a b = true) (h1 : a ≤ k) (h2 : k < b) : okMeth k = true := by
  have q := List.all_eq_true.mp h (k - a) (List.mem_range.mpr (by omega))
  rw [show a + (k - a) = k by omega] at q
  exact q
theorem okMeth_all {k : Nat} (h : k < nK) (h1 : 1 ≤ k) : okMeth k = true := by
  have h : k < 202 := h
  by_cases q0 : k < 18
  · exact okMR_get om_0 (by omega) q0
  by_cases q1 : k < 35
  · exact okMR_get om_1 (by omega) q1
  by_cases q2 : k < 52
  · exact okMR_get om_2 (by omega) q2
  by_cases q3 : k < 69
  · exact okMR_get om_3 (by omega) q3
  by_cases q4 : k < 86
  · exact okMR_get om_4 (by omega) q4
  by_cases q5 : k < 103
  · exact okMR_get om_5 (by omega) q5
  by_cases q6 : k < 120
  · exact okMR_get om_6 (by omega) q6
  by_cases q7 : k < 137
  · exact okMR_get om_7 (by omega) q7
  by_cases q8 : k < 154
  · exact okMR_get om_8 (by omega) q8
  by_cases q9 : k < 171
  · exact okMR_get om_9 (by omega) q9
  by_cases q10 : k < 188
  · exact okMR_get om_10 (by omega) q10
  exact okMR_get om_11 (by omega) h
