/-! every instruction of the lists is that of the bytes -/
def okO (k i w nx : Nat) (ins : Instr) (len : Nat) : Bool := match iO w with
  | 0 => ok0 w nx ins len
  | 1 => ok1 k w nx ins len
  | 2 => ok2 w nx ins len
  | 3 => ok3 k w nx ins len
  | 4 => ok4 w nx ins len
  | 5 => ok5 w nx ins len
  | 6 => ok6 w nx ins len
  | 7 => ok7 k w nx ins len
  | 8 => ok8 k w nx ins len
  | 9 => ok9 k w nx ins len
  | 10 => ok10 k w nx ins len
  | 11 => ok11 w nx ins len
  | 12 => ok12 w nx ins len
  | 13 => ok13 w nx ins len
  | 14 => ok14 w nx ins len
  | 15 => ok15 w nx ins len
  | 16 => ok16 w nx ins len
  | 17 => ok17 k w nx ins len
  | 18 => ok18 k w nx ins len
  | 19 => ok19 k i w nx ins len
  | 20 => ok20 k w ins len
  | 21 => ok21 k w ins len
  | 22 => ok22 k w nx ins len
  | 23 => ok23 k w nx ins len
  | 24 => ok24 k w nx ins len
  | 25 => ok25 w nx ins len
  | 26 => ok26 w nx ins len
  | 27 => ok27 w nx ins len
  | 28 => ok28 w nx ins len
  | 29 => ok29 w nx ins len
  | 30 => ok30 w nx ins len
  | 31 => ok31 w nx ins len
  | 32 => ok32 w nx ins len
  | 33 => decide (ins = .return_) && len == 1
  | 34 => decide (ins = .ireturn) && len == 1
  | 35 => decide (ins = .lreturn) && len == 1
  | 36 => decide (ins = .areturn) && len == 1
  | 37 => ok37 k w nx ins len
  | 38 => ok38 k w nx ins len
  | 39 => ok39 k w nx ins len
  | 40 => ok40 k w nx ins len
  | 41 => ok41 k w nx ins len
  | 42 => ok42 k w ins len
  | _ => false
def okI (k i : Nat) : Bool := match decode (mB k) (pcA k i) with
  | .ok (ins, len) => okO k i (wd k i) (pcA k (i + 1)) ins len || iO (wd k i) == 99
  | .error _ => false
def okAll (k : Nat) : Bool := (List.range (cod k).length).all (okI k)
set_option maxRecDepth 100000 in
theorem tabs0 : (List.range 102).all okAll = true := by decide +kernel
set_option maxRecDepth 100000 in
theorem tabs1 : (List.range 102).all (fun k => okAll (102 + k)) = true := by decide +kernel
theorem okI_dec {k i : Nat} (hi : i < (cod k).length) (hk : k < 204) (h99 : iO (wd k i) ≠ 99) : ∃ ins len, decode (mB k) (pcA k i) = .ok (ins, len) ∧ okO k i (wd k i) (pcA k (i + 1)) ins len = true := by
  have hA : okAll k = true := by
    by_cases h : k < 102
    · exact List.all_eq_true.mp tabs0 k (List.mem_range.mpr h)
    · have q := List.all_eq_true.mp tabs1 (k - 102) (List.mem_range.mpr (by omega))
      rw [show 102 + (k - 102) = k by omega] at q
      exact q
  have hI := List.all_eq_true.mp hA i (List.mem_range.mpr hi)
  unfold okI at hI
  split at hI
  · rename_i ins len hd
    refine ⟨ins, len, hd, ?_⟩
    rcases Bool.or_eq_true_iff.mp hI with h | h
    · exact h
    · exact absurd (by simpa using h) h99
  · cases hI
